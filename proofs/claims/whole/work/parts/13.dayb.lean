def f_X0_swearingWithin_L5 (σ : SX) (b : Nat) : Nat → Int32 → Int32 → Int32 → Int32 → Option Int32
  | 0, _, _, _, _ => none
  | n + 1, y1, y2, y3, y4 => if (gF σ b 2) ≤ y4 then (some y3) else (ob1 (f_X4_hasBit y2 y4) (fun r_17 => if r_17 = 0 then (f_X0_swearingWithin_L5 σ b n y1 y2 y3 (y4 + (1 : Int32))) else (oin y4 6 (ob1 (f_X4_hasBit y1 (gR σ (b + 4) y4.toNatClampNeg)) (fun r_31 => if r_31 = 0 then (f_X0_swearingWithin_L5 σ b n y1 y2 y3 (y4 + (1 : Int32))) else (oin y4 6 (ob1 (f_X4_hasBit y1 (gR σ (b + 5) y4.toNatClampNeg)) (fun r_45 => if r_45 = 0 then (f_X0_swearingWithin_L5 σ b n y1 y2 y3 (y4 + (1 : Int32))) else (oin y4 6 (f_X0_swearingWithin_L5 σ b n y1 y2 (y3 ||| ((1 : Int32) <<< ((gR σ (b + 4) y4.toNatClampNeg) &&& 31))) (y4 + (1 : Int32))))))))))))
def f_X0_swearingWithin (σ : SX) (b : Nat) (x1 : Int32) (x2 : Int32) : Option Int32 := f_X0_swearingWithin_L5 σ b 100 x1 x2 (0 : Int32) (0 : Int32)
set_option maxRecDepth 100000 in
set_option maxHeartbeats 4000000 in
theorem k_X0_swearingWithin (l : Launch) {D : va_G} {A : Nat → Prop} {cI cZ cS : ClassId} {ad : Nat → Nat} {ro : Option Nat} (hAd : ∀ ro σ, va_D A (WX cI cZ cS ad ro σ)) {σ : SX} {b : Nat} {x1 : Int32} {x2 : Int32} {r : Int32} (hb0 : isDy b) (h : f_X0_swearingWithin σ b x1 x2 = some r) : Ct (QI D A r (WX cI cZ cS ad ro σ)) l yX0_swearingWithin cX0_swearingWithin 5 (some .int) 1 21 D (tyS cI cZ cS) A [.ref (ad b), .int x1, .int x2] (WX cI cZ cS ad ro σ) := by
  refine Ct.of (by decide +kernel) (Nat.le_of_ble_eq_true rfl) ?_
  intro p e s m below meth c ls S hK hr hlocks hP hS hl
  have hx := S.1
  have hb := S.2.1
  have hl : lv_has ls 5 [(0, .ref (ad b)), (1, .int x1), (2, .int x2)] := hl
  have loop5 : ∀ (n : Nat) (y1 : Int32) (y2 : Int32) (y3 : Int32) (y4 : Int32) (H : Heap) (locs : List Loc) (ls : Array Slot), f_X0_swearingWithin_L5 σ b n y1 y2 y3 y4 = some r → va_P D vwCl (WX cI cZ cS ad ro σ) H → va_S A s.heap H locs → lv_has ls 5 [(0, .ref (ad b)), (1, .int y1), (2, .int y2), (3, .int y3), (4, .int y4)] → W p l e (rmO 1 21) s m [.ref (ad b), .int x1, .int x2].toArray below meth c H locs 0 0 (MQ below (QI D A r (WX cI cZ cS ad ro σ)) [.ref (ad b), .int x1, .int x2].toArray s 0 0 A) (F0 m 5 ls []) := by
    intro n
    induction n with
    | zero => intro y1 y2 y3 y4 H locs ls h; cases h
    | succ n ih =>
      intro y1 y2 y3 y4 H locs ls h hP hS hl
      rw [f_X0_swearingWithin_L5] at h
      refine lv_iload hx hb dX0_swearingWithin_5 (lv_at hl 4 rfl) ?_
      refine lv_aload_n hx hb dX0_swearingWithin_7 rfl (lv_at hl 0 rfl) ?_
      refine gt_X0_40 S hK hP hb0 dX0_swearingWithin_8 ?_
      refine lv_icmp_ge (tgt := 69) hx hb dX0_swearingWithin_11 (by decide) (fun c_11 => ?_) (fun c_11 => ?_)
      · replace h := ite_t c_11 h
        refine lv_iload_n hx hb dX0_swearingWithin_69 rfl (lv_at hl 3 rfl) ?_
        exact k_iret S hr hlocks hP hS (Option.some.inj h) dX0_swearingWithin_70
      · replace h := ite_f c_11 h
        refine lv_iload_n hx hb dX0_swearingWithin_14 rfl (lv_at hl 2 rfl) ?_
        refine lv_iload hx hb dX0_swearingWithin_15 (lv_at hl 4 rfl) ?_
        obtain ⟨r_17, e_17, h⟩ := ob1_of h
        refine k_goI (k_runB (As := [.int y2, .int y4]) (rest := []) S hK hP (k_X4_hasBit l  e_17) cy_X4_hasBit rfl hl.1 rfl (Nat.le_of_ble_eq_true rfl) dX0_swearingWithin_17 ⟨Nat.le_of_ble_eq_true rfl, Nat.le_of_ble_eq_true rfl⟩ ⟨Nat.zero_le _, Nat.zero_le _⟩) hS (fun _ h => h) (fun H locs hP hS _ _ => ?_)
        refine lv_if_eq (tgt := 63) hx hb dX0_swearingWithin_20 (by decide) (fun c_20 => ?_) (fun c_20 => ?_)
        · replace h := ite_t c_20 h
          refine lv_iinc (v := y4 + (1 : Int32)) (lv' := [(4, .int (y4 + (1 : Int32))), (0, .ref (ad b)), (1, .int y1), (2, .int y2), (3, .int y3)]) hx hb dX0_swearingWithin_63 hl (k := 4) rfl rfl (by decide) rfl (fun ls hl => ?_)
          refine lv_goto (tgt := 5) hx hb dX0_swearingWithin_66 (by decide) ?_
          exact ih y1 y2 y3 (y4 + (1 : Int32)) _ _ _ h hP hS (lv_sub hl [1, 2, 3, 4, 0] rfl)
        · replace h := ite_f c_20 h
          refine lv_iload_n hx hb dX0_swearingWithin_23 rfl (lv_at hl 1 rfl) ?_
          refine lv_aload_n hx hb dX0_swearingWithin_24 rfl (lv_at hl 0 rfl) ?_
          refine gt_X0_25 S hK hP hb0 dX0_swearingWithin_25 ?_
          refine lv_iload hx hb dX0_swearingWithin_28 (lv_at hl 4 rfl) ?_
          obtain ⟨hi_30, h⟩ := oin_of h
          refine k_iald S hK hP (xDr4 hb0) hi_30 dX0_swearingWithin_30 ?_
          obtain ⟨r_31, e_31, h⟩ := ob1_of h
          refine k_goI (k_runB (As := [.int y1, .int (gR σ (b + 4) y4.toNatClampNeg)]) (rest := []) S hK hP (k_X4_hasBit l  e_31) cy_X4_hasBit rfl hl.1 rfl (Nat.le_of_ble_eq_true rfl) dX0_swearingWithin_31 ⟨Nat.le_of_ble_eq_true rfl, Nat.le_of_ble_eq_true rfl⟩ ⟨Nat.zero_le _, Nat.zero_le _⟩) hS (fun _ h => h) (fun H locs hP hS _ _ => ?_)
          refine lv_if_eq (tgt := 63) hx hb dX0_swearingWithin_34 (by decide) (fun c_34 => ?_) (fun c_34 => ?_)
          · replace h := ite_t c_34 h
            refine lv_iinc (v := y4 + (1 : Int32)) (lv' := [(4, .int (y4 + (1 : Int32))), (0, .ref (ad b)), (1, .int y1), (2, .int y2), (3, .int y3)]) hx hb dX0_swearingWithin_63 hl (k := 4) rfl rfl (by decide) rfl (fun ls hl => ?_)
            refine lv_goto (tgt := 5) hx hb dX0_swearingWithin_66 (by decide) ?_
            exact ih y1 y2 y3 (y4 + (1 : Int32)) _ _ _ h hP hS (lv_sub hl [1, 2, 3, 4, 0] rfl)
          · replace h := ite_f c_34 h
            refine lv_iload_n hx hb dX0_swearingWithin_37 rfl (lv_at hl 1 rfl) ?_
            refine lv_aload_n hx hb dX0_swearingWithin_38 rfl (lv_at hl 0 rfl) ?_
            refine gt_X0_28 S hK hP hb0 dX0_swearingWithin_39 ?_
            refine lv_iload hx hb dX0_swearingWithin_42 (lv_at hl 4 rfl) ?_
            obtain ⟨hi_44, h⟩ := oin_of h
            refine k_iald S hK hP (xDr5 hb0) hi_44 dX0_swearingWithin_44 ?_
            obtain ⟨r_45, e_45, h⟩ := ob1_of h
            refine k_goI (k_runB (As := [.int y1, .int (gR σ (b + 5) y4.toNatClampNeg)]) (rest := []) S hK hP (k_X4_hasBit l  e_45) cy_X4_hasBit rfl hl.1 rfl (Nat.le_of_ble_eq_true rfl) dX0_swearingWithin_45 ⟨Nat.le_of_ble_eq_true rfl, Nat.le_of_ble_eq_true rfl⟩ ⟨Nat.zero_le _, Nat.zero_le _⟩) hS (fun _ h => h) (fun H locs hP hS _ _ => ?_)
            refine lv_if_eq (tgt := 63) hx hb dX0_swearingWithin_48 (by decide) (fun c_48 => ?_) (fun c_48 => ?_)
            · replace h := ite_t c_48 h
              refine lv_iinc (v := y4 + (1 : Int32)) (lv' := [(4, .int (y4 + (1 : Int32))), (0, .ref (ad b)), (1, .int y1), (2, .int y2), (3, .int y3)]) hx hb dX0_swearingWithin_63 hl (k := 4) rfl rfl (by decide) rfl (fun ls hl => ?_)
              refine lv_goto (tgt := 5) hx hb dX0_swearingWithin_66 (by decide) ?_
              exact ih y1 y2 y3 (y4 + (1 : Int32)) _ _ _ h hP hS (lv_sub hl [1, 2, 3, 4, 0] rfl)
            · replace h := ite_f c_48 h
              refine lv_iload_n hx hb dX0_swearingWithin_51 rfl (lv_at hl 3 rfl) ?_
              refine lv_iconst (v := (1 : Int32)) hx hb dX0_swearingWithin_52 (by decide) ?_
              refine lv_aload_n hx hb dX0_swearingWithin_53 rfl (lv_at hl 0 rfl) ?_
              refine gt_X0_25 S hK hP hb0 dX0_swearingWithin_54 ?_
              refine lv_iload hx hb dX0_swearingWithin_57 (lv_at hl 4 rfl) ?_
              obtain ⟨hi_59, h⟩ := oin_of h
              refine k_iald S hK hP (xDr4 hb0) hi_59 dX0_swearingWithin_59 ?_
              refine lv_ishl hx hb dX0_swearingWithin_60 ?_
              refine lv_ior hx hb dX0_swearingWithin_61 ?_
              refine lv_istore_n (lv' := [(3, .int (y3 ||| ((1 : Int32) <<< ((gR σ (b + 4) y4.toNatClampNeg) &&& 31)))), (0, .ref (ad b)), (1, .int y1), (2, .int y2), (4, .int y4)]) hx hb dX0_swearingWithin_62 rfl hl (by decide) rfl (fun ls hl => ?_)
              refine lv_iinc (v := y4 + (1 : Int32)) (lv' := [(4, .int (y4 + (1 : Int32))), (3, .int (y3 ||| ((1 : Int32) <<< ((gR σ (b + 4) y4.toNatClampNeg) &&& 31)))), (0, .ref (ad b)), (1, .int y1), (2, .int y2)]) hx hb dX0_swearingWithin_63 hl (k := 4) rfl rfl (by decide) rfl (fun ls hl => ?_)
              refine lv_goto (tgt := 5) hx hb dX0_swearingWithin_66 (by decide) ?_
              exact ih y1 y2 (y3 ||| ((1 : Int32) <<< ((gR σ (b + 4) y4.toNatClampNeg) &&& 31))) (y4 + (1 : Int32)) _ _ _ h hP hS (lv_sub hl [2, 3, 4, 1, 0] rfl)
  rw [f_X0_swearingWithin] at h
  refine lv_iconst (v := (0 : Int32)) hx hb dX0_swearingWithin_0 (by decide) ?_
  refine lv_istore_n (lv' := [(3, .int (0 : Int32)), (0, .ref (ad b)), (1, .int x1), (2, .int x2)]) hx hb dX0_swearingWithin_1 rfl hl (by decide) rfl (fun ls hl => ?_)
  refine lv_iconst (v := (0 : Int32)) hx hb dX0_swearingWithin_2 (by decide) ?_
  refine lv_istore (lv' := [(4, .int (0 : Int32)), (3, .int (0 : Int32)), (0, .ref (ad b)), (1, .int x1), (2, .int x2)]) hx hb dX0_swearingWithin_3 hl (by decide) rfl (fun ls hl => ?_)
  exact loop5 100 x1 x2 (0 : Int32) (0 : Int32) _ _ _ h hP hS (lv_sub hl [2, 3, 4, 1, 0] rfl)
def f_X0_hasRing_L11 (σ : SX) (b : Nat) : Nat → Int32 → Int32 → Int32 → Option Int32
  | 0, _, _, _ => none
  | n + 1, y1, y2, y3 => if (gF σ b 1) ≤ y3 then (if y2 = 0 then (some (0 : Int32)) else (some (1 : Int32))) else (ob1 (f_X0_swearingWithin σ b y2 y1) (fun r_22 => f_X0_hasRing_L11 σ b n y1 r_22 (y3 + (1 : Int32))))
def f_X0_hasRing (σ : SX) (b : Nat) (x1 : Int32) : Option Int32 := f_X0_hasRing_L11 σ b 100 x1 (((1 : Int32) <<< ((gF σ b 1) &&& 31)) - (1 : Int32)) (0 : Int32)
set_option maxRecDepth 100000 in
set_option maxHeartbeats 4000000 in
theorem k_X0_hasRing (l : Launch) {D : va_G} {A : Nat → Prop} {cI cZ cS : ClassId} {ad : Nat → Nat} {ro : Option Nat} (hAd : ∀ ro σ, va_D A (WX cI cZ cS ad ro σ)) {σ : SX} {b : Nat} {x1 : Int32} {r : Int32} (hb0 : isDy b) (h : f_X0_hasRing σ b x1 = some r) : Ct (QI D A r (WX cI cZ cS ad ro σ)) l yX0_hasRing cX0_hasRing 4 (some .boolean) 2 45 D (tyS cI cZ cS) A [.ref (ad b), .int x1] (WX cI cZ cS ad ro σ) := by
  refine Ct.of (by decide +kernel) (Nat.le_of_ble_eq_true rfl) ?_
  intro p e s m below meth c ls S hK hr hlocks hP hS hl
  have hx := S.1
  have hb := S.2.1
  have hl : lv_has ls 4 [(0, .ref (ad b)), (1, .int x1)] := hl
  have loop11 : ∀ (n : Nat) (y1 : Int32) (y2 : Int32) (y3 : Int32) (H : Heap) (locs : List Loc) (ls : Array Slot), f_X0_hasRing_L11 σ b n y1 y2 y3 = some r → va_P D vwCl (WX cI cZ cS ad ro σ) H → va_S A s.heap H locs → lv_has ls 4 [(0, .ref (ad b)), (1, .int y1), (2, .int y2), (3, .int y3)] → W p l e (rmO 2 45) s m [.ref (ad b), .int x1].toArray below meth c H locs 0 0 (MQ below (QI D A r (WX cI cZ cS ad ro σ)) [.ref (ad b), .int x1].toArray s 0 0 A) (F0 m 11 ls []) := by
    intro n
    induction n with
    | zero => intro y1 y2 y3 H locs ls h; cases h
    | succ n ih =>
      intro y1 y2 y3 H locs ls h hP hS hl
      rw [f_X0_hasRing_L11] at h
      refine lv_iload_n hx hb dX0_hasRing_11 rfl (lv_at hl 3 rfl) ?_
      refine lv_aload_n hx hb dX0_hasRing_12 rfl (lv_at hl 0 rfl) ?_
      refine gt_X0_37 S hK hP hb0 dX0_hasRing_13 ?_
      refine lv_icmp_ge (tgt := 32) hx hb dX0_hasRing_16 (by decide) (fun c_16 => ?_) (fun c_16 => ?_)
      · replace h := ite_t c_16 h
        refine lv_iload_n hx hb dX0_hasRing_32 rfl (lv_at hl 2 rfl) ?_
        refine lv_if_eq (tgt := 40) hx hb dX0_hasRing_33 (by decide) (fun c_33 => ?_) (fun c_33 => ?_)
        · replace h := ite_t c_33 h
          refine lv_iconst (v := (0 : Int32)) hx hb dX0_hasRing_40 (by decide) ?_
          exact k_zret S hr hlocks hP hS (Option.some.inj h) (Or.inl rfl) dX0_hasRing_41
        · replace h := ite_f c_33 h
          refine lv_iconst (v := (1 : Int32)) hx hb dX0_hasRing_36 (by decide) ?_
          refine lv_goto (tgt := 41) hx hb dX0_hasRing_37 (by decide) ?_
          exact k_zret S hr hlocks hP hS (Option.some.inj h) (Or.inr rfl) dX0_hasRing_41
      · replace h := ite_f c_16 h
        refine lv_aload_n hx hb dX0_hasRing_19 rfl (lv_at hl 0 rfl) ?_
        refine lv_iload_n hx hb dX0_hasRing_20 rfl (lv_at hl 2 rfl) ?_
        refine lv_iload_n hx hb dX0_hasRing_21 rfl (lv_at hl 1 rfl) ?_
        obtain ⟨r_22, e_22, h⟩ := ob1_of h
        refine k_goI (k_runV (As := [.int y2, .int y1]) (rest := []) S hK hP (k_X0_swearingWithin l hAd hb0 e_22) cy_X0_swearingWithin wd_470 rfl (xD hb0) rfl hl.1 rfl (Nat.le_of_ble_eq_true rfl) dX0_hasRing_22 ⟨Nat.le_of_ble_eq_true rfl, Nat.le_of_ble_eq_true rfl⟩ ⟨Nat.zero_le _, Nat.zero_le _⟩) hS (fun _ h => h) (fun H locs hP hS _ _ => ?_)
        refine lv_istore_n (lv' := [(2, .int r_22), (0, .ref (ad b)), (1, .int y1), (3, .int y3)]) hx hb dX0_hasRing_25 rfl hl (by decide) rfl (fun ls hl => ?_)
        refine lv_iinc (v := y3 + (1 : Int32)) (lv' := [(3, .int (y3 + (1 : Int32))), (2, .int r_22), (0, .ref (ad b)), (1, .int y1)]) hx hb dX0_hasRing_26 hl (k := 3) rfl rfl (by decide) rfl (fun ls hl => ?_)
        refine lv_goto (tgt := 11) hx hb dX0_hasRing_29 (by decide) ?_
        exact ih y1 r_22 (y3 + (1 : Int32)) _ _ _ h hP hS (lv_sub hl [2, 3, 1, 0] rfl)
  rw [f_X0_hasRing] at h
  refine lv_iconst (v := (1 : Int32)) hx hb dX0_hasRing_0 (by decide) ?_
  refine lv_aload_n hx hb dX0_hasRing_1 rfl (lv_at hl 0 rfl) ?_
  refine gt_X0_37 S hK hP hb0 dX0_hasRing_2 ?_
  refine lv_ishl hx hb dX0_hasRing_5 ?_
  refine lv_iconst (v := (1 : Int32)) hx hb dX0_hasRing_6 (by decide) ?_
  refine lv_isub hx hb dX0_hasRing_7 ?_
  refine lv_istore_n (lv' := [(2, .int (((1 : Int32) <<< ((gF σ b 1) &&& 31)) - (1 : Int32))), (0, .ref (ad b)), (1, .int x1)]) hx hb dX0_hasRing_8 rfl hl (by decide) rfl (fun ls hl => ?_)
  refine lv_iconst (v := (0 : Int32)) hx hb dX0_hasRing_9 (by decide) ?_
  refine lv_istore_n (lv' := [(3, .int (0 : Int32)), (2, .int (((1 : Int32) <<< ((gF σ b 1) &&& 31)) - (1 : Int32))), (0, .ref (ad b)), (1, .int x1)]) hx hb dX0_hasRing_10 rfl hl (by decide) rfl (fun ls hl => ?_)
  exact loop11 100 x1 (((1 : Int32) <<< ((gF σ b 1) &&& 31)) - (1 : Int32)) (0 : Int32) _ _ _ h hP hS (lv_sub hl [2, 3, 1, 0] rfl)
def f_X0_leastToLetGo_L9 (σ : SX) (b : Nat) : Nat → Int32 → Int32 → Int32 → Option Int32
  | 0, _, _, _ => none
  | n + 1, y1, y2, y3 => if ((1 : Int32) <<< ((gF σ b 2) &&& 31)) ≤ y3 then (some y2) else (ob1 (f_J6_bitCount_0f7a4 y3) (fun r_20 => ob1 (f_J6_bitCount_0f7a4 y2) (fun r_24 => if r_24 ≤ r_20 then (f_X0_leastToLetGo_L9 σ b n y1 y2 (y3 + (1 : Int32))) else (if (y3 &&& (y1 ^^^ (-1 : Int32))) = 0 then (ob1 (f_X0_hasRing σ b (y1 &&& (y3 ^^^ (-1 : Int32)))) (fun r_56 => if r_56 = 0 then (f_X0_leastToLetGo_L9 σ b n y1 y3 (y3 + (1 : Int32))) else (f_X0_leastToLetGo_L9 σ b n y1 y2 (y3 + (1 : Int32))))) else (f_X0_leastToLetGo_L9 σ b n y1 y2 (y3 + (1 : Int32)))))))
def f_X0_leastToLetGo (σ : SX) (b : Nat) : Option Int32 := ob1 (f_X0_bindingOaths σ b) (fun r_1 => f_X0_leastToLetGo_L9 σ b 100 r_1 r_1 (0 : Int32))
set_option maxRecDepth 100000 in
set_option maxHeartbeats 4000000 in
theorem k_X0_leastToLetGo (l : Launch) {D : va_G} {A : Nat → Prop} {cI cZ cS : ClassId} {ad : Nat → Nat} {ro : Option Nat} (hAd : ∀ ro σ, va_D A (WX cI cZ cS ad ro σ)) {σ : SX} {b : Nat} {r : Int32} (hb0 : isDy b) (h : f_X0_leastToLetGo σ b = some r) : Ct (QI D A r (WX cI cZ cS ad ro σ)) l yX0_leastToLetGo cX0_leastToLetGo 5 (some .int) 4 87 D (tyS cI cZ cS) A [.ref (ad b)] (WX cI cZ cS ad ro σ) := by
  refine Ct.of (by decide +kernel) (Nat.le_of_ble_eq_true rfl) ?_
  intro p e s m below meth c ls S hK hr hlocks hP hS hl
  have hx := S.1
  have hb := S.2.1
  have hl : lv_has ls 5 [(0, .ref (ad b))] := hl
  have loop9 : ∀ (n : Nat) (y1 : Int32) (y2 : Int32) (y3 : Int32) (H : Heap) (locs : List Loc) (ls : Array Slot), f_X0_leastToLetGo_L9 σ b n y1 y2 y3 = some r → va_P D vwCl (WX cI cZ cS ad ro σ) H → va_S A s.heap H locs → lv_has ls 5 [(0, .ref (ad b)), (1, .int y1), (2, .int y2), (3, .int y3)] → W p l e (rmO 4 87) s m [.ref (ad b)].toArray below meth c H locs 0 0 (MQ below (QI D A r (WX cI cZ cS ad ro σ)) [.ref (ad b)].toArray s 0 0 A) (F0 m 9 ls []) := by
    intro n
    induction n with
    | zero => intro y1 y2 y3 H locs ls h; cases h
    | succ n ih =>
      intro y1 y2 y3 H locs ls h hP hS hl
      rw [f_X0_leastToLetGo_L9] at h
      refine lv_iload_n hx hb dX0_leastToLetGo_9 rfl (lv_at hl 3 rfl) ?_
      refine lv_iconst (v := (1 : Int32)) hx hb dX0_leastToLetGo_10 (by decide) ?_
      refine lv_aload_n hx hb dX0_leastToLetGo_11 rfl (lv_at hl 0 rfl) ?_
      refine gt_X0_40 S hK hP hb0 dX0_leastToLetGo_12 ?_
      refine lv_ishl hx hb dX0_leastToLetGo_15 ?_
      refine lv_icmp_ge (tgt := 70) hx hb dX0_leastToLetGo_16 (by decide) (fun c_16 => ?_) (fun c_16 => ?_)
      · replace h := ite_t c_16 h
        refine lv_iload_n hx hb dX0_leastToLetGo_70 rfl (lv_at hl 2 rfl) ?_
        exact k_iret S hr hlocks hP hS (Option.some.inj h) dX0_leastToLetGo_71
      · replace h := ite_f c_16 h
        refine lv_iload_n hx hb dX0_leastToLetGo_19 rfl (lv_at hl 3 rfl) ?_
        obtain ⟨r_20, e_20, h⟩ := ob1_of h
        refine k_goI (k_runS (As := [.int y3]) (rest := []) S hK hP (k_J6_bitCount_0f7a4 l  e_20) cy_J6_bitCount_0f7a4 wd_460 rfl hl.1 rfl (Nat.le_of_ble_eq_true rfl) dX0_leastToLetGo_20 ⟨Nat.le_of_ble_eq_true rfl, Nat.le_of_ble_eq_true rfl⟩ ⟨Nat.zero_le _, Nat.zero_le _⟩) hS (fun _ h => h) (fun H locs hP hS _ _ => ?_)
        refine lv_iload_n hx hb dX0_leastToLetGo_23 rfl (lv_at hl 2 rfl) ?_
        obtain ⟨r_24, e_24, h⟩ := ob1_of h
        refine k_goI (k_runS (As := [.int y2]) (rest := [.int r_20]) S hK hP (k_J6_bitCount_0f7a4 l  e_24) cy_J6_bitCount_0f7a4 wd_460 rfl hl.1 rfl (Nat.le_of_ble_eq_true rfl) dX0_leastToLetGo_24 ⟨Nat.le_of_ble_eq_true rfl, Nat.le_of_ble_eq_true rfl⟩ ⟨Nat.zero_le _, Nat.zero_le _⟩) hS (fun _ h => h) (fun H locs hP hS _ _ => ?_)
        refine lv_icmp_ge (tgt := 34) hx hb dX0_leastToLetGo_27 (by decide) (fun c_27 => ?_) (fun c_27 => ?_)
        · replace h := ite_t c_27 h
          refine lv_iconst (v := (0 : Int32)) hx hb dX0_leastToLetGo_34 (by decide) ?_
          refine lv_istore (lv' := [(4, .int (0 : Int32)), (0, .ref (ad b)), (1, .int y1), (2, .int y2), (3, .int y3)]) hx hb dX0_leastToLetGo_35 hl (by decide) rfl (fun ls hl => ?_)
          refine lv_iload hx hb dX0_leastToLetGo_37 (lv_at hl 0 rfl) ?_
          refine lv_if_eq (tgt := 64) hx hb dX0_leastToLetGo_39 (by decide) (fun _ => ?_) (fun c => absurd (by decide) c)
          refine lv_iinc (v := y3 + (1 : Int32)) (lv' := [(3, .int (y3 + (1 : Int32))), (4, .int (0 : Int32)), (0, .ref (ad b)), (1, .int y1), (2, .int y2)]) hx hb dX0_leastToLetGo_64 hl (k := 4) rfl rfl (by decide) rfl (fun ls hl => ?_)
          refine lv_goto (tgt := 9) hx hb dX0_leastToLetGo_67 (by decide) ?_
          exact ih y1 y2 (y3 + (1 : Int32)) _ _ _ h hP hS (lv_sub hl [2, 3, 4, 0] rfl)
        · replace h := ite_f c_27 h
          refine lv_iconst (v := (1 : Int32)) hx hb dX0_leastToLetGo_30 (by decide) ?_
          refine lv_goto (tgt := 35) hx hb dX0_leastToLetGo_31 (by decide) ?_
          refine lv_istore (lv' := [(4, .int (1 : Int32)), (0, .ref (ad b)), (1, .int y1), (2, .int y2), (3, .int y3)]) hx hb dX0_leastToLetGo_35 hl (by decide) rfl (fun ls hl => ?_)
          refine lv_iload hx hb dX0_leastToLetGo_37 (lv_at hl 0 rfl) ?_
          refine lv_if_eq (tgt := 64) hx hb dX0_leastToLetGo_39 (by decide) (fun c => absurd c (by decide)) (fun _ => ?_)
          refine lv_iload_n hx hb dX0_leastToLetGo_42 rfl (lv_at hl 4 rfl) ?_
          refine lv_iload_n hx hb dX0_leastToLetGo_43 rfl (lv_at hl 2 rfl) ?_
          refine lv_iconst (v := (-1 : Int32)) hx hb dX0_leastToLetGo_44 (by decide) ?_
          refine lv_ixor hx hb dX0_leastToLetGo_45 ?_
          refine lv_iand hx hb dX0_leastToLetGo_46 ?_
          refine lv_if_ne (tgt := 64) hx hb dX0_leastToLetGo_47 (by decide) (fun c_47 => ?_) (fun c_47 => ?_)
          · replace h := ite_f c_47 h
            refine lv_iinc (v := y3 + (1 : Int32)) (lv' := [(3, .int (y3 + (1 : Int32))), (4, .int (1 : Int32)), (0, .ref (ad b)), (1, .int y1), (2, .int y2)]) hx hb dX0_leastToLetGo_64 hl (k := 4) rfl rfl (by decide) rfl (fun ls hl => ?_)
            refine lv_goto (tgt := 9) hx hb dX0_leastToLetGo_67 (by decide) ?_
            exact ih y1 y2 (y3 + (1 : Int32)) _ _ _ h hP hS (lv_sub hl [2, 3, 4, 0] rfl)
          · replace h := ite_t c_47 h
            refine lv_aload_n hx hb dX0_leastToLetGo_50 rfl (lv_at hl 1 rfl) ?_
            refine lv_iload_n hx hb dX0_leastToLetGo_51 rfl (lv_at hl 2 rfl) ?_
            refine lv_iload_n hx hb dX0_leastToLetGo_52 rfl (lv_at hl 4 rfl) ?_
            refine lv_iconst (v := (-1 : Int32)) hx hb dX0_leastToLetGo_53 (by decide) ?_
            refine lv_ixor hx hb dX0_leastToLetGo_54 ?_
            refine lv_iand hx hb dX0_leastToLetGo_55 ?_
            obtain ⟨r_56, e_56, h⟩ := ob1_of h
            refine k_goI (k_runV (As := [.int (y1 &&& (y3 ^^^ (-1 : Int32)))]) (rest := []) S hK hP (k_X0_hasRing l hAd hb0 e_56) cy_X0_hasRing wd_466 rfl (xD hb0) rfl hl.1 rfl (Nat.le_of_ble_eq_true rfl) dX0_leastToLetGo_56 ⟨Nat.le_of_ble_eq_true rfl, Nat.le_of_ble_eq_true rfl⟩ ⟨Nat.zero_le _, Nat.zero_le _⟩) hS (fun _ h => h) (fun H locs hP hS _ _ => ?_)
            refine lv_if_ne (tgt := 64) hx hb dX0_leastToLetGo_59 (by decide) (fun c_59 => ?_) (fun c_59 => ?_)
            · replace h := ite_f c_59 h
              refine lv_iinc (v := y3 + (1 : Int32)) (lv' := [(3, .int (y3 + (1 : Int32))), (4, .int (1 : Int32)), (0, .ref (ad b)), (1, .int y1), (2, .int y2)]) hx hb dX0_leastToLetGo_64 hl (k := 4) rfl rfl (by decide) rfl (fun ls hl => ?_)
              refine lv_goto (tgt := 9) hx hb dX0_leastToLetGo_67 (by decide) ?_
              exact ih y1 y2 (y3 + (1 : Int32)) _ _ _ h hP hS (lv_sub hl [2, 3, 4, 0] rfl)
            · replace h := ite_t c_59 h
              refine lv_iload_n hx hb dX0_leastToLetGo_62 rfl (lv_at hl 4 rfl) ?_
              refine lv_istore_n (lv' := [(2, .int y3), (4, .int (1 : Int32)), (0, .ref (ad b)), (1, .int y1), (3, .int y3)]) hx hb dX0_leastToLetGo_63 rfl hl (by decide) rfl (fun ls hl => ?_)
              refine lv_iinc (v := y3 + (1 : Int32)) (lv' := [(3, .int (y3 + (1 : Int32))), (2, .int y3), (4, .int (1 : Int32)), (0, .ref (ad b)), (1, .int y1)]) hx hb dX0_leastToLetGo_64 hl (k := 4) rfl rfl (by decide) rfl (fun ls hl => ?_)
              refine lv_goto (tgt := 9) hx hb dX0_leastToLetGo_67 (by decide) ?_
              exact ih y1 y3 (y3 + (1 : Int32)) _ _ _ h hP hS (lv_sub hl [3, 4, 1, 0] rfl)
  rw [f_X0_leastToLetGo] at h
  refine lv_aload_n hx hb dX0_leastToLetGo_0 rfl (lv_at hl 0 rfl) ?_
  obtain ⟨r_1, e_1, h⟩ := ob1_of h
  refine k_goI (k_runV (As := []) (rest := []) S hK hP (k_X0_bindingOaths l hAd hb0 e_1) cy_X0_bindingOaths wd_465 rfl (xD hb0) rfl hl.1 rfl (Nat.le_of_ble_eq_true rfl) dX0_leastToLetGo_1 ⟨Nat.le_of_ble_eq_true rfl, Nat.le_of_ble_eq_true rfl⟩ ⟨Nat.zero_le _, Nat.zero_le _⟩) hS (fun _ h => h) (fun H locs hP hS _ _ => ?_)
  refine lv_istore_n (lv' := [(1, .int r_1), (0, .ref (ad b))]) hx hb dX0_leastToLetGo_4 rfl hl (by decide) rfl (fun ls hl => ?_)
  refine lv_iload_n hx hb dX0_leastToLetGo_5 rfl (lv_at hl 0 rfl) ?_
  refine lv_istore_n (lv' := [(2, .int r_1), (1, .int r_1), (0, .ref (ad b))]) hx hb dX0_leastToLetGo_6 rfl hl (by decide) rfl (fun ls hl => ?_)
  refine lv_iconst (v := (0 : Int32)) hx hb dX0_leastToLetGo_7 (by decide) ?_
  refine lv_istore_n (lv' := [(3, .int (0 : Int32)), (2, .int r_1), (1, .int r_1), (0, .ref (ad b))]) hx hb dX0_leastToLetGo_8 rfl hl (by decide) rfl (fun ls hl => ?_)
  exact loop9 100 r_1 r_1 (0 : Int32) _ _ _ h hP hS (lv_sub hl [3, 2, 1, 0] rfl)
