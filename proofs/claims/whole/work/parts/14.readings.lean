def f_X2_add (σ : SX) (x1 : Int32) (x2 : Int32) (x3 : Int32) : Option (Unit × SX) := if (8 : Int32) ≤ (gF σ 25 0) then (some ((), σ)) else (oin (gF σ 25 0) 8 (oin (gF (sR σ 26 (upd (gR σ 26) (gF σ 25 0).toNatClampNeg x1)) 25 0) 8 (oin (gF (sR (sR σ 26 (upd (gR σ 26) (gF σ 25 0).toNatClampNeg x1)) 27 (upd (gR (sR σ 26 (upd (gR σ 26) (gF σ 25 0).toNatClampNeg x1)) 27) (gF (sR σ 26 (upd (gR σ 26) (gF σ 25 0).toNatClampNeg x1)) 25 0).toNatClampNeg x2)) 25 0) 8 (some ((), sF (sR (sR (sR σ 26 (upd (gR σ 26) (gF σ 25 0).toNatClampNeg x1)) 27 (upd (gR (sR σ 26 (upd (gR σ 26) (gF σ 25 0).toNatClampNeg x1)) 27) (gF (sR σ 26 (upd (gR σ 26) (gF σ 25 0).toNatClampNeg x1)) 25 0).toNatClampNeg x2)) 28 (upd (gR (sR (sR σ 26 (upd (gR σ 26) (gF σ 25 0).toNatClampNeg x1)) 27 (upd (gR (sR σ 26 (upd (gR σ 26) (gF σ 25 0).toNatClampNeg x1)) 27) (gF (sR σ 26 (upd (gR σ 26) (gF σ 25 0).toNatClampNeg x1)) 25 0).toNatClampNeg x2)) 28) (gF (sR (sR σ 26 (upd (gR σ 26) (gF σ 25 0).toNatClampNeg x1)) 27 (upd (gR (sR σ 26 (upd (gR σ 26) (gF σ 25 0).toNatClampNeg x1)) 27) (gF (sR σ 26 (upd (gR σ 26) (gF σ 25 0).toNatClampNeg x1)) 25 0).toNatClampNeg x2)) 25 0).toNatClampNeg (vp_nar .boolean x3))) 25 0 ((gF (sR (sR (sR σ 26 (upd (gR σ 26) (gF σ 25 0).toNatClampNeg x1)) 27 (upd (gR (sR σ 26 (upd (gR σ 26) (gF σ 25 0).toNatClampNeg x1)) 27) (gF (sR σ 26 (upd (gR σ 26) (gF σ 25 0).toNatClampNeg x1)) 25 0).toNatClampNeg x2)) 28 (upd (gR (sR (sR σ 26 (upd (gR σ 26) (gF σ 25 0).toNatClampNeg x1)) 27 (upd (gR (sR σ 26 (upd (gR σ 26) (gF σ 25 0).toNatClampNeg x1)) 27) (gF (sR σ 26 (upd (gR σ 26) (gF σ 25 0).toNatClampNeg x1)) 25 0).toNatClampNeg x2)) 28) (gF (sR (sR σ 26 (upd (gR σ 26) (gF σ 25 0).toNatClampNeg x1)) 27 (upd (gR (sR σ 26 (upd (gR σ 26) (gF σ 25 0).toNatClampNeg x1)) 27) (gF (sR σ 26 (upd (gR σ 26) (gF σ 25 0).toNatClampNeg x1)) 25 0).toNatClampNeg x2)) 25 0).toNatClampNeg (vp_nar .boolean x3))) 25 0) + (1 : Int32)))))))
set_option maxRecDepth 100000 in
set_option maxHeartbeats 4000000 in
theorem k_X2_add (l : Launch) {D : va_G} {A : Nat → Prop} {cI cZ cS : ClassId} {ad : Nat → Nat} {ro : Option Nat} (hAd : ∀ ro σ, va_D A (WX cI cZ cS ad ro σ)) {σ : SX} {x1 : Int32} {x2 : Int32} {x3 : Int32} {σ' : SX} {r : Unit} (h : f_X2_add σ x1 x2 x3 = some (r, σ')) : Ct (QV D A (WX cI cZ cS ad ro (σ'))) l yX2_add cX2_add 4 none 0 0 D (tyS cI cZ cS) A [.ref (ad 25), .int x1, .int x2, .int x3] (WX cI cZ cS ad ro σ) := by
  refine Ct.of (by decide +kernel) (Nat.le_of_ble_eq_true rfl) ?_
  intro p e s m below meth c ls S hK hr hlocks hP hS hl
  have hx := S.1
  have hb := S.2.1
  have hl : lv_has ls 4 [(0, .ref (ad 25)), (1, .int x1), (2, .int x2), (3, .int x3)] := hl
  rw [f_X2_add] at h
  refine lv_aload_n hx hb dX2_add_0 rfl (lv_at hl 0 rfl) ?_
  refine gt_X2_22 S hK hP dX2_add_1 ?_
  refine lv_bipush (v := (8 : Int32)) hx hb dX2_add_4 (by decide) ?_
  refine lv_icmp_ge (tgt := 49) hx hb dX2_add_6 (by decide) (fun c_6 => ?_) (fun c_6 => ?_)
  · replace h := ite_t c_6 h
    obtain ⟨rfl, rfl⟩ := some_pair h
    exact k_vret S hr hlocks hP hS dX2_add_49
  · replace h := ite_f c_6 h
    refine lv_aload_n hx hb dX2_add_9 rfl (lv_at hl 0 rfl) ?_
    refine gt_X2_9 S hK hP dX2_add_10 ?_
    refine lv_aload_n hx hb dX2_add_13 rfl (lv_at hl 0 rfl) ?_
    refine gt_X2_22 S hK hP dX2_add_14 ?_
    refine lv_iload_n hx hb dX2_add_17 rfl (lv_at hl 1 rfl) ?_
    obtain ⟨hi_18, h⟩ := oin_of h
    refine k_iast S hK hP (hAd _ _) hS xGr26 xGr26_s hi_18 dX2_add_18 (fun H locs hP hS => ?_)
    refine lv_aload_n hx hb dX2_add_19 rfl (lv_at hl 0 rfl) ?_
    refine gt_X2_15 S hK hP dX2_add_20 ?_
    refine lv_aload_n hx hb dX2_add_23 rfl (lv_at hl 0 rfl) ?_
    refine gt_X2_22 S hK hP dX2_add_24 ?_
    refine lv_iload_n hx hb dX2_add_27 rfl (lv_at hl 2 rfl) ?_
    obtain ⟨hi_28, h⟩ := oin_of h
    refine k_iast S hK hP (hAd _ _) hS xGr27 xGr27_s hi_28 dX2_add_28 (fun H locs hP hS => ?_)
    refine lv_aload_n hx hb dX2_add_29 rfl (lv_at hl 0 rfl) ?_
    refine gt_X2_18 S hK hP dX2_add_30 ?_
    refine lv_aload_n hx hb dX2_add_33 rfl (lv_at hl 0 rfl) ?_
    refine gt_X2_22 S hK hP dX2_add_34 ?_
    refine lv_iload_n hx hb dX2_add_37 rfl (lv_at hl 3 rfl) ?_
    obtain ⟨hi_38, h⟩ := oin_of h
    refine k_zast S hK hP (hAd _ _) hS xGr28 xGr28_s hi_38 dX2_add_38 (fun H locs hP hS => ?_)
    refine lv_aload_n hx hb dX2_add_39 rfl (lv_at hl 0 rfl) ?_
    refine lv_dup hx hb dX2_add_40 rfl ?_
    refine gt_X2_22 S hK hP dX2_add_41 ?_
    refine lv_iconst (v := (1 : Int32)) hx hb dX2_add_44 (by decide) ?_
    refine lv_iadd hx hb dX2_add_45 ?_
    refine pt_X2_22 S hK hP (hAd _ _) hS dX2_add_46 (fun H locs hP hS => ?_)
    obtain ⟨rfl, rfl⟩ := some_pair h
    exact k_vret S hr hlocks hP hS dX2_add_49
def f_X2_holdIn_L2 (σ : SX) (b1 : Nat) : Nat → Int32 → Option Int32
  | 0, _ => none
  | n + 1, y2 => if (gF σ 25 0) ≤ y2 then (some (1 : Int32)) else (oin y2 8 (oin y2 8 (ob1 (f_X0_isCold σ b1 (gR σ 26 y2.toNatClampNeg) (gR σ 27 y2.toNatClampNeg)) (fun r_23 => oin y2 8 (if r_23 = (gR σ 28 y2.toNatClampNeg) then (f_X2_holdIn_L2 σ b1 n (y2 + (1 : Int32))) else (some (0 : Int32)))))))
def f_X2_holdIn (σ : SX) (b1 : Nat) : Option Int32 := f_X2_holdIn_L2 σ b1 100 (0 : Int32)
set_option maxRecDepth 100000 in
set_option maxHeartbeats 4000000 in
theorem k_X2_holdIn (l : Launch) {D : va_G} {A : Nat → Prop} {cI cZ cS : ClassId} {ad : Nat → Nat} {ro : Option Nat} (hAd : ∀ ro σ, va_D A (WX cI cZ cS ad ro σ)) {σ : SX} {b1 : Nat} {r : Int32} (hb1 : isDy b1) (h : f_X2_holdIn σ b1 = some r) : Ct (QI D A r (WX cI cZ cS ad ro σ)) l yX2_holdIn cX2_holdIn 3 (some .boolean) 3 66 D (tyS cI cZ cS) A [.ref (ad 25), .ref (ad b1)] (WX cI cZ cS ad ro σ) := by
  refine Ct.of (by decide +kernel) (Nat.le_of_ble_eq_true rfl) ?_
  intro p e s m below meth c ls S hK hr hlocks hP hS hl
  have hx := S.1
  have hb := S.2.1
  have hl : lv_has ls 3 [(0, .ref (ad 25)), (1, .ref (ad b1))] := hl
  have loop2 : ∀ (n : Nat) (y2 : Int32) (H : Heap) (locs : List Loc) (ls : Array Slot), f_X2_holdIn_L2 σ b1 n y2 = some r → va_P D vwCl (WX cI cZ cS ad ro σ) H → va_S A s.heap H locs → lv_has ls 3 [(0, .ref (ad 25)), (1, .ref (ad b1)), (2, .int y2)] → W p l e (rmO 3 66) s m [.ref (ad 25), .ref (ad b1)].toArray below meth c H locs 0 0 (MQ below (QI D A r (WX cI cZ cS ad ro σ)) [.ref (ad 25), .ref (ad b1)].toArray s 0 0 A) (F0 m 2 ls []) := by
    intro n
    induction n with
    | zero => intro y2 H locs ls h; cases h
    | succ n ih =>
      intro y2 H locs ls h hP hS hl
      rw [f_X2_holdIn_L2] at h
      refine lv_iload_n hx hb dX2_holdIn_2 rfl (lv_at hl 2 rfl) ?_
      refine lv_aload_n hx hb dX2_holdIn_3 rfl (lv_at hl 0 rfl) ?_
      refine gt_X2_22 S hK hP dX2_holdIn_4 ?_
      refine lv_icmp_ge (tgt := 43) hx hb dX2_holdIn_7 (by decide) (fun c_7 => ?_) (fun c_7 => ?_)
      · replace h := ite_t c_7 h
        refine lv_iconst (v := (1 : Int32)) hx hb dX2_holdIn_43 (by decide) ?_
        exact k_zret S hr hlocks hP hS (Option.some.inj h) (Or.inr rfl) dX2_holdIn_44
      · replace h := ite_f c_7 h
        refine lv_aload_n hx hb dX2_holdIn_10 rfl (lv_at hl 1 rfl) ?_
        refine lv_aload_n hx hb dX2_holdIn_11 rfl (lv_at hl 0 rfl) ?_
        refine gt_X2_9 S hK hP dX2_holdIn_12 ?_
        refine lv_iload_n hx hb dX2_holdIn_15 rfl (lv_at hl 2 rfl) ?_
        obtain ⟨hi_16, h⟩ := oin_of h
        refine k_iald S hK hP xGr26 hi_16 dX2_holdIn_16 ?_
        refine lv_aload_n hx hb dX2_holdIn_17 rfl (lv_at hl 0 rfl) ?_
        refine gt_X2_15 S hK hP dX2_holdIn_18 ?_
        refine lv_iload_n hx hb dX2_holdIn_21 rfl (lv_at hl 2 rfl) ?_
        obtain ⟨hi_22, h⟩ := oin_of h
        refine k_iald S hK hP xGr27 hi_22 dX2_holdIn_22 ?_
        obtain ⟨r_23, e_23, h⟩ := ob1_of h
        refine k_goI (k_runV (As := [.int (gR σ 26 y2.toNatClampNeg), .int (gR σ 27 y2.toNatClampNeg)]) (rest := []) S hK hP (k_X0_isCold l hAd hb1 e_23) cy_X0_isCold wd_538 rfl (xD hb1) rfl hl.1 rfl (Nat.le_of_ble_eq_true rfl) dX2_holdIn_23 ⟨Nat.le_of_ble_eq_true rfl, Nat.le_of_ble_eq_true rfl⟩ ⟨Nat.zero_le _, Nat.zero_le _⟩) hS (fun _ h => h) (fun H locs hP hS _ _ => ?_)
        refine lv_aload_n hx hb dX2_holdIn_26 rfl (lv_at hl 0 rfl) ?_
        refine gt_X2_18 S hK hP dX2_holdIn_27 ?_
        refine lv_iload_n hx hb dX2_holdIn_30 rfl (lv_at hl 2 rfl) ?_
        obtain ⟨hi_31, h⟩ := oin_of h
        refine k_zald S hK hP xGr28 hi_31 dX2_holdIn_31 ?_
        refine lv_icmp_eq (tgt := 37) hx hb dX2_holdIn_32 (by decide) (fun c_32 => ?_) (fun c_32 => ?_)
        · replace h := ite_t c_32 h
          refine lv_iinc (v := y2 + (1 : Int32)) (lv' := [(2, .int (y2 + (1 : Int32))), (0, .ref (ad 25)), (1, .ref (ad b1))]) hx hb dX2_holdIn_37 hl (k := 2) rfl rfl (by decide) rfl (fun ls hl => ?_)
          refine lv_goto (tgt := 2) hx hb dX2_holdIn_40 (by decide) ?_
          exact ih (y2 + (1 : Int32)) _ _ _ h hP hS (lv_sub hl [1, 2, 0] rfl)
        · replace h := ite_f c_32 h
          refine lv_iconst (v := (0 : Int32)) hx hb dX2_holdIn_35 (by decide) ?_
          exact k_zret S hr hlocks hP hS (Option.some.inj h) (Or.inl rfl) dX2_holdIn_36
  rw [f_X2_holdIn] at h
  refine lv_iconst (v := (0 : Int32)) hx hb dX2_holdIn_0 (by decide) ?_
  refine lv_istore_n (lv' := [(2, .int (0 : Int32)), (0, .ref (ad 25)), (1, .ref (ad b1))]) hx hb dX2_holdIn_1 rfl hl (by decide) rfl (fun ls hl => ?_)
  exact loop2 100 (0 : Int32) _ _ _ h hP hS (lv_sub hl [1, 2, 0] rfl)
