def f_J6_bitCount_0f7a4 (x1 : Int32) : Option Int32 := some ((((((((x1 - ((ushr x1 (1 : Int32)) &&& (1431655765 : Int32))) &&& (858993459 : Int32)) + ((ushr (x1 - ((ushr x1 (1 : Int32)) &&& (1431655765 : Int32))) (2 : Int32)) &&& (858993459 : Int32))) + (ushr (((x1 - ((ushr x1 (1 : Int32)) &&& (1431655765 : Int32))) &&& (858993459 : Int32)) + ((ushr (x1 - ((ushr x1 (1 : Int32)) &&& (1431655765 : Int32))) (2 : Int32)) &&& (858993459 : Int32))) (4 : Int32))) &&& (252645135 : Int32)) + (ushr (((((x1 - ((ushr x1 (1 : Int32)) &&& (1431655765 : Int32))) &&& (858993459 : Int32)) + ((ushr (x1 - ((ushr x1 (1 : Int32)) &&& (1431655765 : Int32))) (2 : Int32)) &&& (858993459 : Int32))) + (ushr (((x1 - ((ushr x1 (1 : Int32)) &&& (1431655765 : Int32))) &&& (858993459 : Int32)) + ((ushr (x1 - ((ushr x1 (1 : Int32)) &&& (1431655765 : Int32))) (2 : Int32)) &&& (858993459 : Int32))) (4 : Int32))) &&& (252645135 : Int32)) (8 : Int32))) + (ushr ((((((x1 - ((ushr x1 (1 : Int32)) &&& (1431655765 : Int32))) &&& (858993459 : Int32)) + ((ushr (x1 - ((ushr x1 (1 : Int32)) &&& (1431655765 : Int32))) (2 : Int32)) &&& (858993459 : Int32))) + (ushr (((x1 - ((ushr x1 (1 : Int32)) &&& (1431655765 : Int32))) &&& (858993459 : Int32)) + ((ushr (x1 - ((ushr x1 (1 : Int32)) &&& (1431655765 : Int32))) (2 : Int32)) &&& (858993459 : Int32))) (4 : Int32))) &&& (252645135 : Int32)) + (ushr (((((x1 - ((ushr x1 (1 : Int32)) &&& (1431655765 : Int32))) &&& (858993459 : Int32)) + ((ushr (x1 - ((ushr x1 (1 : Int32)) &&& (1431655765 : Int32))) (2 : Int32)) &&& (858993459 : Int32))) + (ushr (((x1 - ((ushr x1 (1 : Int32)) &&& (1431655765 : Int32))) &&& (858993459 : Int32)) + ((ushr (x1 - ((ushr x1 (1 : Int32)) &&& (1431655765 : Int32))) (2 : Int32)) &&& (858993459 : Int32))) (4 : Int32))) &&& (252645135 : Int32)) (8 : Int32))) (16 : Int32))) &&& (63 : Int32))
set_option maxRecDepth 100000 in
set_option maxHeartbeats 4000000 in
theorem k_J6_bitCount_0f7a4 (l : Launch) {D : va_G} {A : Nat → Prop} {tys : List (ClassId × FieldType)} {w : va_W} {x1 : Int32} {r : Int32} (h : f_J6_bitCount_0f7a4 x1 = some r) : Ct (QI D A r (w)) l yJ6_bitCount_0f7a4 cJ6_bitCount_0f7a4 1 (some .int) 0 0 D tys A [.int x1] (w) := by
  refine Ct.of (by decide +kernel) (Nat.le_of_ble_eq_true rfl) ?_
  intro p e s m below meth c ls S hK hr hlocks hP hS hl
  have hx := S.1
  have hb := S.2.1
  have hl : lv_has ls 1 [(0, .int x1)] := hl
  rw [f_J6_bitCount_0f7a4] at h
  refine lv_iload_n hx hb dJ6_bitCount_0f7a4_0 rfl (lv_at hl 0 rfl) ?_
  refine lv_iload_n hx hb dJ6_bitCount_0f7a4_1 rfl (lv_at hl 0 rfl) ?_
  refine lv_iconst (v := (1 : Int32)) hx hb dJ6_bitCount_0f7a4_2 (by decide) ?_
  refine lv_iushr (v := ushr x1 (1 : Int32)) hx hb dJ6_bitCount_0f7a4_3 rfl ?_
  refine lv_ldcw hx hb S.2.2.2.1 (S.2.2.2.2 _ wd_411) dJ6_bitCount_0f7a4_4 ?_
  refine lv_iand hx hb dJ6_bitCount_0f7a4_7 ?_
  refine lv_isub hx hb dJ6_bitCount_0f7a4_8 ?_
  refine lv_istore_n (lv' := [(0, .int (x1 - ((ushr x1 (1 : Int32)) &&& (1431655765 : Int32))))]) hx hb dJ6_bitCount_0f7a4_9 rfl hl (by decide) rfl (fun ls hl => ?_)
  refine lv_iload_n hx hb dJ6_bitCount_0f7a4_10 rfl (lv_at hl 0 rfl) ?_
  refine lv_ldcw hx hb S.2.2.2.1 (S.2.2.2.2 _ wd_412) dJ6_bitCount_0f7a4_11 ?_
  refine lv_iand hx hb dJ6_bitCount_0f7a4_14 ?_
  refine lv_iload_n hx hb dJ6_bitCount_0f7a4_15 rfl (lv_at hl 0 rfl) ?_
  refine lv_iconst (v := (2 : Int32)) hx hb dJ6_bitCount_0f7a4_16 (by decide) ?_
  refine lv_iushr (v := ushr (x1 - ((ushr x1 (1 : Int32)) &&& (1431655765 : Int32))) (2 : Int32)) hx hb dJ6_bitCount_0f7a4_17 rfl ?_
  refine lv_ldcw hx hb S.2.2.2.1 (S.2.2.2.2 _ wd_412) dJ6_bitCount_0f7a4_18 ?_
  refine lv_iand hx hb dJ6_bitCount_0f7a4_21 ?_
  refine lv_iadd hx hb dJ6_bitCount_0f7a4_22 ?_
  refine lv_istore_n (lv' := [(0, .int (((x1 - ((ushr x1 (1 : Int32)) &&& (1431655765 : Int32))) &&& (858993459 : Int32)) + ((ushr (x1 - ((ushr x1 (1 : Int32)) &&& (1431655765 : Int32))) (2 : Int32)) &&& (858993459 : Int32))))]) hx hb dJ6_bitCount_0f7a4_23 rfl hl (by decide) rfl (fun ls hl => ?_)
  refine lv_iload_n hx hb dJ6_bitCount_0f7a4_24 rfl (lv_at hl 0 rfl) ?_
  refine lv_iload_n hx hb dJ6_bitCount_0f7a4_25 rfl (lv_at hl 0 rfl) ?_
  refine lv_iconst (v := (4 : Int32)) hx hb dJ6_bitCount_0f7a4_26 (by decide) ?_
  refine lv_iushr (v := ushr (((x1 - ((ushr x1 (1 : Int32)) &&& (1431655765 : Int32))) &&& (858993459 : Int32)) + ((ushr (x1 - ((ushr x1 (1 : Int32)) &&& (1431655765 : Int32))) (2 : Int32)) &&& (858993459 : Int32))) (4 : Int32)) hx hb dJ6_bitCount_0f7a4_27 rfl ?_
  refine lv_iadd hx hb dJ6_bitCount_0f7a4_28 ?_
  refine lv_ldcw hx hb S.2.2.2.1 (S.2.2.2.2 _ wd_413) dJ6_bitCount_0f7a4_29 ?_
  refine lv_iand hx hb dJ6_bitCount_0f7a4_32 ?_
  refine lv_istore_n (lv' := [(0, .int (((((x1 - ((ushr x1 (1 : Int32)) &&& (1431655765 : Int32))) &&& (858993459 : Int32)) + ((ushr (x1 - ((ushr x1 (1 : Int32)) &&& (1431655765 : Int32))) (2 : Int32)) &&& (858993459 : Int32))) + (ushr (((x1 - ((ushr x1 (1 : Int32)) &&& (1431655765 : Int32))) &&& (858993459 : Int32)) + ((ushr (x1 - ((ushr x1 (1 : Int32)) &&& (1431655765 : Int32))) (2 : Int32)) &&& (858993459 : Int32))) (4 : Int32))) &&& (252645135 : Int32)))]) hx hb dJ6_bitCount_0f7a4_33 rfl hl (by decide) rfl (fun ls hl => ?_)
  refine lv_iload_n hx hb dJ6_bitCount_0f7a4_34 rfl (lv_at hl 0 rfl) ?_
  refine lv_iload_n hx hb dJ6_bitCount_0f7a4_35 rfl (lv_at hl 0 rfl) ?_
  refine lv_bipush (v := (8 : Int32)) hx hb dJ6_bitCount_0f7a4_36 (by decide) ?_
  refine lv_iushr (v := ushr (((((x1 - ((ushr x1 (1 : Int32)) &&& (1431655765 : Int32))) &&& (858993459 : Int32)) + ((ushr (x1 - ((ushr x1 (1 : Int32)) &&& (1431655765 : Int32))) (2 : Int32)) &&& (858993459 : Int32))) + (ushr (((x1 - ((ushr x1 (1 : Int32)) &&& (1431655765 : Int32))) &&& (858993459 : Int32)) + ((ushr (x1 - ((ushr x1 (1 : Int32)) &&& (1431655765 : Int32))) (2 : Int32)) &&& (858993459 : Int32))) (4 : Int32))) &&& (252645135 : Int32)) (8 : Int32)) hx hb dJ6_bitCount_0f7a4_38 rfl ?_
  refine lv_iadd hx hb dJ6_bitCount_0f7a4_39 ?_
  refine lv_istore_n (lv' := [(0, .int ((((((x1 - ((ushr x1 (1 : Int32)) &&& (1431655765 : Int32))) &&& (858993459 : Int32)) + ((ushr (x1 - ((ushr x1 (1 : Int32)) &&& (1431655765 : Int32))) (2 : Int32)) &&& (858993459 : Int32))) + (ushr (((x1 - ((ushr x1 (1 : Int32)) &&& (1431655765 : Int32))) &&& (858993459 : Int32)) + ((ushr (x1 - ((ushr x1 (1 : Int32)) &&& (1431655765 : Int32))) (2 : Int32)) &&& (858993459 : Int32))) (4 : Int32))) &&& (252645135 : Int32)) + (ushr (((((x1 - ((ushr x1 (1 : Int32)) &&& (1431655765 : Int32))) &&& (858993459 : Int32)) + ((ushr (x1 - ((ushr x1 (1 : Int32)) &&& (1431655765 : Int32))) (2 : Int32)) &&& (858993459 : Int32))) + (ushr (((x1 - ((ushr x1 (1 : Int32)) &&& (1431655765 : Int32))) &&& (858993459 : Int32)) + ((ushr (x1 - ((ushr x1 (1 : Int32)) &&& (1431655765 : Int32))) (2 : Int32)) &&& (858993459 : Int32))) (4 : Int32))) &&& (252645135 : Int32)) (8 : Int32))))]) hx hb dJ6_bitCount_0f7a4_40 rfl hl (by decide) rfl (fun ls hl => ?_)
  refine lv_iload_n hx hb dJ6_bitCount_0f7a4_41 rfl (lv_at hl 0 rfl) ?_
  refine lv_iload_n hx hb dJ6_bitCount_0f7a4_42 rfl (lv_at hl 0 rfl) ?_
  refine lv_bipush (v := (16 : Int32)) hx hb dJ6_bitCount_0f7a4_43 (by decide) ?_
  refine lv_iushr (v := ushr ((((((x1 - ((ushr x1 (1 : Int32)) &&& (1431655765 : Int32))) &&& (858993459 : Int32)) + ((ushr (x1 - ((ushr x1 (1 : Int32)) &&& (1431655765 : Int32))) (2 : Int32)) &&& (858993459 : Int32))) + (ushr (((x1 - ((ushr x1 (1 : Int32)) &&& (1431655765 : Int32))) &&& (858993459 : Int32)) + ((ushr (x1 - ((ushr x1 (1 : Int32)) &&& (1431655765 : Int32))) (2 : Int32)) &&& (858993459 : Int32))) (4 : Int32))) &&& (252645135 : Int32)) + (ushr (((((x1 - ((ushr x1 (1 : Int32)) &&& (1431655765 : Int32))) &&& (858993459 : Int32)) + ((ushr (x1 - ((ushr x1 (1 : Int32)) &&& (1431655765 : Int32))) (2 : Int32)) &&& (858993459 : Int32))) + (ushr (((x1 - ((ushr x1 (1 : Int32)) &&& (1431655765 : Int32))) &&& (858993459 : Int32)) + ((ushr (x1 - ((ushr x1 (1 : Int32)) &&& (1431655765 : Int32))) (2 : Int32)) &&& (858993459 : Int32))) (4 : Int32))) &&& (252645135 : Int32)) (8 : Int32))) (16 : Int32)) hx hb dJ6_bitCount_0f7a4_45 rfl ?_
  refine lv_iadd hx hb dJ6_bitCount_0f7a4_46 ?_
  refine lv_istore_n (lv' := [(0, .int (((((((x1 - ((ushr x1 (1 : Int32)) &&& (1431655765 : Int32))) &&& (858993459 : Int32)) + ((ushr (x1 - ((ushr x1 (1 : Int32)) &&& (1431655765 : Int32))) (2 : Int32)) &&& (858993459 : Int32))) + (ushr (((x1 - ((ushr x1 (1 : Int32)) &&& (1431655765 : Int32))) &&& (858993459 : Int32)) + ((ushr (x1 - ((ushr x1 (1 : Int32)) &&& (1431655765 : Int32))) (2 : Int32)) &&& (858993459 : Int32))) (4 : Int32))) &&& (252645135 : Int32)) + (ushr (((((x1 - ((ushr x1 (1 : Int32)) &&& (1431655765 : Int32))) &&& (858993459 : Int32)) + ((ushr (x1 - ((ushr x1 (1 : Int32)) &&& (1431655765 : Int32))) (2 : Int32)) &&& (858993459 : Int32))) + (ushr (((x1 - ((ushr x1 (1 : Int32)) &&& (1431655765 : Int32))) &&& (858993459 : Int32)) + ((ushr (x1 - ((ushr x1 (1 : Int32)) &&& (1431655765 : Int32))) (2 : Int32)) &&& (858993459 : Int32))) (4 : Int32))) &&& (252645135 : Int32)) (8 : Int32))) + (ushr ((((((x1 - ((ushr x1 (1 : Int32)) &&& (1431655765 : Int32))) &&& (858993459 : Int32)) + ((ushr (x1 - ((ushr x1 (1 : Int32)) &&& (1431655765 : Int32))) (2 : Int32)) &&& (858993459 : Int32))) + (ushr (((x1 - ((ushr x1 (1 : Int32)) &&& (1431655765 : Int32))) &&& (858993459 : Int32)) + ((ushr (x1 - ((ushr x1 (1 : Int32)) &&& (1431655765 : Int32))) (2 : Int32)) &&& (858993459 : Int32))) (4 : Int32))) &&& (252645135 : Int32)) + (ushr (((((x1 - ((ushr x1 (1 : Int32)) &&& (1431655765 : Int32))) &&& (858993459 : Int32)) + ((ushr (x1 - ((ushr x1 (1 : Int32)) &&& (1431655765 : Int32))) (2 : Int32)) &&& (858993459 : Int32))) + (ushr (((x1 - ((ushr x1 (1 : Int32)) &&& (1431655765 : Int32))) &&& (858993459 : Int32)) + ((ushr (x1 - ((ushr x1 (1 : Int32)) &&& (1431655765 : Int32))) (2 : Int32)) &&& (858993459 : Int32))) (4 : Int32))) &&& (252645135 : Int32)) (8 : Int32))) (16 : Int32))))]) hx hb dJ6_bitCount_0f7a4_47 rfl hl (by decide) rfl (fun ls hl => ?_)
  refine lv_iload_n hx hb dJ6_bitCount_0f7a4_48 rfl (lv_at hl 0 rfl) ?_
  refine lv_bipush (v := (63 : Int32)) hx hb dJ6_bitCount_0f7a4_49 (by decide) ?_
  refine lv_iand hx hb dJ6_bitCount_0f7a4_51 ?_
  exact k_iret S hr hlocks hP hS (Option.some.inj h) dJ6_bitCount_0f7a4_52
def f_J7_fill_53178_L5 (b1 : Nat) : Nat → SX → Int32 → Int32 → Int32 → Option (Unit × SX)
  | 0, _, _, _, _ => none
  | n + 1, σ, y1, y2, y3 => if y3 ≤ y2 then (some ((), σ)) else (oin y2 60 (f_J7_fill_53178_L5 b1 n (sR σ (b1 + 1) (upd (gR σ (b1 + 1)) y2.toNatClampNeg y1)) y1 (y2 + (1 : Int32)) y3))
def f_J7_fill_53178 (σ : SX) (b1 : Nat) (x2 : Int32) : Option (Unit × SX) := f_J7_fill_53178_L5 b1 100 σ x2 (0 : Int32) (60 : Int32)
set_option maxRecDepth 100000 in
set_option maxHeartbeats 4000000 in
theorem k_J7_fill_53178 (l : Launch) {D : va_G} {A : Nat → Prop} {cI cZ cS : ClassId} {ad : Nat → Nat} {ro : Option Nat} (hAd : ∀ ro σ, va_D A (WX cI cZ cS ad ro σ)) {σ : SX} {b1 : Nat} {x2 : Int32} {σ' : SX} {r : Unit} (hb1 : isSh b1) (h : f_J7_fill_53178 σ b1 x2 = some (r, σ')) : Ct (QV D A (WX cI cZ cS ad ro (σ'))) l yJ7_fill_53178 cJ7_fill_53178 4 none 0 0 D (tyS cI cZ cS) A [.ref (ad (b1 + 1)), .int x2] (WX cI cZ cS ad ro σ) := by
  refine Ct.of (by decide +kernel) (Nat.le_of_ble_eq_true rfl) ?_
  intro p e s m below meth c ls S hK hr hlocks hP hS hl
  have hx := S.1
  have hb := S.2.1
  have hl : lv_has ls 4 [(0, .ref (ad (b1 + 1))), (1, .int x2)] := hl
  have loop5 : ∀ (n : Nat) (σ : SX) (y1 : Int32) (y2 : Int32) (y3 : Int32) (H : Heap) (locs : List Loc) (ls : Array Slot), f_J7_fill_53178_L5 b1 n σ y1 y2 y3 = some (r, σ') → va_P D vwCl (WX cI cZ cS ad ro σ) H → va_S A s.heap H locs → lv_has ls 4 [(0, .ref (ad (b1 + 1))), (1, .int y1), (2, .int y2), (3, .int y3)] → W p l e (rmO 0 0) s m [.ref (ad (b1 + 1)), .int x2].toArray below meth c H locs 0 0 (MQ below (QV D A (WX cI cZ cS ad ro (σ'))) [.ref (ad (b1 + 1)), .int x2].toArray s 0 0 A) (F0 m 5 ls []) := by
    intro n
    induction n with
    | zero => intro σ y1 y2 y3 H locs ls h; cases h
    | succ n ih =>
      intro σ y1 y2 y3 H locs ls h hP hS hl
      rw [f_J7_fill_53178_L5] at h
      refine lv_iload_n hx hb dJ7_fill_53178_5 rfl (lv_at hl 2 rfl) ?_
      refine lv_iload_n hx hb dJ7_fill_53178_6 rfl (lv_at hl 3 rfl) ?_
      refine lv_icmp_ge (tgt := 20) hx hb dJ7_fill_53178_7 (by decide) (fun c_7 => ?_) (fun c_7 => ?_)
      · replace h := ite_t c_7 h
        obtain ⟨rfl, rfl⟩ := some_pair h
        exact k_vret S hr hlocks hP hS dJ7_fill_53178_20
      · replace h := ite_f c_7 h
        refine lv_aload_n hx hb dJ7_fill_53178_10 rfl (lv_at hl 0 rfl) ?_
        refine lv_iload_n hx hb dJ7_fill_53178_11 rfl (lv_at hl 2 rfl) ?_
        refine lv_iload_n hx hb dJ7_fill_53178_12 rfl (lv_at hl 1 rfl) ?_
        obtain ⟨hi_13, h⟩ := oin_of h
        refine k_iast S hK hP (hAd _ _) hS (xSc hb1) (xSc_s hb1) hi_13 dJ7_fill_53178_13 (fun H locs hP hS => ?_)
        refine lv_iinc (v := y2 + (1 : Int32)) (lv' := [(2, .int (y2 + (1 : Int32))), (0, .ref (ad (b1 + 1))), (1, .int y1), (3, .int y3)]) hx hb dJ7_fill_53178_14 hl (k := 2) rfl rfl (by decide) rfl (fun ls hl => ?_)
        refine lv_goto (tgt := 5) hx hb dJ7_fill_53178_17 (by decide) ?_
        exact ih (sR σ (b1 + 1) (upd (gR σ (b1 + 1)) y2.toNatClampNeg y1)) y1 (y2 + (1 : Int32)) y3 _ _ _ h hP hS (lv_sub hl [1, 2, 0, 3] rfl)
  rw [f_J7_fill_53178] at h
  refine lv_iconst (v := (0 : Int32)) hx hb dJ7_fill_53178_0 (by decide) ?_
  refine lv_istore_n (lv' := [(2, .int (0 : Int32)), (0, .ref (ad (b1 + 1))), (1, .int x2)]) hx hb dJ7_fill_53178_1 rfl hl (by decide) rfl (fun ls hl => ?_)
  refine lv_aload_n hx hb dJ7_fill_53178_2 rfl (lv_at hl 1 rfl) ?_
  refine k_alen (v := (60 : Int32)) S hK hP (xSc hb1) rfl dJ7_fill_53178_3 ?_
  refine lv_istore_n (lv' := [(3, .int (60 : Int32)), (2, .int (0 : Int32)), (0, .ref (ad (b1 + 1))), (1, .int x2)]) hx hb dJ7_fill_53178_4 rfl hl (by decide) rfl (fun ls hl => ?_)
  exact loop5 100 σ x2 (0 : Int32) (60 : Int32) _ _ _ h hP hS (lv_sub hl [2, 3, 1, 0] rfl)
