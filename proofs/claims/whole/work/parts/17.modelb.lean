def f_X5_takeDay_L100 : Nat → SX → Int32 → Option (Unit × SX)
  | 0, _, _ => none
  | n + 1, σ, y1 => if (gF σ 0 7) ≤ y1 then (some ((), sF (sF (sF σ 0 8 (-9 : Int32)) 0 9 (0 : Int32)) 0 24 (0 : Int32))) else (oin ((3 : Int32) * y1) 18 (oin y1 6 (oin (((3 : Int32) * y1) + (1 : Int32)) 18 (oin y1 6 (oin (((3 : Int32) * y1) + (2 : Int32)) 18 (oin y1 6 (f_X5_takeDay_L100 n (sR (sR (sR σ 7 (upd (gR σ 7) y1.toNatClampNeg (gR σ 12 ((3 : Int32) * y1).toNatClampNeg))) 8 (upd (gR (sR σ 7 (upd (gR σ 7) y1.toNatClampNeg (gR σ 12 ((3 : Int32) * y1).toNatClampNeg))) 8) y1.toNatClampNeg (gR (sR σ 7 (upd (gR σ 7) y1.toNatClampNeg (gR σ 12 ((3 : Int32) * y1).toNatClampNeg))) 12 (((3 : Int32) * y1) + (1 : Int32)).toNatClampNeg))) 9 (upd (gR (sR (sR σ 7 (upd (gR σ 7) y1.toNatClampNeg (gR σ 12 ((3 : Int32) * y1).toNatClampNeg))) 8 (upd (gR (sR σ 7 (upd (gR σ 7) y1.toNatClampNeg (gR σ 12 ((3 : Int32) * y1).toNatClampNeg))) 8) y1.toNatClampNeg (gR (sR σ 7 (upd (gR σ 7) y1.toNatClampNeg (gR σ 12 ((3 : Int32) * y1).toNatClampNeg))) 12 (((3 : Int32) * y1) + (1 : Int32)).toNatClampNeg))) 9) y1.toNatClampNeg (gR (sR (sR σ 7 (upd (gR σ 7) y1.toNatClampNeg (gR σ 12 ((3 : Int32) * y1).toNatClampNeg))) 8 (upd (gR (sR σ 7 (upd (gR σ 7) y1.toNatClampNeg (gR σ 12 ((3 : Int32) * y1).toNatClampNeg))) 8) y1.toNatClampNeg (gR (sR σ 7 (upd (gR σ 7) y1.toNatClampNeg (gR σ 12 ((3 : Int32) * y1).toNatClampNeg))) 12 (((3 : Int32) * y1) + (1 : Int32)).toNatClampNeg))) 12 (((3 : Int32) * y1) + (2 : Int32)).toNatClampNeg))) (y1 + (1 : Int32)))))))))
def f_X5_takeDay_L54 : Nat → SX → Int32 → Option (Unit × SX)
  | 0, _, _ => none
  | n + 1, σ, y1 => if (gF σ 0 6) ≤ y1 then (f_X5_takeDay_L100 100 σ (0 : Int32)) else (oin ((2 : Int32) * y1) 8 (oin y1 4 (oin (((2 : Int32) * y1) + (1 : Int32)) 8 (oin y1 4 (f_X5_takeDay_L54 n (sR (sR σ 5 (upd (gR σ 5) y1.toNatClampNeg (gR σ 11 ((2 : Int32) * y1).toNatClampNeg))) 6 (upd (gR (sR σ 5 (upd (gR σ 5) y1.toNatClampNeg (gR σ 11 ((2 : Int32) * y1).toNatClampNeg))) 6) y1.toNatClampNeg (gR (sR σ 5 (upd (gR σ 5) y1.toNatClampNeg (gR σ 11 ((2 : Int32) * y1).toNatClampNeg))) 11 (((2 : Int32) * y1) + (1 : Int32)).toNatClampNeg))) (y1 + (1 : Int32)))))))
def f_X5_takeDay_L26 : Nat → SX → Int32 → Option (Unit × SX)
  | 0, _, _ => none
  | n + 1, σ, y1 => if (gF σ 0 5) ≤ y1 then (f_X5_takeDay_L54 100 σ (0 : Int32)) else (oin y1 6 (oin y1 6 (f_X5_takeDay_L26 n (sR σ 4 (upd (gR σ 4) y1.toNatClampNeg (gR σ 10 y1.toNatClampNeg))) (y1 + (1 : Int32)))))
def f_X5_takeDay (σ : SX) : Option (Unit × SX) := f_X5_takeDay_L26 100 (sF (sF (sF σ 0 5 (gF σ 0 17)) 0 6 (gF (sF σ 0 5 (gF σ 0 17)) 0 18)) 0 7 (gF (sF (sF σ 0 5 (gF σ 0 17)) 0 6 (gF (sF σ 0 5 (gF σ 0 17)) 0 18)) 0 19)) (0 : Int32)
set_option maxRecDepth 100000 in
set_option maxHeartbeats 4000000 in
theorem k_X5_takeDay (l : Launch) {D : va_G} {A : Nat → Prop} {cI cZ cS : ClassId} {am : Nat → Nat} (hAd : ∀ σ, va_D A (WM cI am σ)) {σ : SX} {σ' : SX} {r : Unit} (h : f_X5_takeDay σ = some (r, σ')) : Ct (QV D A (WM cI am (σ'))) l yX5_takeDay cX5_takeDay 2 none 0 0 D (tyS cI cZ cS) A [.ref (am 0)] (WM cI am σ) := by
  refine Ct.of (by decide +kernel) (Nat.le_of_ble_eq_true rfl) ?_
  intro p e s m below meth c ls S hK hr hlocks hP hS hl
  have hx := S.1
  have hb := S.2.1
  have hl : lv_has ls 2 [(0, .ref (am 0))] := hl
  have loop100 : ∀ (n : Nat) (σ : SX) (y1 : Int32) (H : Heap) (locs : List Loc) (ls : Array Slot), f_X5_takeDay_L100 n σ y1 = some (r, σ') → va_P D vwCl (WM cI am σ) H → va_S A s.heap H locs → lv_has ls 2 [(0, .ref (am 0)), (1, .int y1)] → W p l e (rmO 0 0) s m [.ref (am 0)].toArray below meth c H locs 0 0 (MQ below (QV D A (WM cI am (σ'))) [.ref (am 0)].toArray s 0 0 A) (F0 m 100 ls []) := by
    intro n
    induction n with
    | zero => intro σ y1 H locs ls h; cases h
    | succ n ih =>
      intro σ y1 H locs ls h hP hS hl
      rw [f_X5_takeDay_L100] at h
      refine lv_iload_n hx hb dX5_takeDay_100 rfl (lv_at hl 1 rfl) ?_
      refine lv_aload_n hx hb dX5_takeDay_101 rfl (lv_at hl 0 rfl) ?_
      refine gt_X5_77 S hK hP dX5_takeDay_102 ?_
      refine lv_icmp_ge (tgt := 160) hx hb dX5_takeDay_105 (by decide) (fun c_105 => ?_) (fun c_105 => ?_)
      · replace h := ite_t c_105 h
        refine lv_aload_n hx hb dX5_takeDay_160 rfl (lv_at hl 0 rfl) ?_
        refine lv_bipush (v := (-9 : Int32)) hx hb dX5_takeDay_161 (by decide) ?_
        refine pt_X5_19 S hK hP (hAd _) hS dX5_takeDay_163 (fun H locs hP hS => ?_)
        refine lv_aload_n hx hb dX5_takeDay_166 rfl (lv_at hl 0 rfl) ?_
        refine lv_iconst (v := (0 : Int32)) hx hb dX5_takeDay_167 (by decide) ?_
        refine pt_X5_113 S hK hP (hAd _) hS dX5_takeDay_168 (fun H locs hP hS => ?_)
        refine lv_aload_n hx hb dX5_takeDay_171 rfl (lv_at hl 0 rfl) ?_
        refine lv_iconst (v := (0 : Int32)) hx hb dX5_takeDay_172 (by decide) ?_
        refine pt_X5_116 S hK hP (hAd _) hS dX5_takeDay_173 (fun H locs hP hS => ?_)
        obtain ⟨rfl, rfl⟩ := some_pair h
        exact k_vret S hr hlocks hP hS dX5_takeDay_176
      · replace h := ite_f c_105 h
        refine lv_aload_n hx hb dX5_takeDay_108 rfl (lv_at hl 0 rfl) ?_
        refine gt_X5_32 S hK hP dX5_takeDay_109 ?_
        refine lv_iload_n hx hb dX5_takeDay_112 rfl (lv_at hl 1 rfl) ?_
        refine lv_aload_n hx hb dX5_takeDay_113 rfl (lv_at hl 0 rfl) ?_
        refine gt_X5_47 S hK hP dX5_takeDay_114 ?_
        refine lv_iconst (v := (3 : Int32)) hx hb dX5_takeDay_117 (by decide) ?_
        refine lv_iload_n hx hb dX5_takeDay_118 rfl (lv_at hl 1 rfl) ?_
        refine lv_imul hx hb dX5_takeDay_119 ?_
        obtain ⟨hi_120, h⟩ := oin_of h
        refine k_iald S hK hP mr12 hi_120 dX5_takeDay_120 ?_
        obtain ⟨hi_121, h⟩ := oin_of h
        refine k_iast S hK hP (hAd _) hS mr7 mr7_s hi_121 dX5_takeDay_121 (fun H locs hP hS => ?_)
        refine lv_aload_n hx hb dX5_takeDay_122 rfl (lv_at hl 0 rfl) ?_
        refine gt_X5_35 S hK hP dX5_takeDay_123 ?_
        refine lv_iload_n hx hb dX5_takeDay_126 rfl (lv_at hl 1 rfl) ?_
        refine lv_aload_n hx hb dX5_takeDay_127 rfl (lv_at hl 0 rfl) ?_
        refine gt_X5_47 S hK hP dX5_takeDay_128 ?_
        refine lv_iconst (v := (3 : Int32)) hx hb dX5_takeDay_131 (by decide) ?_
        refine lv_iload_n hx hb dX5_takeDay_132 rfl (lv_at hl 1 rfl) ?_
        refine lv_imul hx hb dX5_takeDay_133 ?_
        refine lv_iconst (v := (1 : Int32)) hx hb dX5_takeDay_134 (by decide) ?_
        refine lv_iadd hx hb dX5_takeDay_135 ?_
        obtain ⟨hi_136, h⟩ := oin_of h
        refine k_iald S hK hP mr12 hi_136 dX5_takeDay_136 ?_
        obtain ⟨hi_137, h⟩ := oin_of h
        refine k_iast S hK hP (hAd _) hS mr8 mr8_s hi_137 dX5_takeDay_137 (fun H locs hP hS => ?_)
        refine lv_aload_n hx hb dX5_takeDay_138 rfl (lv_at hl 0 rfl) ?_
        refine gt_X5_38 S hK hP dX5_takeDay_139 ?_
        refine lv_iload_n hx hb dX5_takeDay_142 rfl (lv_at hl 1 rfl) ?_
        refine lv_aload_n hx hb dX5_takeDay_143 rfl (lv_at hl 0 rfl) ?_
        refine gt_X5_47 S hK hP dX5_takeDay_144 ?_
        refine lv_iconst (v := (3 : Int32)) hx hb dX5_takeDay_147 (by decide) ?_
        refine lv_iload_n hx hb dX5_takeDay_148 rfl (lv_at hl 1 rfl) ?_
        refine lv_imul hx hb dX5_takeDay_149 ?_
        refine lv_iconst (v := (2 : Int32)) hx hb dX5_takeDay_150 (by decide) ?_
        refine lv_iadd hx hb dX5_takeDay_151 ?_
        obtain ⟨hi_152, h⟩ := oin_of h
        refine k_iald S hK hP mr12 hi_152 dX5_takeDay_152 ?_
        obtain ⟨hi_153, h⟩ := oin_of h
        refine k_iast S hK hP (hAd _) hS mr9 mr9_s hi_153 dX5_takeDay_153 (fun H locs hP hS => ?_)
        refine lv_iinc (v := y1 + (1 : Int32)) (lv' := [(1, .int (y1 + (1 : Int32))), (0, .ref (am 0))]) hx hb dX5_takeDay_154 hl (k := 1) rfl rfl (by decide) rfl (fun ls hl => ?_)
        refine lv_goto (tgt := 100) hx hb dX5_takeDay_157 (by decide) ?_
        exact ih (sR (sR (sR σ 7 (upd (gR σ 7) y1.toNatClampNeg (gR σ 12 ((3 : Int32) * y1).toNatClampNeg))) 8 (upd (gR (sR σ 7 (upd (gR σ 7) y1.toNatClampNeg (gR σ 12 ((3 : Int32) * y1).toNatClampNeg))) 8) y1.toNatClampNeg (gR (sR σ 7 (upd (gR σ 7) y1.toNatClampNeg (gR σ 12 ((3 : Int32) * y1).toNatClampNeg))) 12 (((3 : Int32) * y1) + (1 : Int32)).toNatClampNeg))) 9 (upd (gR (sR (sR σ 7 (upd (gR σ 7) y1.toNatClampNeg (gR σ 12 ((3 : Int32) * y1).toNatClampNeg))) 8 (upd (gR (sR σ 7 (upd (gR σ 7) y1.toNatClampNeg (gR σ 12 ((3 : Int32) * y1).toNatClampNeg))) 8) y1.toNatClampNeg (gR (sR σ 7 (upd (gR σ 7) y1.toNatClampNeg (gR σ 12 ((3 : Int32) * y1).toNatClampNeg))) 12 (((3 : Int32) * y1) + (1 : Int32)).toNatClampNeg))) 9) y1.toNatClampNeg (gR (sR (sR σ 7 (upd (gR σ 7) y1.toNatClampNeg (gR σ 12 ((3 : Int32) * y1).toNatClampNeg))) 8 (upd (gR (sR σ 7 (upd (gR σ 7) y1.toNatClampNeg (gR σ 12 ((3 : Int32) * y1).toNatClampNeg))) 8) y1.toNatClampNeg (gR (sR σ 7 (upd (gR σ 7) y1.toNatClampNeg (gR σ 12 ((3 : Int32) * y1).toNatClampNeg))) 12 (((3 : Int32) * y1) + (1 : Int32)).toNatClampNeg))) 12 (((3 : Int32) * y1) + (2 : Int32)).toNatClampNeg))) (y1 + (1 : Int32)) _ _ _ h hP hS (lv_sub hl [1, 0] rfl)
  have loop54 : ∀ (n : Nat) (σ : SX) (y1 : Int32) (H : Heap) (locs : List Loc) (ls : Array Slot), f_X5_takeDay_L54 n σ y1 = some (r, σ') → va_P D vwCl (WM cI am σ) H → va_S A s.heap H locs → lv_has ls 2 [(0, .ref (am 0)), (1, .int y1)] → W p l e (rmO 0 0) s m [.ref (am 0)].toArray below meth c H locs 0 0 (MQ below (QV D A (WM cI am (σ'))) [.ref (am 0)].toArray s 0 0 A) (F0 m 54 ls []) := by
    intro n
    induction n with
    | zero => intro σ y1 H locs ls h; cases h
    | succ n ih =>
      intro σ y1 H locs ls h hP hS hl
      rw [f_X5_takeDay_L54] at h
      refine lv_iload_n hx hb dX5_takeDay_54 rfl (lv_at hl 1 rfl) ?_
      refine lv_aload_n hx hb dX5_takeDay_55 rfl (lv_at hl 0 rfl) ?_
      refine gt_X5_74 S hK hP dX5_takeDay_56 ?_
      refine lv_icmp_ge (tgt := 98) hx hb dX5_takeDay_59 (by decide) (fun c_59 => ?_) (fun c_59 => ?_)
      · replace h := ite_t c_59 h
        refine lv_iconst (v := (0 : Int32)) hx hb dX5_takeDay_98 (by decide) ?_
        refine lv_istore_n (lv' := [(1, .int (0 : Int32)), (0, .ref (am 0))]) hx hb dX5_takeDay_99 rfl hl (by decide) rfl (fun ls hl => ?_)
        exact loop100 100 σ (0 : Int32) _ _ _ h hP hS (lv_sub hl [1, 0] rfl)
      · replace h := ite_f c_59 h
        refine lv_aload_n hx hb dX5_takeDay_62 rfl (lv_at hl 0 rfl) ?_
        refine gt_X5_26 S hK hP dX5_takeDay_63 ?_
        refine lv_iload_n hx hb dX5_takeDay_66 rfl (lv_at hl 1 rfl) ?_
        refine lv_aload_n hx hb dX5_takeDay_67 rfl (lv_at hl 0 rfl) ?_
        refine gt_X5_44 S hK hP dX5_takeDay_68 ?_
        refine lv_iconst (v := (2 : Int32)) hx hb dX5_takeDay_71 (by decide) ?_
        refine lv_iload_n hx hb dX5_takeDay_72 rfl (lv_at hl 1 rfl) ?_
        refine lv_imul hx hb dX5_takeDay_73 ?_
        obtain ⟨hi_74, h⟩ := oin_of h
        refine k_iald S hK hP mr11 hi_74 dX5_takeDay_74 ?_
        obtain ⟨hi_75, h⟩ := oin_of h
        refine k_iast S hK hP (hAd _) hS mr5 mr5_s hi_75 dX5_takeDay_75 (fun H locs hP hS => ?_)
        refine lv_aload_n hx hb dX5_takeDay_76 rfl (lv_at hl 0 rfl) ?_
        refine gt_X5_29 S hK hP dX5_takeDay_77 ?_
        refine lv_iload_n hx hb dX5_takeDay_80 rfl (lv_at hl 1 rfl) ?_
        refine lv_aload_n hx hb dX5_takeDay_81 rfl (lv_at hl 0 rfl) ?_
        refine gt_X5_44 S hK hP dX5_takeDay_82 ?_
        refine lv_iconst (v := (2 : Int32)) hx hb dX5_takeDay_85 (by decide) ?_
        refine lv_iload_n hx hb dX5_takeDay_86 rfl (lv_at hl 1 rfl) ?_
        refine lv_imul hx hb dX5_takeDay_87 ?_
        refine lv_iconst (v := (1 : Int32)) hx hb dX5_takeDay_88 (by decide) ?_
        refine lv_iadd hx hb dX5_takeDay_89 ?_
        obtain ⟨hi_90, h⟩ := oin_of h
        refine k_iald S hK hP mr11 hi_90 dX5_takeDay_90 ?_
        obtain ⟨hi_91, h⟩ := oin_of h
        refine k_iast S hK hP (hAd _) hS mr6 mr6_s hi_91 dX5_takeDay_91 (fun H locs hP hS => ?_)
        refine lv_iinc (v := y1 + (1 : Int32)) (lv' := [(1, .int (y1 + (1 : Int32))), (0, .ref (am 0))]) hx hb dX5_takeDay_92 hl (k := 1) rfl rfl (by decide) rfl (fun ls hl => ?_)
        refine lv_goto (tgt := 54) hx hb dX5_takeDay_95 (by decide) ?_
        exact ih (sR (sR σ 5 (upd (gR σ 5) y1.toNatClampNeg (gR σ 11 ((2 : Int32) * y1).toNatClampNeg))) 6 (upd (gR (sR σ 5 (upd (gR σ 5) y1.toNatClampNeg (gR σ 11 ((2 : Int32) * y1).toNatClampNeg))) 6) y1.toNatClampNeg (gR (sR σ 5 (upd (gR σ 5) y1.toNatClampNeg (gR σ 11 ((2 : Int32) * y1).toNatClampNeg))) 11 (((2 : Int32) * y1) + (1 : Int32)).toNatClampNeg))) (y1 + (1 : Int32)) _ _ _ h hP hS (lv_sub hl [1, 0] rfl)
  have loop26 : ∀ (n : Nat) (σ : SX) (y1 : Int32) (H : Heap) (locs : List Loc) (ls : Array Slot), f_X5_takeDay_L26 n σ y1 = some (r, σ') → va_P D vwCl (WM cI am σ) H → va_S A s.heap H locs → lv_has ls 2 [(0, .ref (am 0)), (1, .int y1)] → W p l e (rmO 0 0) s m [.ref (am 0)].toArray below meth c H locs 0 0 (MQ below (QV D A (WM cI am (σ'))) [.ref (am 0)].toArray s 0 0 A) (F0 m 26 ls []) := by
    intro n
    induction n with
    | zero => intro σ y1 H locs ls h; cases h
    | succ n ih =>
      intro σ y1 H locs ls h hP hS hl
      rw [f_X5_takeDay_L26] at h
      refine lv_iload_n hx hb dX5_takeDay_26 rfl (lv_at hl 1 rfl) ?_
      refine lv_aload_n hx hb dX5_takeDay_27 rfl (lv_at hl 0 rfl) ?_
      refine gt_X5_71 S hK hP dX5_takeDay_28 ?_
      refine lv_icmp_ge (tgt := 52) hx hb dX5_takeDay_31 (by decide) (fun c_31 => ?_) (fun c_31 => ?_)
      · replace h := ite_t c_31 h
        refine lv_iconst (v := (0 : Int32)) hx hb dX5_takeDay_52 (by decide) ?_
        refine lv_istore_n (lv' := [(1, .int (0 : Int32)), (0, .ref (am 0))]) hx hb dX5_takeDay_53 rfl hl (by decide) rfl (fun ls hl => ?_)
        exact loop54 100 σ (0 : Int32) _ _ _ h hP hS (lv_sub hl [1, 0] rfl)
      · replace h := ite_f c_31 h
        refine lv_aload_n hx hb dX5_takeDay_34 rfl (lv_at hl 0 rfl) ?_
        refine gt_X5_23 S hK hP dX5_takeDay_35 ?_
        refine lv_iload_n hx hb dX5_takeDay_38 rfl (lv_at hl 1 rfl) ?_
        refine lv_aload_n hx hb dX5_takeDay_39 rfl (lv_at hl 0 rfl) ?_
        refine gt_X5_41 S hK hP dX5_takeDay_40 ?_
        refine lv_iload_n hx hb dX5_takeDay_43 rfl (lv_at hl 1 rfl) ?_
        obtain ⟨hi_44, h⟩ := oin_of h
        refine k_iald S hK hP mr10 hi_44 dX5_takeDay_44 ?_
        obtain ⟨hi_45, h⟩ := oin_of h
        refine k_iast S hK hP (hAd _) hS mr4 mr4_s hi_45 dX5_takeDay_45 (fun H locs hP hS => ?_)
        refine lv_iinc (v := y1 + (1 : Int32)) (lv' := [(1, .int (y1 + (1 : Int32))), (0, .ref (am 0))]) hx hb dX5_takeDay_46 hl (k := 1) rfl rfl (by decide) rfl (fun ls hl => ?_)
        refine lv_goto (tgt := 26) hx hb dX5_takeDay_49 (by decide) ?_
        exact ih (sR σ 4 (upd (gR σ 4) y1.toNatClampNeg (gR σ 10 y1.toNatClampNeg))) (y1 + (1 : Int32)) _ _ _ h hP hS (lv_sub hl [1, 0] rfl)
  rw [f_X5_takeDay] at h
  refine lv_aload_n hx hb dX5_takeDay_0 rfl (lv_at hl 0 rfl) ?_
  refine lv_aload_n hx hb dX5_takeDay_1 rfl (lv_at hl 0 rfl) ?_
  refine gt_X5_104 S hK hP dX5_takeDay_2 ?_
  refine pt_X5_71 S hK hP (hAd _) hS dX5_takeDay_5 (fun H locs hP hS => ?_)
  refine lv_aload_n hx hb dX5_takeDay_8 rfl (lv_at hl 0 rfl) ?_
  refine lv_aload_n hx hb dX5_takeDay_9 rfl (lv_at hl 0 rfl) ?_
  refine gt_X5_107 S hK hP dX5_takeDay_10 ?_
  refine pt_X5_74 S hK hP (hAd _) hS dX5_takeDay_13 (fun H locs hP hS => ?_)
  refine lv_aload_n hx hb dX5_takeDay_16 rfl (lv_at hl 0 rfl) ?_
  refine lv_aload_n hx hb dX5_takeDay_17 rfl (lv_at hl 0 rfl) ?_
  refine gt_X5_110 S hK hP dX5_takeDay_18 ?_
  refine pt_X5_77 S hK hP (hAd _) hS dX5_takeDay_21 (fun H locs hP hS => ?_)
  refine lv_iconst (v := (0 : Int32)) hx hb dX5_takeDay_24 (by decide) ?_
  refine lv_istore_n (lv' := [(1, .int (0 : Int32)), (0, .ref (am 0))]) hx hb dX5_takeDay_25 rfl hl (by decide) rfl (fun ls hl => ?_)
  exact loop26 100 (sF (sF (sF σ 0 5 (gF σ 0 17)) 0 6 (gF (sF σ 0 5 (gF σ 0 17)) 0 18)) 0 7 (gF (sF (sF σ 0 5 (gF σ 0 17)) 0 6 (gF (sF σ 0 5 (gF σ 0 17)) 0 18)) 0 19)) (0 : Int32) _ _ _ h hP hS (lv_sub hl [1, 0] rfl)
def f_X5_day (σ : SX) (x1 : Int32) (x2 : Int32) (x3 : Int32) (x4 : Int32) : Option (Int32 × SX) := ob1 (f_X5_isSheet x1) (fun r_6 => if r_6 = 0 then (some ((-1 : Int32), sF σ 0 0 (0 : Int32))) else (ob1 (f_X5_isSort x2) (fun r_15 => if r_15 = 0 then (some ((-2 : Int32), sF σ 0 0 (0 : Int32))) else (ob1 (f_X5_against (sF σ 0 0 (0 : Int32)) x1 x2 x3 x4) (fun r_30 => if r_30 = 0 then (ob2 (f_X5_readDay (sF (sF σ 0 0 (0 : Int32)) 0 16 (((60 : Int32) * x1) + x3)) ((((60 : Int32) * x1) + x3) + x4)) (fun r_67 s_67 => if r_67 = 0 then (some ((-100 : Int32) - ((gF s_67 0 16) - (((60 : Int32) * x1) + x3)), s_67)) else (ob2 (f_X5_takeDay s_67) (fun r_85 s_85 => some (gF s_85 0 6, s_85))))) else (ob2 (f_X5_fails (sF σ 0 0 (0 : Int32)) r_30) (fun r_43 s_43 => some (r_43, s_43))))))))
set_option maxRecDepth 100000 in
set_option maxHeartbeats 4000000 in
theorem k_X5_day (l : Launch) {D : va_G} {A : Nat → Prop} {cI cZ cS : ClassId} {am : Nat → Nat} (hAd : ∀ σ, va_D A (WM cI am σ)) {σ : SX} {x1 : Int32} {x2 : Int32} {x3 : Int32} {x4 : Int32} {σ' : SX} {r : Int32} (h : f_X5_day σ x1 x2 x3 x4 = some (r, σ')) : Ct (QI D A r (WM cI am (σ'))) l yX5_day cX5_day 7 (some .int) 4 89 D (tyS cI cZ cS) A [.ref (am 0), .int x1, .int x2, .int x3, .int x4] (WM cI am σ) := by
  refine Ct.of (by decide +kernel) (Nat.le_of_ble_eq_true rfl) ?_
  intro p e s m below meth c ls S hK hr hlocks hP hS hl
  have hx := S.1
  have hb := S.2.1
  have hl : lv_has ls 7 [(0, .ref (am 0)), (1, .int x1), (2, .int x2), (3, .int x3), (4, .int x4)] := hl
  rw [f_X5_day] at h
  refine lv_aload_n hx hb dX5_day_0 rfl (lv_at hl 0 rfl) ?_
  refine lv_iconst (v := (0 : Int32)) hx hb dX5_day_1 (by decide) ?_
  refine pt_X5_62 S hK hP (hAd _) hS dX5_day_2 (fun H locs hP hS => ?_)
  refine lv_iload_n hx hb dX5_day_5 rfl (lv_at hl 1 rfl) ?_
  obtain ⟨r_6, e_6, h⟩ := ob1_of h
  refine k_goI (k_runS (As := [.int x1]) (rest := []) S hK hP (k_X5_isSheet l  e_6) cy_X5_isSheet wd_735 rfl hl.1 rfl (Nat.le_of_ble_eq_true rfl) dX5_day_6 ⟨Nat.le_of_ble_eq_true rfl, Nat.le_of_ble_eq_true rfl⟩ ⟨Nat.zero_le _, Nat.zero_le _⟩) hS (fun _ h => h) (fun H locs hP hS _ _ => ?_)
  refine lv_if_ne (tgt := 14) hx hb dX5_day_9 (by decide) (fun c_9 => ?_) (fun c_9 => ?_)
  · replace h := ite_f c_9 h
    refine lv_iload_n hx hb dX5_day_14 rfl (lv_at hl 2 rfl) ?_
    obtain ⟨r_15, e_15, h⟩ := ob1_of h
    refine k_goI (k_runS (As := [.int x2]) (rest := []) S hK hP (k_X5_isSort l  e_15) cy_X5_isSort wd_741 rfl hl.1 rfl (Nat.le_of_ble_eq_true rfl) dX5_day_15 ⟨Nat.le_of_ble_eq_true rfl, Nat.le_of_ble_eq_true rfl⟩ ⟨Nat.zero_le _, Nat.zero_le _⟩) hS (fun _ h => h) (fun H locs hP hS _ _ => ?_)
    refine lv_if_ne (tgt := 24) hx hb dX5_day_18 (by decide) (fun c_18 => ?_) (fun c_18 => ?_)
    · replace h := ite_f c_18 h
      refine lv_aload_n hx hb dX5_day_24 rfl (lv_at hl 0 rfl) ?_
      refine lv_iload_n hx hb dX5_day_25 rfl (lv_at hl 1 rfl) ?_
      refine lv_iload_n hx hb dX5_day_26 rfl (lv_at hl 2 rfl) ?_
      refine lv_iload_n hx hb dX5_day_27 rfl (lv_at hl 3 rfl) ?_
      refine lv_iload hx hb dX5_day_28 (lv_at hl 4 rfl) ?_
      obtain ⟨r_30, e_30, h⟩ := ob1_of h
      refine k_goI (k_runV (As := [.int x1, .int x2, .int x3, .int x4]) (rest := []) S hK hP (k_X5_against l hAd e_30) cy_X5_against wd_744 rfl mO rfl hl.1 rfl (Nat.le_of_ble_eq_true rfl) dX5_day_30 ⟨Nat.le_of_ble_eq_true rfl, Nat.le_of_ble_eq_true rfl⟩ ⟨Nat.zero_le _, Nat.zero_le _⟩) hS (fun _ h => h) (fun H locs hP hS _ _ => ?_)
      refine lv_istore (lv' := [(5, .int r_30), (0, .ref (am 0)), (1, .int x1), (2, .int x2), (3, .int x3), (4, .int x4)]) hx hb dX5_day_33 hl (by decide) rfl (fun ls hl => ?_)
      refine lv_iload hx hb dX5_day_35 (lv_at hl 0 rfl) ?_
      refine lv_if_eq (tgt := 47) hx hb dX5_day_37 (by decide) (fun c_37 => ?_) (fun c_37 => ?_)
      · replace h := ite_t c_37 h
        refine lv_bipush (v := (60 : Int32)) hx hb dX5_day_47 (by decide) ?_
        refine lv_iload_n hx hb dX5_day_49 rfl (lv_at hl 2 rfl) ?_
        refine lv_imul hx hb dX5_day_50 ?_
        refine lv_iload_n hx hb dX5_day_51 rfl (lv_at hl 4 rfl) ?_
        refine lv_iadd hx hb dX5_day_52 ?_
        refine lv_istore (lv' := [(6, .int (((60 : Int32) * x1) + x3)), (5, .int r_30), (0, .ref (am 0)), (1, .int x1), (2, .int x2), (3, .int x3), (4, .int x4)]) hx hb dX5_day_53 hl (by decide) rfl (fun ls hl => ?_)
        refine lv_aload_n hx hb dX5_day_55 rfl (lv_at hl 2 rfl) ?_
        refine lv_iload hx hb dX5_day_56 (lv_at hl 0 rfl) ?_
        refine pt_X5_80 S hK hP (hAd _) hS dX5_day_58 (fun H locs hP hS => ?_)
        refine lv_aload_n hx hb dX5_day_61 rfl (lv_at hl 2 rfl) ?_
        refine lv_iload hx hb dX5_day_62 (lv_at hl 0 rfl) ?_
        refine lv_iload hx hb dX5_day_64 (lv_at hl 6 rfl) ?_
        refine lv_iadd hx hb dX5_day_66 ?_
        obtain ⟨r_67, s_67, e_67, h⟩ := ob2_of h
        refine k_goI (k_runV (As := [.int ((((60 : Int32) * x1) + x3) + x4)]) (rest := []) S hK hP (k_X5_readDay l hAd e_67) cy_X5_readDay wd_752 rfl mO rfl hl.1 rfl (Nat.le_of_ble_eq_true rfl) dX5_day_67 ⟨Nat.le_of_ble_eq_true rfl, Nat.le_of_ble_eq_true rfl⟩ ⟨Nat.zero_le _, Nat.zero_le _⟩) hS (fun _ h => h) (fun H locs hP hS _ _ => ?_)
        refine lv_if_ne (tgt := 84) hx hb dX5_day_70 (by decide) (fun c_70 => ?_) (fun c_70 => ?_)
        · replace h := ite_f c_70 h
          refine lv_aload_n hx hb dX5_day_84 rfl (lv_at hl 2 rfl) ?_
          obtain ⟨r_85, s_85, e_85, h⟩ := ob2_of h
          refine k_goV (k_runV (As := []) (rest := []) S hK hP (k_X5_takeDay l hAd e_85) cy_X5_takeDay wd_772 rfl mO rfl hl.1 rfl (Nat.le_of_ble_eq_true rfl) dX5_day_85 ⟨Nat.le_of_ble_eq_true rfl, Nat.le_of_ble_eq_true rfl⟩ ⟨Nat.zero_le _, Nat.zero_le _⟩) hS (fun _ h => h) (fun H locs hP hS _ _ => ?_)
          refine lv_aload_n hx hb dX5_day_88 rfl (lv_at hl 2 rfl) ?_
          refine gt_X5_74 S hK hP dX5_day_89 ?_
          obtain ⟨rfl, rfl⟩ := some_pair h
          exact k_iret S hr hlocks hP hS rfl dX5_day_92
        · replace h := ite_t c_70 h
          refine lv_bipush (v := (-100 : Int32)) hx hb dX5_day_73 (by decide) ?_
          refine lv_aload_n hx hb dX5_day_75 rfl (lv_at hl 2 rfl) ?_
          refine gt_X5_80 S hK hP dX5_day_76 ?_
          refine lv_iload hx hb dX5_day_79 (lv_at hl 0 rfl) ?_
          refine lv_isub hx hb dX5_day_81 ?_
          refine lv_isub hx hb dX5_day_82 ?_
          obtain ⟨rfl, rfl⟩ := some_pair h
          exact k_iret S hr hlocks hP hS rfl dX5_day_83
      · replace h := ite_f c_37 h
        refine lv_aload_n hx hb dX5_day_40 rfl (lv_at hl 1 rfl) ?_
        refine lv_iload hx hb dX5_day_41 (lv_at hl 0 rfl) ?_
        obtain ⟨r_43, s_43, e_43, h⟩ := ob2_of h
        refine k_goI (k_runV (As := [.int r_30]) (rest := []) S hK hP (k_X5_fails l hAd e_43) cy_X5_fails wd_748 rfl mO rfl hl.1 rfl (Nat.le_of_ble_eq_true rfl) dX5_day_43 ⟨Nat.le_of_ble_eq_true rfl, Nat.le_of_ble_eq_true rfl⟩ ⟨Nat.zero_le _, Nat.zero_le _⟩) hS (fun _ h => h) (fun H locs hP hS _ _ => ?_)
        obtain ⟨rfl, rfl⟩ := some_pair h
        exact k_iret S hr hlocks hP hS rfl dX5_day_46
    · replace h := ite_t c_18 h
      refine lv_bipush (v := (-2 : Int32)) hx hb dX5_day_21 (by decide) ?_
      obtain ⟨rfl, rfl⟩ := some_pair h
      exact k_iret S hr hlocks hP hS rfl dX5_day_23
  · replace h := ite_t c_9 h
    refine lv_iconst (v := (-1 : Int32)) hx hb dX5_day_12 (by decide) ?_
    obtain ⟨rfl, rfl⟩ := some_pair h
    exact k_iret S hr hlocks hP hS rfl dX5_day_13
def f_X5_warmthOf (σ : SX) (x1 : Int32) : Option Int32 := oin x1 4 (if (gR σ 5 x1.toNatClampNeg) = 0 then (oin x1 4 (some (gR σ 6 x1.toNatClampNeg))) else (oin x1 4 (if (gR σ 5 x1.toNatClampNeg) = (1 : Int32) then (oin x1 4 (some ((gR σ 6 x1.toNatClampNeg) + (1 : Int32)))) else (oin x1 4 (some ((2 : Int32) * (gR σ 6 x1.toNatClampNeg)))))))
set_option maxRecDepth 100000 in
set_option maxHeartbeats 4000000 in
theorem k_X5_warmthOf (l : Launch) {D : va_G} {A : Nat → Prop} {cI cZ cS : ClassId} {am : Nat → Nat} (hAd : ∀ σ, va_D A (WM cI am σ)) {σ : SX} {x1 : Int32} {r : Int32} (h : f_X5_warmthOf σ x1 = some r) : Ct (QI D A r (WM cI am σ)) l yX5_warmthOf cX5_warmthOf 2 (some .int) 0 0 D (tyS cI cZ cS) A [.ref (am 0), .int x1] (WM cI am σ) := by
  refine Ct.of (by decide +kernel) (Nat.le_of_ble_eq_true rfl) ?_
  intro p e s m below meth c ls S hK hr hlocks hP hS hl
  have hx := S.1
  have hb := S.2.1
  have hl : lv_has ls 2 [(0, .ref (am 0)), (1, .int x1)] := hl
  rw [f_X5_warmthOf] at h
  refine lv_aload_n hx hb dX5_warmthOf_0 rfl (lv_at hl 0 rfl) ?_
  refine gt_X5_26 S hK hP dX5_warmthOf_1 ?_
  refine lv_iload_n hx hb dX5_warmthOf_4 rfl (lv_at hl 1 rfl) ?_
  obtain ⟨hi_5, h⟩ := oin_of h
  refine k_iald S hK hP mr5 hi_5 dX5_warmthOf_5 ?_
  refine lv_if_ne (tgt := 18) hx hb dX5_warmthOf_6 (by decide) (fun c_6 => ?_) (fun c_6 => ?_)
  · replace h := ite_f c_6 h
    refine lv_aload_n hx hb dX5_warmthOf_18 rfl (lv_at hl 0 rfl) ?_
    refine gt_X5_26 S hK hP dX5_warmthOf_19 ?_
    refine lv_iload_n hx hb dX5_warmthOf_22 rfl (lv_at hl 1 rfl) ?_
    obtain ⟨hi_23, h⟩ := oin_of h
    refine k_iald S hK hP mr5 hi_23 dX5_warmthOf_23 ?_
    refine lv_iconst (v := (1 : Int32)) hx hb dX5_warmthOf_24 (by decide) ?_
    refine lv_icmp_ne (tgt := 39) hx hb dX5_warmthOf_25 (by decide) (fun c_25 => ?_) (fun c_25 => ?_)
    · replace h := ite_f c_25 h
      refine lv_iconst (v := (2 : Int32)) hx hb dX5_warmthOf_39 (by decide) ?_
      refine lv_aload_n hx hb dX5_warmthOf_40 rfl (lv_at hl 0 rfl) ?_
      refine gt_X5_29 S hK hP dX5_warmthOf_41 ?_
      refine lv_iload_n hx hb dX5_warmthOf_44 rfl (lv_at hl 1 rfl) ?_
      obtain ⟨hi_45, h⟩ := oin_of h
      refine k_iald S hK hP mr6 hi_45 dX5_warmthOf_45 ?_
      refine lv_imul hx hb dX5_warmthOf_46 ?_
      exact k_iret S hr hlocks hP hS (Option.some.inj h) dX5_warmthOf_47
    · replace h := ite_t c_25 h
      refine lv_aload_n hx hb dX5_warmthOf_28 rfl (lv_at hl 0 rfl) ?_
      refine gt_X5_29 S hK hP dX5_warmthOf_29 ?_
      refine lv_iload_n hx hb dX5_warmthOf_32 rfl (lv_at hl 1 rfl) ?_
      obtain ⟨hi_33, h⟩ := oin_of h
      refine k_iald S hK hP mr6 hi_33 dX5_warmthOf_33 ?_
      refine lv_iconst (v := (1 : Int32)) hx hb dX5_warmthOf_34 (by decide) ?_
      refine lv_iadd hx hb dX5_warmthOf_35 ?_
      refine lv_goto (tgt := 47) hx hb dX5_warmthOf_36 (by decide) ?_
      exact k_iret S hr hlocks hP hS (Option.some.inj h) dX5_warmthOf_47
  · replace h := ite_t c_6 h
    refine lv_aload_n hx hb dX5_warmthOf_9 rfl (lv_at hl 0 rfl) ?_
    refine gt_X5_29 S hK hP dX5_warmthOf_10 ?_
    refine lv_iload_n hx hb dX5_warmthOf_13 rfl (lv_at hl 1 rfl) ?_
    obtain ⟨hi_14, h⟩ := oin_of h
    refine k_iald S hK hP mr6 hi_14 dX5_warmthOf_14 ?_
    refine lv_goto (tgt := 47) hx hb dX5_warmthOf_15 (by decide) ?_
    exact k_iret S hr hlocks hP hS (Option.some.inj h) dX5_warmthOf_47
def f_X5_chillOf (σ : SX) (x1 : Int32) (x2 : Int32) : Option Int32 := oin x2 6 (if x2 = (gF σ 0 8) then (ob1 (f_X5_warmthOf σ x1) (fun r_25 => some (((gR σ 4 x2.toNatClampNeg) - (gF σ 0 9)) - r_25))) else (ob1 (f_X5_warmthOf σ x1) (fun r_25 => some (((gR σ 4 x2.toNatClampNeg) - (0 : Int32)) - r_25))))
set_option maxRecDepth 100000 in
set_option maxHeartbeats 4000000 in
theorem k_X5_chillOf (l : Launch) {D : va_G} {A : Nat → Prop} {cI cZ cS : ClassId} {am : Nat → Nat} (hAd : ∀ σ, va_D A (WM cI am σ)) {σ : SX} {x1 : Int32} {x2 : Int32} {r : Int32} (h : f_X5_chillOf σ x1 x2 = some r) : Ct (QI D A r (WM cI am σ)) l yX5_chillOf cX5_chillOf 3 (some .int) 1 21 D (tyS cI cZ cS) A [.ref (am 0), .int x1, .int x2] (WM cI am σ) := by
  refine Ct.of (by decide +kernel) (Nat.le_of_ble_eq_true rfl) ?_
  intro p e s m below meth c ls S hK hr hlocks hP hS hl
  have hx := S.1
  have hb := S.2.1
  have hl : lv_has ls 3 [(0, .ref (am 0)), (1, .int x1), (2, .int x2)] := hl
  rw [f_X5_chillOf] at h
  refine lv_aload_n hx hb dX5_chillOf_0 rfl (lv_at hl 0 rfl) ?_
  refine gt_X5_23 S hK hP dX5_chillOf_1 ?_
  refine lv_iload_n hx hb dX5_chillOf_4 rfl (lv_at hl 2 rfl) ?_
  obtain ⟨hi_5, h⟩ := oin_of h
  refine k_iald S hK hP mr4 hi_5 dX5_chillOf_5 ?_
  refine lv_iload_n hx hb dX5_chillOf_6 rfl (lv_at hl 2 rfl) ?_
  refine lv_aload_n hx hb dX5_chillOf_7 rfl (lv_at hl 0 rfl) ?_
  refine gt_X5_19 S hK hP dX5_chillOf_8 ?_
  refine lv_icmp_ne (tgt := 21) hx hb dX5_chillOf_11 (by decide) (fun c_11 => ?_) (fun c_11 => ?_)
  · replace h := ite_f c_11 h
    refine lv_iconst (v := (0 : Int32)) hx hb dX5_chillOf_21 (by decide) ?_
    refine lv_isub hx hb dX5_chillOf_22 ?_
    refine lv_aload_n hx hb dX5_chillOf_23 rfl (lv_at hl 0 rfl) ?_
    refine lv_iload_n hx hb dX5_chillOf_24 rfl (lv_at hl 1 rfl) ?_
    obtain ⟨r_25, e_25, h⟩ := ob1_of h
    refine k_goI (k_runV (As := [.int x1]) (rest := [.int ((gR σ 4 x2.toNatClampNeg) - (0 : Int32))]) S hK hP (k_X5_warmthOf l hAd e_25) cy_X5_warmthOf wd_784 rfl mO rfl hl.1 rfl (Nat.le_of_ble_eq_true rfl) dX5_chillOf_25 ⟨Nat.le_of_ble_eq_true rfl, Nat.le_of_ble_eq_true rfl⟩ ⟨Nat.zero_le _, Nat.zero_le _⟩) hS (fun _ h => h) (fun H locs hP hS _ _ => ?_)
    refine lv_isub hx hb dX5_chillOf_28 ?_
    exact k_iret S hr hlocks hP hS (Option.some.inj h) dX5_chillOf_29
  · replace h := ite_t c_11 h
    refine lv_aload_n hx hb dX5_chillOf_14 rfl (lv_at hl 0 rfl) ?_
    refine gt_X5_113 S hK hP dX5_chillOf_15 ?_
    refine lv_goto (tgt := 22) hx hb dX5_chillOf_18 (by decide) ?_
    refine lv_isub hx hb dX5_chillOf_22 ?_
    refine lv_aload_n hx hb dX5_chillOf_23 rfl (lv_at hl 0 rfl) ?_
    refine lv_iload_n hx hb dX5_chillOf_24 rfl (lv_at hl 1 rfl) ?_
    obtain ⟨r_25, e_25, h⟩ := ob1_of h
    refine k_goI (k_runV (As := [.int x1]) (rest := [.int ((gR σ 4 x2.toNatClampNeg) - (gF σ 0 9))]) S hK hP (k_X5_warmthOf l hAd e_25) cy_X5_warmthOf wd_784 rfl mO rfl hl.1 rfl (Nat.le_of_ble_eq_true rfl) dX5_chillOf_25 ⟨Nat.le_of_ble_eq_true rfl, Nat.le_of_ble_eq_true rfl⟩ ⟨Nat.zero_le _, Nat.zero_le _⟩) hS (fun _ h => h) (fun H locs hP hS _ _ => ?_)
    refine lv_isub hx hb dX5_chillOf_28 ?_
    exact k_iret S hr hlocks hP hS (Option.some.inj h) dX5_chillOf_29
def f_X5_isCold (σ : SX) (x1 : Int32) (x2 : Int32) : Option Int32 := ob1 (f_X5_chillOf σ x1 x2) (fun r_3 => if r_3 ≤ 0 then (some (0 : Int32)) else (some (1 : Int32)))
set_option maxRecDepth 100000 in
set_option maxHeartbeats 4000000 in
theorem k_X5_isCold (l : Launch) {D : va_G} {A : Nat → Prop} {cI cZ cS : ClassId} {am : Nat → Nat} (hAd : ∀ σ, va_D A (WM cI am σ)) {σ : SX} {x1 : Int32} {x2 : Int32} {r : Int32} (h : f_X5_isCold σ x1 x2 = some r) : Ct (QI D A r (WM cI am σ)) l yX5_isCold cX5_isCold 3 (some .boolean) 2 43 D (tyS cI cZ cS) A [.ref (am 0), .int x1, .int x2] (WM cI am σ) := by
  refine Ct.of (by decide +kernel) (Nat.le_of_ble_eq_true rfl) ?_
  intro p e s m below meth c ls S hK hr hlocks hP hS hl
  have hx := S.1
  have hb := S.2.1
  have hl : lv_has ls 3 [(0, .ref (am 0)), (1, .int x1), (2, .int x2)] := hl
  rw [f_X5_isCold] at h
  refine lv_aload_n hx hb dX5_isCold_0 rfl (lv_at hl 0 rfl) ?_
  refine lv_iload_n hx hb dX5_isCold_1 rfl (lv_at hl 1 rfl) ?_
  refine lv_iload_n hx hb dX5_isCold_2 rfl (lv_at hl 2 rfl) ?_
  obtain ⟨r_3, e_3, h⟩ := ob1_of h
  refine k_goI (k_runV (As := [.int x1, .int x2]) (rest := []) S hK hP (k_X5_chillOf l hAd e_3) cy_X5_chillOf wd_796 rfl mO rfl hl.1 rfl (Nat.le_of_ble_eq_true rfl) dX5_isCold_3 ⟨Nat.le_of_ble_eq_true rfl, Nat.le_of_ble_eq_true rfl⟩ ⟨Nat.zero_le _, Nat.zero_le _⟩) hS (fun _ h => h) (fun H locs hP hS _ _ => ?_)
  refine lv_if_le (tgt := 13) hx hb dX5_isCold_6 (by decide) (fun c_6 => ?_) (fun c_6 => ?_)
  · replace h := ite_t c_6 h
    refine lv_iconst (v := (0 : Int32)) hx hb dX5_isCold_13 (by decide) ?_
    exact k_zret S hr hlocks hP hS (Option.some.inj h) (Or.inl rfl) dX5_isCold_14
  · replace h := ite_f c_6 h
    refine lv_iconst (v := (1 : Int32)) hx hb dX5_isCold_9 (by decide) ?_
    refine lv_goto (tgt := 14) hx hb dX5_isCold_10 (by decide) ?_
    exact k_zret S hr hlocks hP hS (Option.some.inj h) (Or.inr rfl) dX5_isCold_14
def f_X5_coldHours_L4 (σ : SX) : Nat → Int32 → Int32 → Int32 → Option Int32
  | 0, _, _, _ => none
  | n + 1, y1, y2, y3 => if (gF σ 0 5) ≤ y3 then (some y2) else (ob1 (f_X5_isCold σ y1 y3) (fun r_16 => if r_16 = 0 then (f_X5_coldHours_L4 σ n y1 (y2 ||| (0 : Int32)) (y3 + (1 : Int32))) else (f_X5_coldHours_L4 σ n y1 (y2 ||| ((1 : Int32) <<< (y3 &&& 31))) (y3 + (1 : Int32)))))
def f_X5_coldHours (σ : SX) (x1 : Int32) : Option Int32 := f_X5_coldHours_L4 σ 100 x1 (0 : Int32) (0 : Int32)
set_option maxRecDepth 100000 in
set_option maxHeartbeats 4000000 in
theorem k_X5_coldHours (l : Launch) {D : va_G} {A : Nat → Prop} {cI cZ cS : ClassId} {am : Nat → Nat} (hAd : ∀ σ, va_D A (WM cI am σ)) {σ : SX} {x1 : Int32} {r : Int32} (h : f_X5_coldHours σ x1 = some r) : Ct (QI D A r (WM cI am σ)) l yX5_coldHours cX5_coldHours 4 (some .int) 3 65 D (tyS cI cZ cS) A [.ref (am 0), .int x1] (WM cI am σ) := by
  refine Ct.of (by decide +kernel) (Nat.le_of_ble_eq_true rfl) ?_
  intro p e s m below meth c ls S hK hr hlocks hP hS hl
  have hx := S.1
  have hb := S.2.1
  have hl : lv_has ls 4 [(0, .ref (am 0)), (1, .int x1)] := hl
  have loop4 : ∀ (n : Nat) (y1 : Int32) (y2 : Int32) (y3 : Int32) (H : Heap) (locs : List Loc) (ls : Array Slot), f_X5_coldHours_L4 σ n y1 y2 y3 = some r → va_P D vwCl (WM cI am σ) H → va_S A s.heap H locs → lv_has ls 4 [(0, .ref (am 0)), (1, .int y1), (2, .int y2), (3, .int y3)] → W p l e (rmO 3 65) s m [.ref (am 0), .int x1].toArray below meth c H locs 0 0 (MQ below (QI D A r (WM cI am σ)) [.ref (am 0), .int x1].toArray s 0 0 A) (F0 m 4 ls []) := by
    intro n
    induction n with
    | zero => intro y1 y2 y3 H locs ls h; cases h
    | succ n ih =>
      intro y1 y2 y3 H locs ls h hP hS hl
      rw [f_X5_coldHours_L4] at h
      refine lv_iload_n hx hb dX5_coldHours_4 rfl (lv_at hl 3 rfl) ?_
      refine lv_aload_n hx hb dX5_coldHours_5 rfl (lv_at hl 0 rfl) ?_
      refine gt_X5_71 S hK hP dX5_coldHours_6 ?_
      refine lv_icmp_ge (tgt := 37) hx hb dX5_coldHours_9 (by decide) (fun c_9 => ?_) (fun c_9 => ?_)
      · replace h := ite_t c_9 h
        refine lv_iload_n hx hb dX5_coldHours_37 rfl (lv_at hl 2 rfl) ?_
        exact k_iret S hr hlocks hP hS (Option.some.inj h) dX5_coldHours_38
      · replace h := ite_f c_9 h
        refine lv_iload_n hx hb dX5_coldHours_12 rfl (lv_at hl 2 rfl) ?_
        refine lv_aload_n hx hb dX5_coldHours_13 rfl (lv_at hl 0 rfl) ?_
        refine lv_iload_n hx hb dX5_coldHours_14 rfl (lv_at hl 1 rfl) ?_
        refine lv_iload_n hx hb dX5_coldHours_15 rfl (lv_at hl 3 rfl) ?_
        obtain ⟨r_16, e_16, h⟩ := ob1_of h
        refine k_goI (k_runV (As := [.int y1, .int y3]) (rest := [.int y2]) S hK hP (k_X5_isCold l hAd e_16) cy_X5_isCold wd_792 rfl mO rfl hl.1 rfl (Nat.le_of_ble_eq_true rfl) dX5_coldHours_16 ⟨Nat.le_of_ble_eq_true rfl, Nat.le_of_ble_eq_true rfl⟩ ⟨Nat.zero_le _, Nat.zero_le _⟩) hS (fun _ h => h) (fun H locs hP hS _ _ => ?_)
        refine lv_if_eq (tgt := 28) hx hb dX5_coldHours_19 (by decide) (fun c_19 => ?_) (fun c_19 => ?_)
        · replace h := ite_t c_19 h
          refine lv_iconst (v := (0 : Int32)) hx hb dX5_coldHours_28 (by decide) ?_
          refine lv_ior hx hb dX5_coldHours_29 ?_
          refine lv_istore_n (lv' := [(2, .int (y2 ||| (0 : Int32))), (0, .ref (am 0)), (1, .int y1), (3, .int y3)]) hx hb dX5_coldHours_30 rfl hl (by decide) rfl (fun ls hl => ?_)
          refine lv_iinc (v := y3 + (1 : Int32)) (lv' := [(3, .int (y3 + (1 : Int32))), (2, .int (y2 ||| (0 : Int32))), (0, .ref (am 0)), (1, .int y1)]) hx hb dX5_coldHours_31 hl (k := 3) rfl rfl (by decide) rfl (fun ls hl => ?_)
          refine lv_goto (tgt := 4) hx hb dX5_coldHours_34 (by decide) ?_
          exact ih y1 (y2 ||| (0 : Int32)) (y3 + (1 : Int32)) _ _ _ h hP hS (lv_sub hl [2, 3, 1, 0] rfl)
        · replace h := ite_f c_19 h
          refine lv_iconst (v := (1 : Int32)) hx hb dX5_coldHours_22 (by decide) ?_
          refine lv_iload_n hx hb dX5_coldHours_23 rfl (lv_at hl 3 rfl) ?_
          refine lv_ishl hx hb dX5_coldHours_24 ?_
          refine lv_goto (tgt := 29) hx hb dX5_coldHours_25 (by decide) ?_
          refine lv_ior hx hb dX5_coldHours_29 ?_
          refine lv_istore_n (lv' := [(2, .int (y2 ||| ((1 : Int32) <<< (y3 &&& 31)))), (0, .ref (am 0)), (1, .int y1), (3, .int y3)]) hx hb dX5_coldHours_30 rfl hl (by decide) rfl (fun ls hl => ?_)
          refine lv_iinc (v := y3 + (1 : Int32)) (lv' := [(3, .int (y3 + (1 : Int32))), (2, .int (y2 ||| ((1 : Int32) <<< (y3 &&& 31)))), (0, .ref (am 0)), (1, .int y1)]) hx hb dX5_coldHours_31 hl (k := 3) rfl rfl (by decide) rfl (fun ls hl => ?_)
          refine lv_goto (tgt := 4) hx hb dX5_coldHours_34 (by decide) ?_
          exact ih y1 (y2 ||| ((1 : Int32) <<< (y3 &&& 31))) (y3 + (1 : Int32)) _ _ _ h hP hS (lv_sub hl [2, 3, 1, 0] rfl)
  rw [f_X5_coldHours] at h
  refine lv_iconst (v := (0 : Int32)) hx hb dX5_coldHours_0 (by decide) ?_
  refine lv_istore_n (lv' := [(2, .int (0 : Int32)), (0, .ref (am 0)), (1, .int x1)]) hx hb dX5_coldHours_1 rfl hl (by decide) rfl (fun ls hl => ?_)
  refine lv_iconst (v := (0 : Int32)) hx hb dX5_coldHours_2 (by decide) ?_
  refine lv_istore_n (lv' := [(3, .int (0 : Int32)), (2, .int (0 : Int32)), (0, .ref (am 0)), (1, .int x1)]) hx hb dX5_coldHours_3 rfl hl (by decide) rfl (fun ls hl => ?_)
  exact loop4 100 x1 (0 : Int32) (0 : Int32) _ _ _ h hP hS (lv_sub hl [2, 3, 1, 0] rfl)
def f_X5_binds (σ : SX) (x1 : Int32) : Option Int32 := oin x1 6 (oin x1 6 (ob1 (f_X5_isCold σ (gR σ 7 x1.toNatClampNeg) (gR σ 9 x1.toNatClampNeg)) (fun r_13 => oif (r_13 = 0 ∨ r_13 = 1) (some r_13))))
set_option maxRecDepth 100000 in
set_option maxHeartbeats 4000000 in
theorem k_X5_binds (l : Launch) {D : va_G} {A : Nat → Prop} {cI cZ cS : ClassId} {am : Nat → Nat} (hAd : ∀ σ, va_D A (WM cI am σ)) {σ : SX} {x1 : Int32} {r : Int32} (h : f_X5_binds σ x1 = some r) : Ct (QI D A r (WM cI am σ)) l yX5_binds cX5_binds 2 (some .boolean) 3 65 D (tyS cI cZ cS) A [.ref (am 0), .int x1] (WM cI am σ) := by
  refine Ct.of (by decide +kernel) (Nat.le_of_ble_eq_true rfl) ?_
  intro p e s m below meth c ls S hK hr hlocks hP hS hl
  have hx := S.1
  have hb := S.2.1
  have hl : lv_has ls 2 [(0, .ref (am 0)), (1, .int x1)] := hl
  rw [f_X5_binds] at h
  refine lv_aload_n hx hb dX5_binds_0 rfl (lv_at hl 0 rfl) ?_
  refine lv_aload_n hx hb dX5_binds_1 rfl (lv_at hl 0 rfl) ?_
  refine gt_X5_32 S hK hP dX5_binds_2 ?_
  refine lv_iload_n hx hb dX5_binds_5 rfl (lv_at hl 1 rfl) ?_
  obtain ⟨hi_6, h⟩ := oin_of h
  refine k_iald S hK hP mr7 hi_6 dX5_binds_6 ?_
  refine lv_aload_n hx hb dX5_binds_7 rfl (lv_at hl 0 rfl) ?_
  refine gt_X5_38 S hK hP dX5_binds_8 ?_
  refine lv_iload_n hx hb dX5_binds_11 rfl (lv_at hl 1 rfl) ?_
  obtain ⟨hi_12, h⟩ := oin_of h
  refine k_iald S hK hP mr9 hi_12 dX5_binds_12 ?_
  obtain ⟨r_13, e_13, h⟩ := ob1_of h
  refine k_goI (k_runV (As := [.int (gR σ 7 x1.toNatClampNeg), .int (gR σ 9 x1.toNatClampNeg)]) (rest := []) S hK hP (k_X5_isCold l hAd e_13) cy_X5_isCold wd_792 rfl mO rfl hl.1 rfl (Nat.le_of_ble_eq_true rfl) dX5_binds_13 ⟨Nat.le_of_ble_eq_true rfl, Nat.le_of_ble_eq_true rfl⟩ ⟨Nat.zero_le _, Nat.zero_le _⟩) hS (fun _ h => h) (fun H locs hP hS _ _ => ?_)
  obtain ⟨hz_16, h⟩ := oif_of h
  exact k_zret S hr hlocks hP hS (Option.some.inj h) hz_16 dX5_binds_16
def f_X5_whichBind_L4 (σ : SX) : Nat → Int32 → Int32 → Option Int32
  | 0, _, _ => none
  | n + 1, y1, y2 => if (gF σ 0 7) ≤ y2 then (some y1) else (ob1 (f_X5_binds σ y2) (fun r_15 => if r_15 = 0 then (f_X5_whichBind_L4 σ n (y1 ||| (0 : Int32)) (y2 + (1 : Int32))) else (f_X5_whichBind_L4 σ n (y1 ||| ((1 : Int32) <<< (y2 &&& 31))) (y2 + (1 : Int32)))))
def f_X5_whichBind (σ : SX) : Option Int32 := f_X5_whichBind_L4 σ 100 (0 : Int32) (0 : Int32)
set_option maxRecDepth 100000 in
set_option maxHeartbeats 4000000 in
theorem k_X5_whichBind (l : Launch) {D : va_G} {A : Nat → Prop} {cI cZ cS : ClassId} {am : Nat → Nat} (hAd : ∀ σ, va_D A (WM cI am σ)) {σ : SX} {r : Int32} (h : f_X5_whichBind σ = some r) : Ct (QI D A r (WM cI am σ)) l yX5_whichBind cX5_whichBind 3 (some .int) 4 86 D (tyS cI cZ cS) A [.ref (am 0)] (WM cI am σ) := by
  refine Ct.of (by decide +kernel) (Nat.le_of_ble_eq_true rfl) ?_
  intro p e s m below meth c ls S hK hr hlocks hP hS hl
  have hx := S.1
  have hb := S.2.1
  have hl : lv_has ls 3 [(0, .ref (am 0))] := hl
  have loop4 : ∀ (n : Nat) (y1 : Int32) (y2 : Int32) (H : Heap) (locs : List Loc) (ls : Array Slot), f_X5_whichBind_L4 σ n y1 y2 = some r → va_P D vwCl (WM cI am σ) H → va_S A s.heap H locs → lv_has ls 3 [(0, .ref (am 0)), (1, .int y1), (2, .int y2)] → W p l e (rmO 4 86) s m [.ref (am 0)].toArray below meth c H locs 0 0 (MQ below (QI D A r (WM cI am σ)) [.ref (am 0)].toArray s 0 0 A) (F0 m 4 ls []) := by
    intro n
    induction n with
    | zero => intro y1 y2 H locs ls h; cases h
    | succ n ih =>
      intro y1 y2 H locs ls h hP hS hl
      rw [f_X5_whichBind_L4] at h
      refine lv_iload_n hx hb dX5_whichBind_4 rfl (lv_at hl 2 rfl) ?_
      refine lv_aload_n hx hb dX5_whichBind_5 rfl (lv_at hl 0 rfl) ?_
      refine gt_X5_77 S hK hP dX5_whichBind_6 ?_
      refine lv_icmp_ge (tgt := 36) hx hb dX5_whichBind_9 (by decide) (fun c_9 => ?_) (fun c_9 => ?_)
      · replace h := ite_t c_9 h
        refine lv_iload_n hx hb dX5_whichBind_36 rfl (lv_at hl 1 rfl) ?_
        exact k_iret S hr hlocks hP hS (Option.some.inj h) dX5_whichBind_37
      · replace h := ite_f c_9 h
        refine lv_iload_n hx hb dX5_whichBind_12 rfl (lv_at hl 1 rfl) ?_
        refine lv_aload_n hx hb dX5_whichBind_13 rfl (lv_at hl 0 rfl) ?_
        refine lv_iload_n hx hb dX5_whichBind_14 rfl (lv_at hl 2 rfl) ?_
        obtain ⟨r_15, e_15, h⟩ := ob1_of h
        refine k_goI (k_runV (As := [.int y2]) (rest := [.int y1]) S hK hP (k_X5_binds l hAd e_15) cy_X5_binds wd_808 rfl mO rfl hl.1 rfl (Nat.le_of_ble_eq_true rfl) dX5_whichBind_15 ⟨Nat.le_of_ble_eq_true rfl, Nat.le_of_ble_eq_true rfl⟩ ⟨Nat.zero_le _, Nat.zero_le _⟩) hS (fun _ h => h) (fun H locs hP hS _ _ => ?_)
        refine lv_if_eq (tgt := 27) hx hb dX5_whichBind_18 (by decide) (fun c_18 => ?_) (fun c_18 => ?_)
        · replace h := ite_t c_18 h
          refine lv_iconst (v := (0 : Int32)) hx hb dX5_whichBind_27 (by decide) ?_
          refine lv_ior hx hb dX5_whichBind_28 ?_
          refine lv_istore_n (lv' := [(1, .int (y1 ||| (0 : Int32))), (0, .ref (am 0)), (2, .int y2)]) hx hb dX5_whichBind_29 rfl hl (by decide) rfl (fun ls hl => ?_)
          refine lv_iinc (v := y2 + (1 : Int32)) (lv' := [(2, .int (y2 + (1 : Int32))), (1, .int (y1 ||| (0 : Int32))), (0, .ref (am 0))]) hx hb dX5_whichBind_30 hl (k := 2) rfl rfl (by decide) rfl (fun ls hl => ?_)
          refine lv_goto (tgt := 4) hx hb dX5_whichBind_33 (by decide) ?_
          exact ih (y1 ||| (0 : Int32)) (y2 + (1 : Int32)) _ _ _ h hP hS (lv_sub hl [2, 1, 0] rfl)
        · replace h := ite_f c_18 h
          refine lv_iconst (v := (1 : Int32)) hx hb dX5_whichBind_21 (by decide) ?_
          refine lv_iload_n hx hb dX5_whichBind_22 rfl (lv_at hl 2 rfl) ?_
          refine lv_ishl hx hb dX5_whichBind_23 ?_
          refine lv_goto (tgt := 28) hx hb dX5_whichBind_24 (by decide) ?_
          refine lv_ior hx hb dX5_whichBind_28 ?_
          refine lv_istore_n (lv' := [(1, .int (y1 ||| ((1 : Int32) <<< (y2 &&& 31)))), (0, .ref (am 0)), (2, .int y2)]) hx hb dX5_whichBind_29 rfl hl (by decide) rfl (fun ls hl => ?_)
          refine lv_iinc (v := y2 + (1 : Int32)) (lv' := [(2, .int (y2 + (1 : Int32))), (1, .int (y1 ||| ((1 : Int32) <<< (y2 &&& 31)))), (0, .ref (am 0))]) hx hb dX5_whichBind_30 hl (k := 2) rfl rfl (by decide) rfl (fun ls hl => ?_)
          refine lv_goto (tgt := 4) hx hb dX5_whichBind_33 (by decide) ?_
          exact ih (y1 ||| ((1 : Int32) <<< (y2 &&& 31))) (y2 + (1 : Int32)) _ _ _ h hP hS (lv_sub hl [2, 1, 0] rfl)
  rw [f_X5_whichBind] at h
  refine lv_iconst (v := (0 : Int32)) hx hb dX5_whichBind_0 (by decide) ?_
  refine lv_istore_n (lv' := [(1, .int (0 : Int32)), (0, .ref (am 0))]) hx hb dX5_whichBind_1 rfl hl (by decide) rfl (fun ls hl => ?_)
  refine lv_iconst (v := (0 : Int32)) hx hb dX5_whichBind_2 (by decide) ?_
  refine lv_istore_n (lv' := [(2, .int (0 : Int32)), (1, .int (0 : Int32)), (0, .ref (am 0))]) hx hb dX5_whichBind_3 rfl hl (by decide) rfl (fun ls hl => ?_)
  exact loop4 100 (0 : Int32) (0 : Int32) _ _ _ h hP hS (lv_sub hl [2, 1, 0] rfl)
def f_X5_swornBy_L4 (σ : SX) : Nat → Int32 → Int32 → Int32 → Option Int32
  | 0, _, _, _ => none
  | n + 1, y1, y2, y3 => if (gF σ 0 7) ≤ y3 then (some y2) else (oin y3 6 (if (gR σ 7 y3.toNatClampNeg) = y1 then (f_X5_swornBy_L4 σ n y1 (y2 ||| ((1 : Int32) <<< (y3 &&& 31))) (y3 + (1 : Int32))) else (f_X5_swornBy_L4 σ n y1 (y2 ||| (0 : Int32)) (y3 + (1 : Int32)))))
def f_X5_swornBy (σ : SX) (x1 : Int32) : Option Int32 := f_X5_swornBy_L4 σ 100 x1 (0 : Int32) (0 : Int32)
set_option maxRecDepth 100000 in
set_option maxHeartbeats 4000000 in
theorem k_X5_swornBy (l : Launch) {D : va_G} {A : Nat → Prop} {cI cZ cS : ClassId} {am : Nat → Nat} (hAd : ∀ σ, va_D A (WM cI am σ)) {σ : SX} {x1 : Int32} {r : Int32} (h : f_X5_swornBy σ x1 = some r) : Ct (QI D A r (WM cI am σ)) l yX5_swornBy cX5_swornBy 4 (some .int) 0 0 D (tyS cI cZ cS) A [.ref (am 0), .int x1] (WM cI am σ) := by
  refine Ct.of (by decide +kernel) (Nat.le_of_ble_eq_true rfl) ?_
  intro p e s m below meth c ls S hK hr hlocks hP hS hl
  have hx := S.1
  have hb := S.2.1
  have hl : lv_has ls 4 [(0, .ref (am 0)), (1, .int x1)] := hl
  have loop4 : ∀ (n : Nat) (y1 : Int32) (y2 : Int32) (y3 : Int32) (H : Heap) (locs : List Loc) (ls : Array Slot), f_X5_swornBy_L4 σ n y1 y2 y3 = some r → va_P D vwCl (WM cI am σ) H → va_S A s.heap H locs → lv_has ls 4 [(0, .ref (am 0)), (1, .int y1), (2, .int y2), (3, .int y3)] → W p l e (rmO 0 0) s m [.ref (am 0), .int x1].toArray below meth c H locs 0 0 (MQ below (QI D A r (WM cI am σ)) [.ref (am 0), .int x1].toArray s 0 0 A) (F0 m 4 ls []) := by
    intro n
    induction n with
    | zero => intro y1 y2 y3 H locs ls h; cases h
    | succ n ih =>
      intro y1 y2 y3 H locs ls h hP hS hl
      rw [f_X5_swornBy_L4] at h
      refine lv_iload_n hx hb dX5_swornBy_4 rfl (lv_at hl 3 rfl) ?_
      refine lv_aload_n hx hb dX5_swornBy_5 rfl (lv_at hl 0 rfl) ?_
      refine gt_X5_77 S hK hP dX5_swornBy_6 ?_
      refine lv_icmp_ge (tgt := 38) hx hb dX5_swornBy_9 (by decide) (fun c_9 => ?_) (fun c_9 => ?_)
      · replace h := ite_t c_9 h
        refine lv_iload_n hx hb dX5_swornBy_38 rfl (lv_at hl 2 rfl) ?_
        exact k_iret S hr hlocks hP hS (Option.some.inj h) dX5_swornBy_39
      · replace h := ite_f c_9 h
        refine lv_iload_n hx hb dX5_swornBy_12 rfl (lv_at hl 2 rfl) ?_
        refine lv_aload_n hx hb dX5_swornBy_13 rfl (lv_at hl 0 rfl) ?_
        refine gt_X5_32 S hK hP dX5_swornBy_14 ?_
        refine lv_iload_n hx hb dX5_swornBy_17 rfl (lv_at hl 3 rfl) ?_
        obtain ⟨hi_18, h⟩ := oin_of h
        refine k_iald S hK hP mr7 hi_18 dX5_swornBy_18 ?_
        refine lv_iload_n hx hb dX5_swornBy_19 rfl (lv_at hl 1 rfl) ?_
        refine lv_icmp_ne (tgt := 29) hx hb dX5_swornBy_20 (by decide) (fun c_20 => ?_) (fun c_20 => ?_)
        · replace h := ite_f c_20 h
          refine lv_iconst (v := (0 : Int32)) hx hb dX5_swornBy_29 (by decide) ?_
          refine lv_ior hx hb dX5_swornBy_30 ?_
          refine lv_istore_n (lv' := [(2, .int (y2 ||| (0 : Int32))), (0, .ref (am 0)), (1, .int y1), (3, .int y3)]) hx hb dX5_swornBy_31 rfl hl (by decide) rfl (fun ls hl => ?_)
          refine lv_iinc (v := y3 + (1 : Int32)) (lv' := [(3, .int (y3 + (1 : Int32))), (2, .int (y2 ||| (0 : Int32))), (0, .ref (am 0)), (1, .int y1)]) hx hb dX5_swornBy_32 hl (k := 3) rfl rfl (by decide) rfl (fun ls hl => ?_)
          refine lv_goto (tgt := 4) hx hb dX5_swornBy_35 (by decide) ?_
          exact ih y1 (y2 ||| (0 : Int32)) (y3 + (1 : Int32)) _ _ _ h hP hS (lv_sub hl [2, 3, 1, 0] rfl)
        · replace h := ite_t c_20 h
          refine lv_iconst (v := (1 : Int32)) hx hb dX5_swornBy_23 (by decide) ?_
          refine lv_iload_n hx hb dX5_swornBy_24 rfl (lv_at hl 3 rfl) ?_
          refine lv_ishl hx hb dX5_swornBy_25 ?_
          refine lv_goto (tgt := 30) hx hb dX5_swornBy_26 (by decide) ?_
          refine lv_ior hx hb dX5_swornBy_30 ?_
          refine lv_istore_n (lv' := [(2, .int (y2 ||| ((1 : Int32) <<< (y3 &&& 31)))), (0, .ref (am 0)), (1, .int y1), (3, .int y3)]) hx hb dX5_swornBy_31 rfl hl (by decide) rfl (fun ls hl => ?_)
          refine lv_iinc (v := y3 + (1 : Int32)) (lv' := [(3, .int (y3 + (1 : Int32))), (2, .int (y2 ||| ((1 : Int32) <<< (y3 &&& 31)))), (0, .ref (am 0)), (1, .int y1)]) hx hb dX5_swornBy_32 hl (k := 3) rfl rfl (by decide) rfl (fun ls hl => ?_)
          refine lv_goto (tgt := 4) hx hb dX5_swornBy_35 (by decide) ?_
          exact ih y1 (y2 ||| ((1 : Int32) <<< (y3 &&& 31))) (y3 + (1 : Int32)) _ _ _ h hP hS (lv_sub hl [2, 3, 1, 0] rfl)
  rw [f_X5_swornBy] at h
  refine lv_iconst (v := (0 : Int32)) hx hb dX5_swornBy_0 (by decide) ?_
  refine lv_istore_n (lv' := [(2, .int (0 : Int32)), (0, .ref (am 0)), (1, .int x1)]) hx hb dX5_swornBy_1 rfl hl (by decide) rfl (fun ls hl => ?_)
  refine lv_iconst (v := (0 : Int32)) hx hb dX5_swornBy_2 (by decide) ?_
  refine lv_istore_n (lv' := [(3, .int (0 : Int32)), (2, .int (0 : Int32)), (0, .ref (am 0)), (1, .int x1)]) hx hb dX5_swornBy_3 rfl hl (by decide) rfl (fun ls hl => ?_)
  exact loop4 100 x1 (0 : Int32) (0 : Int32) _ _ _ h hP hS (lv_sub hl [2, 3, 1, 0] rfl)
def f_X5_whoCold_L4 (σ : SX) : Nat → Int32 → Int32 → Int32 → Option Int32
  | 0, _, _, _ => none
  | n + 1, y1, y2, y3 => if (gF σ 0 6) ≤ y3 then (some y2) else (ob1 (f_X5_isCold σ y3 y1) (fun r_16 => if r_16 = 0 then (f_X5_whoCold_L4 σ n y1 (y2 ||| (0 : Int32)) (y3 + (1 : Int32))) else (f_X5_whoCold_L4 σ n y1 (y2 ||| ((1 : Int32) <<< (y3 &&& 31))) (y3 + (1 : Int32)))))
def f_X5_whoCold (σ : SX) (x1 : Int32) : Option Int32 := f_X5_whoCold_L4 σ 100 x1 (0 : Int32) (0 : Int32)
set_option maxRecDepth 100000 in
set_option maxHeartbeats 4000000 in
theorem k_X5_whoCold (l : Launch) {D : va_G} {A : Nat → Prop} {cI cZ cS : ClassId} {am : Nat → Nat} (hAd : ∀ σ, va_D A (WM cI am σ)) {σ : SX} {x1 : Int32} {r : Int32} (h : f_X5_whoCold σ x1 = some r) : Ct (QI D A r (WM cI am σ)) l yX5_whoCold cX5_whoCold 4 (some .int) 3 65 D (tyS cI cZ cS) A [.ref (am 0), .int x1] (WM cI am σ) := by
  refine Ct.of (by decide +kernel) (Nat.le_of_ble_eq_true rfl) ?_
  intro p e s m below meth c ls S hK hr hlocks hP hS hl
  have hx := S.1
  have hb := S.2.1
  have hl : lv_has ls 4 [(0, .ref (am 0)), (1, .int x1)] := hl
  have loop4 : ∀ (n : Nat) (y1 : Int32) (y2 : Int32) (y3 : Int32) (H : Heap) (locs : List Loc) (ls : Array Slot), f_X5_whoCold_L4 σ n y1 y2 y3 = some r → va_P D vwCl (WM cI am σ) H → va_S A s.heap H locs → lv_has ls 4 [(0, .ref (am 0)), (1, .int y1), (2, .int y2), (3, .int y3)] → W p l e (rmO 3 65) s m [.ref (am 0), .int x1].toArray below meth c H locs 0 0 (MQ below (QI D A r (WM cI am σ)) [.ref (am 0), .int x1].toArray s 0 0 A) (F0 m 4 ls []) := by
    intro n
    induction n with
    | zero => intro y1 y2 y3 H locs ls h; cases h
    | succ n ih =>
      intro y1 y2 y3 H locs ls h hP hS hl
      rw [f_X5_whoCold_L4] at h
      refine lv_iload_n hx hb dX5_whoCold_4 rfl (lv_at hl 3 rfl) ?_
      refine lv_aload_n hx hb dX5_whoCold_5 rfl (lv_at hl 0 rfl) ?_
      refine gt_X5_74 S hK hP dX5_whoCold_6 ?_
      refine lv_icmp_ge (tgt := 37) hx hb dX5_whoCold_9 (by decide) (fun c_9 => ?_) (fun c_9 => ?_)
      · replace h := ite_t c_9 h
        refine lv_iload_n hx hb dX5_whoCold_37 rfl (lv_at hl 2 rfl) ?_
        exact k_iret S hr hlocks hP hS (Option.some.inj h) dX5_whoCold_38
      · replace h := ite_f c_9 h
        refine lv_iload_n hx hb dX5_whoCold_12 rfl (lv_at hl 2 rfl) ?_
        refine lv_aload_n hx hb dX5_whoCold_13 rfl (lv_at hl 0 rfl) ?_
        refine lv_iload_n hx hb dX5_whoCold_14 rfl (lv_at hl 3 rfl) ?_
        refine lv_iload_n hx hb dX5_whoCold_15 rfl (lv_at hl 1 rfl) ?_
        obtain ⟨r_16, e_16, h⟩ := ob1_of h
        refine k_goI (k_runV (As := [.int y3, .int y1]) (rest := [.int y2]) S hK hP (k_X5_isCold l hAd e_16) cy_X5_isCold wd_792 rfl mO rfl hl.1 rfl (Nat.le_of_ble_eq_true rfl) dX5_whoCold_16 ⟨Nat.le_of_ble_eq_true rfl, Nat.le_of_ble_eq_true rfl⟩ ⟨Nat.zero_le _, Nat.zero_le _⟩) hS (fun _ h => h) (fun H locs hP hS _ _ => ?_)
        refine lv_if_eq (tgt := 28) hx hb dX5_whoCold_19 (by decide) (fun c_19 => ?_) (fun c_19 => ?_)
        · replace h := ite_t c_19 h
          refine lv_iconst (v := (0 : Int32)) hx hb dX5_whoCold_28 (by decide) ?_
          refine lv_ior hx hb dX5_whoCold_29 ?_
          refine lv_istore_n (lv' := [(2, .int (y2 ||| (0 : Int32))), (0, .ref (am 0)), (1, .int y1), (3, .int y3)]) hx hb dX5_whoCold_30 rfl hl (by decide) rfl (fun ls hl => ?_)
          refine lv_iinc (v := y3 + (1 : Int32)) (lv' := [(3, .int (y3 + (1 : Int32))), (2, .int (y2 ||| (0 : Int32))), (0, .ref (am 0)), (1, .int y1)]) hx hb dX5_whoCold_31 hl (k := 3) rfl rfl (by decide) rfl (fun ls hl => ?_)
          refine lv_goto (tgt := 4) hx hb dX5_whoCold_34 (by decide) ?_
          exact ih y1 (y2 ||| (0 : Int32)) (y3 + (1 : Int32)) _ _ _ h hP hS (lv_sub hl [2, 3, 1, 0] rfl)
        · replace h := ite_f c_19 h
          refine lv_iconst (v := (1 : Int32)) hx hb dX5_whoCold_22 (by decide) ?_
          refine lv_iload_n hx hb dX5_whoCold_23 rfl (lv_at hl 3 rfl) ?_
          refine lv_ishl hx hb dX5_whoCold_24 ?_
          refine lv_goto (tgt := 29) hx hb dX5_whoCold_25 (by decide) ?_
          refine lv_ior hx hb dX5_whoCold_29 ?_
          refine lv_istore_n (lv' := [(2, .int (y2 ||| ((1 : Int32) <<< (y3 &&& 31)))), (0, .ref (am 0)), (1, .int y1), (3, .int y3)]) hx hb dX5_whoCold_30 rfl hl (by decide) rfl (fun ls hl => ?_)
          refine lv_iinc (v := y3 + (1 : Int32)) (lv' := [(3, .int (y3 + (1 : Int32))), (2, .int (y2 ||| ((1 : Int32) <<< (y3 &&& 31)))), (0, .ref (am 0)), (1, .int y1)]) hx hb dX5_whoCold_31 hl (k := 3) rfl rfl (by decide) rfl (fun ls hl => ?_)
          refine lv_goto (tgt := 4) hx hb dX5_whoCold_34 (by decide) ?_
          exact ih y1 (y2 ||| ((1 : Int32) <<< (y3 &&& 31))) (y3 + (1 : Int32)) _ _ _ h hP hS (lv_sub hl [2, 3, 1, 0] rfl)
  rw [f_X5_whoCold] at h
  refine lv_iconst (v := (0 : Int32)) hx hb dX5_whoCold_0 (by decide) ?_
  refine lv_istore_n (lv' := [(2, .int (0 : Int32)), (0, .ref (am 0)), (1, .int x1)]) hx hb dX5_whoCold_1 rfl hl (by decide) rfl (fun ls hl => ?_)
  refine lv_iconst (v := (0 : Int32)) hx hb dX5_whoCold_2 (by decide) ?_
  refine lv_istore_n (lv' := [(3, .int (0 : Int32)), (2, .int (0 : Int32)), (0, .ref (am 0)), (1, .int x1)]) hx hb dX5_whoCold_3 rfl hl (by decide) rfl (fun ls hl => ?_)
  exact loop4 100 x1 (0 : Int32) (0 : Int32) _ _ _ h hP hS (lv_sub hl [2, 3, 1, 0] rfl)
def f_X5_ofSwearer (σ : SX) (x1 : Int32) (x2 : Int32) : Option Int32 := ob1 (f_X5_isSwearer σ x1) (fun r_2 => if r_2 = 0 then (some (-1 : Int32)) else (if x2 = (0 : Int32) then (oin x1 4 (some (gR σ 5 x1.toNatClampNeg))) else (if x2 = (1 : Int32) then (oin x1 4 (some (gR σ 6 x1.toNatClampNeg))) else (if x2 = (2 : Int32) then (ob1 (f_X5_warmthOf σ x1) (fun r_64 => some r_64)) else (if x2 = (3 : Int32) then (ob1 (f_X5_coldHours σ x1) (fun r_70 => some r_70)) else (if x2 = (4 : Int32) then (ob1 (f_X5_swornBy σ x1) (fun r_76 => some r_76)) else (if x2 = (5 : Int32) then (ob1 (f_X5_swornBy σ x1) (fun r_82 => ob1 (f_X5_whichBind σ) (fun r_86 => some (r_82 &&& r_86)))) else (some (-2 : Int32)))))))))
set_option maxRecDepth 100000 in
set_option maxHeartbeats 4000000 in
theorem k_X5_ofSwearer (l : Launch) {D : va_G} {A : Nat → Prop} {cI cZ cS : ClassId} {am : Nat → Nat} (hAd : ∀ σ, va_D A (WM cI am σ)) {σ : SX} {x1 : Int32} {x2 : Int32} {r : Int32} (h : f_X5_ofSwearer σ x1 x2 = some r) : Ct (QI D A r (WM cI am σ)) l yX5_ofSwearer cX5_ofSwearer 3 (some .int) 5 108 D (tyS cI cZ cS) A [.ref (am 0), .int x1, .int x2] (WM cI am σ) := by
  refine Ct.of (by decide +kernel) (Nat.le_of_ble_eq_true rfl) ?_
  intro p e s m below meth c ls S hK hr hlocks hP hS hl
  have hx := S.1
  have hb := S.2.1
  have hl : lv_has ls 3 [(0, .ref (am 0)), (1, .int x1), (2, .int x2)] := hl
  rw [f_X5_ofSwearer] at h
  refine lv_aload_n hx hb dX5_ofSwearer_0 rfl (lv_at hl 0 rfl) ?_
  refine lv_iload_n hx hb dX5_ofSwearer_1 rfl (lv_at hl 1 rfl) ?_
  obtain ⟨r_2, e_2, h⟩ := ob1_of h
  refine k_goI (k_runV (As := [.int x1]) (rest := []) S hK hP (k_X5_isSwearer l hAd e_2) cy_X5_isSwearer wd_780 rfl mO rfl hl.1 rfl (Nat.le_of_ble_eq_true rfl) dX5_ofSwearer_2 ⟨Nat.le_of_ble_eq_true rfl, Nat.le_of_ble_eq_true rfl⟩ ⟨Nat.zero_le _, Nat.zero_le _⟩) hS (fun _ h => h) (fun H locs hP hS _ _ => ?_)
  refine lv_if_ne (tgt := 10) hx hb dX5_ofSwearer_5 (by decide) (fun c_5 => ?_) (fun c_5 => ?_)
  · replace h := ite_f c_5 h
    refine lv_iload_n hx hb dX5_ofSwearer_10 rfl (lv_at hl 2 rfl) ?_
    by_cases c_11_0 : x2 = (0 : Int32)
    · replace h := ite_t c_11_0 h
      refine lv_tableIn (tgt := 48) hx hb dX5_ofSwearer_11 (by rw [c_11_0]; decide) (by rw [c_11_0]; decide) (by rw [c_11_0] <;> rfl) (by decide) ?_
      refine lv_aload_n hx hb dX5_ofSwearer_48 rfl (lv_at hl 0 rfl) ?_
      refine gt_X5_26 S hK hP dX5_ofSwearer_49 ?_
      refine lv_iload_n hx hb dX5_ofSwearer_52 rfl (lv_at hl 1 rfl) ?_
      obtain ⟨hi_53, h⟩ := oin_of h
      refine k_iald S hK hP mr5 hi_53 dX5_ofSwearer_53 ?_
      exact k_iret S hr hlocks hP hS (Option.some.inj h) dX5_ofSwearer_54
    · replace h := ite_f c_11_0 h
      by_cases c_11_1 : x2 = (1 : Int32)
      · replace h := ite_t c_11_1 h
        refine lv_tableIn (tgt := 55) hx hb dX5_ofSwearer_11 (by rw [c_11_1]; decide) (by rw [c_11_1]; decide) (by rw [c_11_1] <;> rfl) (by decide) ?_
        refine lv_aload_n hx hb dX5_ofSwearer_55 rfl (lv_at hl 0 rfl) ?_
        refine gt_X5_29 S hK hP dX5_ofSwearer_56 ?_
        refine lv_iload_n hx hb dX5_ofSwearer_59 rfl (lv_at hl 1 rfl) ?_
        obtain ⟨hi_60, h⟩ := oin_of h
        refine k_iald S hK hP mr6 hi_60 dX5_ofSwearer_60 ?_
        exact k_iret S hr hlocks hP hS (Option.some.inj h) dX5_ofSwearer_61
      · replace h := ite_f c_11_1 h
        by_cases c_11_2 : x2 = (2 : Int32)
        · replace h := ite_t c_11_2 h
          refine lv_tableIn (tgt := 62) hx hb dX5_ofSwearer_11 (by rw [c_11_2]; decide) (by rw [c_11_2]; decide) (by rw [c_11_2] <;> rfl) (by decide) ?_
          refine lv_aload_n hx hb dX5_ofSwearer_62 rfl (lv_at hl 0 rfl) ?_
          refine lv_iload_n hx hb dX5_ofSwearer_63 rfl (lv_at hl 1 rfl) ?_
          obtain ⟨r_64, e_64, h⟩ := ob1_of h
          refine k_goI (k_runV (As := [.int x1]) (rest := []) S hK hP (k_X5_warmthOf l hAd e_64) cy_X5_warmthOf wd_784 rfl mO rfl hl.1 rfl (Nat.le_of_ble_eq_true rfl) dX5_ofSwearer_64 ⟨Nat.le_of_ble_eq_true rfl, Nat.le_of_ble_eq_true rfl⟩ ⟨Nat.zero_le _, Nat.zero_le _⟩) hS (fun _ h => h) (fun H locs hP hS _ _ => ?_)
          exact k_iret S hr hlocks hP hS (Option.some.inj h) dX5_ofSwearer_67
        · replace h := ite_f c_11_2 h
          by_cases c_11_3 : x2 = (3 : Int32)
          · replace h := ite_t c_11_3 h
            refine lv_tableIn (tgt := 68) hx hb dX5_ofSwearer_11 (by rw [c_11_3]; decide) (by rw [c_11_3]; decide) (by rw [c_11_3] <;> rfl) (by decide) ?_
            refine lv_aload_n hx hb dX5_ofSwearer_68 rfl (lv_at hl 0 rfl) ?_
            refine lv_iload_n hx hb dX5_ofSwearer_69 rfl (lv_at hl 1 rfl) ?_
            obtain ⟨r_70, e_70, h⟩ := ob1_of h
            refine k_goI (k_runV (As := [.int x1]) (rest := []) S hK hP (k_X5_coldHours l hAd e_70) cy_X5_coldHours wd_788 rfl mO rfl hl.1 rfl (Nat.le_of_ble_eq_true rfl) dX5_ofSwearer_70 ⟨Nat.le_of_ble_eq_true rfl, Nat.le_of_ble_eq_true rfl⟩ ⟨Nat.zero_le _, Nat.zero_le _⟩) hS (fun _ h => h) (fun H locs hP hS _ _ => ?_)
            exact k_iret S hr hlocks hP hS (Option.some.inj h) dX5_ofSwearer_73
          · replace h := ite_f c_11_3 h
            by_cases c_11_4 : x2 = (4 : Int32)
            · replace h := ite_t c_11_4 h
              refine lv_tableIn (tgt := 74) hx hb dX5_ofSwearer_11 (by rw [c_11_4]; decide) (by rw [c_11_4]; decide) (by rw [c_11_4] <;> rfl) (by decide) ?_
              refine lv_aload_n hx hb dX5_ofSwearer_74 rfl (lv_at hl 0 rfl) ?_
              refine lv_iload_n hx hb dX5_ofSwearer_75 rfl (lv_at hl 1 rfl) ?_
              obtain ⟨r_76, e_76, h⟩ := ob1_of h
              refine k_goI (k_runV (As := [.int x1]) (rest := []) S hK hP (k_X5_swornBy l hAd e_76) cy_X5_swornBy wd_800 rfl mO rfl hl.1 rfl (Nat.le_of_ble_eq_true rfl) dX5_ofSwearer_76 ⟨Nat.le_of_ble_eq_true rfl, Nat.le_of_ble_eq_true rfl⟩ ⟨Nat.zero_le _, Nat.zero_le _⟩) hS (fun _ h => h) (fun H locs hP hS _ _ => ?_)
              exact k_iret S hr hlocks hP hS (Option.some.inj h) dX5_ofSwearer_79
            · replace h := ite_f c_11_4 h
              by_cases c_11_5 : x2 = (5 : Int32)
              · replace h := ite_t c_11_5 h
                refine lv_tableIn (tgt := 80) hx hb dX5_ofSwearer_11 (by rw [c_11_5]; decide) (by rw [c_11_5]; decide) (by rw [c_11_5] <;> rfl) (by decide) ?_
                refine lv_aload_n hx hb dX5_ofSwearer_80 rfl (lv_at hl 0 rfl) ?_
                refine lv_iload_n hx hb dX5_ofSwearer_81 rfl (lv_at hl 1 rfl) ?_
                obtain ⟨r_82, e_82, h⟩ := ob1_of h
                refine k_goI (k_runV (As := [.int x1]) (rest := []) S hK hP (k_X5_swornBy l hAd e_82) cy_X5_swornBy wd_800 rfl mO rfl hl.1 rfl (Nat.le_of_ble_eq_true rfl) dX5_ofSwearer_82 ⟨Nat.le_of_ble_eq_true rfl, Nat.le_of_ble_eq_true rfl⟩ ⟨Nat.zero_le _, Nat.zero_le _⟩) hS (fun _ h => h) (fun H locs hP hS _ _ => ?_)
                refine lv_aload_n hx hb dX5_ofSwearer_85 rfl (lv_at hl 0 rfl) ?_
                obtain ⟨r_86, e_86, h⟩ := ob1_of h
                refine k_goI (k_runV (As := []) (rest := [.int r_82]) S hK hP (k_X5_whichBind l hAd e_86) cy_X5_whichBind wd_804 rfl mO rfl hl.1 rfl (Nat.le_of_ble_eq_true rfl) dX5_ofSwearer_86 ⟨Nat.le_of_ble_eq_true rfl, Nat.le_of_ble_eq_true rfl⟩ ⟨Nat.zero_le _, Nat.zero_le _⟩) hS (fun _ h => h) (fun H locs hP hS _ _ => ?_)
                refine lv_iand hx hb dX5_ofSwearer_89 ?_
                exact k_iret S hr hlocks hP hS (Option.some.inj h) dX5_ofSwearer_90
              · replace h := ite_f c_11_5 h
                have n_11_0 := lv_neT c_11_0 (a := 0) rfl
                have n_11_1 := lv_neT c_11_1 (a := 1) rfl
                have n_11_2 := lv_neT c_11_2 (a := 2) rfl
                have n_11_3 := lv_neT c_11_3 (a := 3) rfl
                have n_11_4 := lv_neT c_11_4 (a := 4) rfl
                have n_11_5 := lv_neT c_11_5 (a := 5) rfl
                refine lv_tableOut (tgt := 91) hx hb dX5_ofSwearer_11 (by omega) (by decide) ?_
                refine lv_bipush (v := (-2 : Int32)) hx hb dX5_ofSwearer_91 (by decide) ?_
                exact k_iret S hr hlocks hP hS (Option.some.inj h) dX5_ofSwearer_93
  · replace h := ite_t c_5 h
    refine lv_iconst (v := (-1 : Int32)) hx hb dX5_ofSwearer_8 (by decide) ?_
    exact k_iret S hr hlocks hP hS (Option.some.inj h) dX5_ofSwearer_9
def f_X5_ofOath (σ : SX) (x1 : Int32) (x2 : Int32) : Option Int32 := ob1 (f_X5_isOath σ x1) (fun r_2 => if r_2 = 0 then (some (-1 : Int32)) else (if x2 = (0 : Int32) then (oin x1 6 (some (gR σ 7 x1.toNatClampNeg))) else (if x2 = (1 : Int32) then (oin x1 6 (some (gR σ 8 x1.toNatClampNeg))) else (if x2 = (2 : Int32) then (oin x1 6 (some (gR σ 9 x1.toNatClampNeg))) else (if x2 = (3 : Int32) then (oin x1 6 (oin x1 6 (ob1 (f_X5_chillOf σ (gR σ 7 x1.toNatClampNeg) (gR σ 9 x1.toNatClampNeg)) (fun r_78 => some (r_78 + (100 : Int32)))))) else (if x2 = (4 : Int32) then (ob1 (f_X5_binds σ x1) (fun r_87 => if r_87 = 0 then (some (0 : Int32)) else (some (1 : Int32)))) else (some (-2 : Int32))))))))
set_option maxRecDepth 100000 in
set_option maxHeartbeats 4000000 in
theorem k_X5_ofOath (l : Launch) {D : va_G} {A : Nat → Prop} {cI cZ cS : ClassId} {am : Nat → Nat} (hAd : ∀ σ, va_D A (WM cI am σ)) {σ : SX} {x1 : Int32} {x2 : Int32} {r : Int32} (h : f_X5_ofOath σ x1 x2 = some r) : Ct (QI D A r (WM cI am σ)) l yX5_ofOath cX5_ofOath 3 (some .int) 4 86 D (tyS cI cZ cS) A [.ref (am 0), .int x1, .int x2] (WM cI am σ) := by
  refine Ct.of (by decide +kernel) (Nat.le_of_ble_eq_true rfl) ?_
  intro p e s m below meth c ls S hK hr hlocks hP hS hl
  have hx := S.1
  have hb := S.2.1
  have hl : lv_has ls 3 [(0, .ref (am 0)), (1, .int x1), (2, .int x2)] := hl
  rw [f_X5_ofOath] at h
  refine lv_aload_n hx hb dX5_ofOath_0 rfl (lv_at hl 0 rfl) ?_
  refine lv_iload_n hx hb dX5_ofOath_1 rfl (lv_at hl 1 rfl) ?_
  obtain ⟨r_2, e_2, h⟩ := ob1_of h
  refine k_goI (k_runV (As := [.int x1]) (rest := []) S hK hP (k_X5_isOath l hAd e_2) cy_X5_isOath wd_816 rfl mO rfl hl.1 rfl (Nat.le_of_ble_eq_true rfl) dX5_ofOath_2 ⟨Nat.le_of_ble_eq_true rfl, Nat.le_of_ble_eq_true rfl⟩ ⟨Nat.zero_le _, Nat.zero_le _⟩) hS (fun _ h => h) (fun H locs hP hS _ _ => ?_)
  refine lv_if_ne (tgt := 10) hx hb dX5_ofOath_5 (by decide) (fun c_5 => ?_) (fun c_5 => ?_)
  · replace h := ite_f c_5 h
    refine lv_iload_n hx hb dX5_ofOath_10 rfl (lv_at hl 2 rfl) ?_
    by_cases c_11_0 : x2 = (0 : Int32)
    · replace h := ite_t c_11_0 h
      refine lv_tableIn (tgt := 44) hx hb dX5_ofOath_11 (by rw [c_11_0]; decide) (by rw [c_11_0]; decide) (by rw [c_11_0] <;> rfl) (by decide) ?_
      refine lv_aload_n hx hb dX5_ofOath_44 rfl (lv_at hl 0 rfl) ?_
      refine gt_X5_32 S hK hP dX5_ofOath_45 ?_
      refine lv_iload_n hx hb dX5_ofOath_48 rfl (lv_at hl 1 rfl) ?_
      obtain ⟨hi_49, h⟩ := oin_of h
      refine k_iald S hK hP mr7 hi_49 dX5_ofOath_49 ?_
      exact k_iret S hr hlocks hP hS (Option.some.inj h) dX5_ofOath_50
    · replace h := ite_f c_11_0 h
      by_cases c_11_1 : x2 = (1 : Int32)
      · replace h := ite_t c_11_1 h
        refine lv_tableIn (tgt := 51) hx hb dX5_ofOath_11 (by rw [c_11_1]; decide) (by rw [c_11_1]; decide) (by rw [c_11_1] <;> rfl) (by decide) ?_
        refine lv_aload_n hx hb dX5_ofOath_51 rfl (lv_at hl 0 rfl) ?_
        refine gt_X5_35 S hK hP dX5_ofOath_52 ?_
        refine lv_iload_n hx hb dX5_ofOath_55 rfl (lv_at hl 1 rfl) ?_
        obtain ⟨hi_56, h⟩ := oin_of h
        refine k_iald S hK hP mr8 hi_56 dX5_ofOath_56 ?_
        exact k_iret S hr hlocks hP hS (Option.some.inj h) dX5_ofOath_57
      · replace h := ite_f c_11_1 h
        by_cases c_11_2 : x2 = (2 : Int32)
        · replace h := ite_t c_11_2 h
          refine lv_tableIn (tgt := 58) hx hb dX5_ofOath_11 (by rw [c_11_2]; decide) (by rw [c_11_2]; decide) (by rw [c_11_2] <;> rfl) (by decide) ?_
          refine lv_aload_n hx hb dX5_ofOath_58 rfl (lv_at hl 0 rfl) ?_
          refine gt_X5_38 S hK hP dX5_ofOath_59 ?_
          refine lv_iload_n hx hb dX5_ofOath_62 rfl (lv_at hl 1 rfl) ?_
          obtain ⟨hi_63, h⟩ := oin_of h
          refine k_iald S hK hP mr9 hi_63 dX5_ofOath_63 ?_
          exact k_iret S hr hlocks hP hS (Option.some.inj h) dX5_ofOath_64
        · replace h := ite_f c_11_2 h
          by_cases c_11_3 : x2 = (3 : Int32)
          · replace h := ite_t c_11_3 h
            refine lv_tableIn (tgt := 65) hx hb dX5_ofOath_11 (by rw [c_11_3]; decide) (by rw [c_11_3]; decide) (by rw [c_11_3] <;> rfl) (by decide) ?_
            refine lv_aload_n hx hb dX5_ofOath_65 rfl (lv_at hl 0 rfl) ?_
            refine lv_aload_n hx hb dX5_ofOath_66 rfl (lv_at hl 0 rfl) ?_
            refine gt_X5_32 S hK hP dX5_ofOath_67 ?_
            refine lv_iload_n hx hb dX5_ofOath_70 rfl (lv_at hl 1 rfl) ?_
            obtain ⟨hi_71, h⟩ := oin_of h
            refine k_iald S hK hP mr7 hi_71 dX5_ofOath_71 ?_
            refine lv_aload_n hx hb dX5_ofOath_72 rfl (lv_at hl 0 rfl) ?_
            refine gt_X5_38 S hK hP dX5_ofOath_73 ?_
            refine lv_iload_n hx hb dX5_ofOath_76 rfl (lv_at hl 1 rfl) ?_
            obtain ⟨hi_77, h⟩ := oin_of h
            refine k_iald S hK hP mr9 hi_77 dX5_ofOath_77 ?_
            obtain ⟨r_78, e_78, h⟩ := ob1_of h
            refine k_goI (k_runV (As := [.int (gR σ 7 x1.toNatClampNeg), .int (gR σ 9 x1.toNatClampNeg)]) (rest := []) S hK hP (k_X5_chillOf l hAd e_78) cy_X5_chillOf wd_796 rfl mO rfl hl.1 rfl (Nat.le_of_ble_eq_true rfl) dX5_ofOath_78 ⟨Nat.le_of_ble_eq_true rfl, Nat.le_of_ble_eq_true rfl⟩ ⟨Nat.zero_le _, Nat.zero_le _⟩) hS (fun _ h => h) (fun H locs hP hS _ _ => ?_)
            refine lv_bipush (v := (100 : Int32)) hx hb dX5_ofOath_81 (by decide) ?_
            refine lv_iadd hx hb dX5_ofOath_83 ?_
            exact k_iret S hr hlocks hP hS (Option.some.inj h) dX5_ofOath_84
          · replace h := ite_f c_11_3 h
            by_cases c_11_4 : x2 = (4 : Int32)
            · replace h := ite_t c_11_4 h
              refine lv_tableIn (tgt := 85) hx hb dX5_ofOath_11 (by rw [c_11_4]; decide) (by rw [c_11_4]; decide) (by rw [c_11_4] <;> rfl) (by decide) ?_
              refine lv_aload_n hx hb dX5_ofOath_85 rfl (lv_at hl 0 rfl) ?_
              refine lv_iload_n hx hb dX5_ofOath_86 rfl (lv_at hl 1 rfl) ?_
              obtain ⟨r_87, e_87, h⟩ := ob1_of h
              refine k_goI (k_runV (As := [.int x1]) (rest := []) S hK hP (k_X5_binds l hAd e_87) cy_X5_binds wd_808 rfl mO rfl hl.1 rfl (Nat.le_of_ble_eq_true rfl) dX5_ofOath_87 ⟨Nat.le_of_ble_eq_true rfl, Nat.le_of_ble_eq_true rfl⟩ ⟨Nat.zero_le _, Nat.zero_le _⟩) hS (fun _ h => h) (fun H locs hP hS _ _ => ?_)
              refine lv_if_eq (tgt := 97) hx hb dX5_ofOath_90 (by decide) (fun c_90 => ?_) (fun c_90 => ?_)
              · replace h := ite_t c_90 h
                refine lv_iconst (v := (0 : Int32)) hx hb dX5_ofOath_97 (by decide) ?_
                exact k_iret S hr hlocks hP hS (Option.some.inj h) dX5_ofOath_98
              · replace h := ite_f c_90 h
                refine lv_iconst (v := (1 : Int32)) hx hb dX5_ofOath_93 (by decide) ?_
                refine lv_goto (tgt := 98) hx hb dX5_ofOath_94 (by decide) ?_
                exact k_iret S hr hlocks hP hS (Option.some.inj h) dX5_ofOath_98
            · replace h := ite_f c_11_4 h
              have n_11_0 := lv_neT c_11_0 (a := 0) rfl
              have n_11_1 := lv_neT c_11_1 (a := 1) rfl
              have n_11_2 := lv_neT c_11_2 (a := 2) rfl
              have n_11_3 := lv_neT c_11_3 (a := 3) rfl
              have n_11_4 := lv_neT c_11_4 (a := 4) rfl
              refine lv_tableOut (tgt := 99) hx hb dX5_ofOath_11 (by omega) (by decide) ?_
              refine lv_bipush (v := (-2 : Int32)) hx hb dX5_ofOath_99 (by decide) ?_
              exact k_iret S hr hlocks hP hS (Option.some.inj h) dX5_ofOath_101
  · replace h := ite_t c_5 h
    refine lv_iconst (v := (-1 : Int32)) hx hb dX5_ofOath_8 (by decide) ?_
    exact k_iret S hr hlocks hP hS (Option.some.inj h) dX5_ofOath_9
def f_X5_ofHour (σ : SX) (x1 : Int32) (x2 : Int32) : Option Int32 := ob1 (f_X5_isHour σ x1) (fun r_2 => if r_2 = 0 then (some (-1 : Int32)) else (if x2 = 0 then (oin x1 6 (some (gR σ 4 x1.toNatClampNeg))) else (if x2 = (1 : Int32) then (if x1 = (gF σ 0 8) then (some (gF σ 0 9)) else (some (-9 : Int32))) else (if x2 = (2 : Int32) then (ob1 (f_X5_whoCold σ x1) (fun r_55 => some r_55)) else (some (-2 : Int32))))))
set_option maxRecDepth 100000 in
set_option maxHeartbeats 4000000 in
theorem k_X5_ofHour (l : Launch) {D : va_G} {A : Nat → Prop} {cI cZ cS : ClassId} {am : Nat → Nat} (hAd : ∀ σ, va_D A (WM cI am σ)) {σ : SX} {x1 : Int32} {x2 : Int32} {r : Int32} (h : f_X5_ofHour σ x1 x2 = some r) : Ct (QI D A r (WM cI am σ)) l yX5_ofHour cX5_ofHour 3 (some .int) 4 88 D (tyS cI cZ cS) A [.ref (am 0), .int x1, .int x2] (WM cI am σ) := by
  refine Ct.of (by decide +kernel) (Nat.le_of_ble_eq_true rfl) ?_
  intro p e s m below meth c ls S hK hr hlocks hP hS hl
  have hx := S.1
  have hb := S.2.1
  have hl : lv_has ls 3 [(0, .ref (am 0)), (1, .int x1), (2, .int x2)] := hl
  rw [f_X5_ofHour] at h
  refine lv_aload_n hx hb dX5_ofHour_0 rfl (lv_at hl 0 rfl) ?_
  refine lv_iload_n hx hb dX5_ofHour_1 rfl (lv_at hl 1 rfl) ?_
  obtain ⟨r_2, e_2, h⟩ := ob1_of h
  refine k_goI (k_runV (As := [.int x1]) (rest := []) S hK hP (k_X5_isHour l hAd e_2) cy_X5_isHour wd_824 rfl mO rfl hl.1 rfl (Nat.le_of_ble_eq_true rfl) dX5_ofHour_2 ⟨Nat.le_of_ble_eq_true rfl, Nat.le_of_ble_eq_true rfl⟩ ⟨Nat.zero_le _, Nat.zero_le _⟩) hS (fun _ h => h) (fun H locs hP hS _ _ => ?_)
  refine lv_if_ne (tgt := 10) hx hb dX5_ofHour_5 (by decide) (fun c_5 => ?_) (fun c_5 => ?_)
  · replace h := ite_f c_5 h
    refine lv_iload_n hx hb dX5_ofHour_10 rfl (lv_at hl 2 rfl) ?_
    refine lv_if_ne (tgt := 23) hx hb dX5_ofHour_11 (by decide) (fun c_11 => ?_) (fun c_11 => ?_)
    · replace h := ite_f c_11 h
      refine lv_iload_n hx hb dX5_ofHour_23 rfl (lv_at hl 2 rfl) ?_
      refine lv_iconst (v := (1 : Int32)) hx hb dX5_ofHour_24 (by decide) ?_
      refine lv_icmp_ne (tgt := 48) hx hb dX5_ofHour_25 (by decide) (fun c_25 => ?_) (fun c_25 => ?_)
      · replace h := ite_f c_25 h
        refine lv_iload_n hx hb dX5_ofHour_48 rfl (lv_at hl 2 rfl) ?_
        refine lv_iconst (v := (2 : Int32)) hx hb dX5_ofHour_49 (by decide) ?_
        refine lv_icmp_ne (tgt := 61) hx hb dX5_ofHour_50 (by decide) (fun c_50 => ?_) (fun c_50 => ?_)
        · replace h := ite_f c_50 h
          refine lv_bipush (v := (-2 : Int32)) hx hb dX5_ofHour_61 (by decide) ?_
          exact k_iret S hr hlocks hP hS (Option.some.inj h) dX5_ofHour_63
        · replace h := ite_t c_50 h
          refine lv_aload_n hx hb dX5_ofHour_53 rfl (lv_at hl 0 rfl) ?_
          refine lv_iload_n hx hb dX5_ofHour_54 rfl (lv_at hl 1 rfl) ?_
          obtain ⟨r_55, e_55, h⟩ := ob1_of h
          refine k_goI (k_runV (As := [.int x1]) (rest := []) S hK hP (k_X5_whoCold l hAd e_55) cy_X5_whoCold wd_828 rfl mO rfl hl.1 rfl (Nat.le_of_ble_eq_true rfl) dX5_ofHour_55 ⟨Nat.le_of_ble_eq_true rfl, Nat.le_of_ble_eq_true rfl⟩ ⟨Nat.zero_le _, Nat.zero_le _⟩) hS (fun _ h => h) (fun H locs hP hS _ _ => ?_)
          refine lv_goto (tgt := 63) hx hb dX5_ofHour_58 (by decide) ?_
          exact k_iret S hr hlocks hP hS (Option.some.inj h) dX5_ofHour_63
      · replace h := ite_t c_25 h
        refine lv_iload_n hx hb dX5_ofHour_28 rfl (lv_at hl 1 rfl) ?_
        refine lv_aload_n hx hb dX5_ofHour_29 rfl (lv_at hl 0 rfl) ?_
        refine gt_X5_19 S hK hP dX5_ofHour_30 ?_
        refine lv_icmp_ne (tgt := 43) hx hb dX5_ofHour_33 (by decide) (fun c_33 => ?_) (fun c_33 => ?_)
        · replace h := ite_f c_33 h
          refine lv_bipush (v := (-9 : Int32)) hx hb dX5_ofHour_43 (by decide) ?_
          refine lv_goto (tgt := 63) hx hb dX5_ofHour_45 (by decide) ?_
          exact k_iret S hr hlocks hP hS (Option.some.inj h) dX5_ofHour_63
        · replace h := ite_t c_33 h
          refine lv_aload_n hx hb dX5_ofHour_36 rfl (lv_at hl 0 rfl) ?_
          refine gt_X5_113 S hK hP dX5_ofHour_37 ?_
          refine lv_goto (tgt := 63) hx hb dX5_ofHour_40 (by decide) ?_
          exact k_iret S hr hlocks hP hS (Option.some.inj h) dX5_ofHour_63
    · replace h := ite_t c_11 h
      refine lv_aload_n hx hb dX5_ofHour_14 rfl (lv_at hl 0 rfl) ?_
      refine gt_X5_23 S hK hP dX5_ofHour_15 ?_
      refine lv_iload_n hx hb dX5_ofHour_18 rfl (lv_at hl 1 rfl) ?_
      obtain ⟨hi_19, h⟩ := oin_of h
      refine k_iald S hK hP mr4 hi_19 dX5_ofHour_19 ?_
      refine lv_goto (tgt := 63) hx hb dX5_ofHour_20 (by decide) ?_
      exact k_iret S hr hlocks hP hS (Option.some.inj h) dX5_ofHour_63
  · replace h := ite_t c_5 h
    refine lv_iconst (v := (-1 : Int32)) hx hb dX5_ofHour_8 (by decide) ?_
    exact k_iret S hr hlocks hP hS (Option.some.inj h) dX5_ofHour_9
def f_X5_chill (σ : SX) (x1 : Int32) (x2 : Int32) : Option Int32 := ob1 (f_X5_isSwearer σ x1) (fun r_2 => if r_2 = 0 then (some (-1 : Int32)) else (ob1 (f_X5_isHour σ x2) (fun r_10 => if r_10 = 0 then (some (-1 : Int32)) else (ob1 (f_X5_chillOf σ x1 x2) (fun r_19 => some (r_19 + (100 : Int32)))))))
set_option maxRecDepth 100000 in
set_option maxHeartbeats 4000000 in
theorem k_X5_chill (l : Launch) {D : va_G} {A : Nat → Prop} {cI cZ cS : ClassId} {am : Nat → Nat} (hAd : ∀ σ, va_D A (WM cI am σ)) {σ : SX} {x1 : Int32} {x2 : Int32} {r : Int32} (h : f_X5_chill σ x1 x2 = some r) : Ct (QI D A r (WM cI am σ)) l yX5_chill cX5_chill 3 (some .int) 2 43 D (tyS cI cZ cS) A [.ref (am 0), .int x1, .int x2] (WM cI am σ) := by
  refine Ct.of (by decide +kernel) (Nat.le_of_ble_eq_true rfl) ?_
  intro p e s m below meth c ls S hK hr hlocks hP hS hl
  have hx := S.1
  have hb := S.2.1
  have hl : lv_has ls 3 [(0, .ref (am 0)), (1, .int x1), (2, .int x2)] := hl
  rw [f_X5_chill] at h
  refine lv_aload_n hx hb dX5_chill_0 rfl (lv_at hl 0 rfl) ?_
  refine lv_iload_n hx hb dX5_chill_1 rfl (lv_at hl 1 rfl) ?_
  obtain ⟨r_2, e_2, h⟩ := ob1_of h
  refine k_goI (k_runV (As := [.int x1]) (rest := []) S hK hP (k_X5_isSwearer l hAd e_2) cy_X5_isSwearer wd_780 rfl mO rfl hl.1 rfl (Nat.le_of_ble_eq_true rfl) dX5_chill_2 ⟨Nat.le_of_ble_eq_true rfl, Nat.le_of_ble_eq_true rfl⟩ ⟨Nat.zero_le _, Nat.zero_le _⟩) hS (fun _ h => h) (fun H locs hP hS _ _ => ?_)
  refine lv_if_eq (tgt := 28) hx hb dX5_chill_5 (by decide) (fun c_5 => ?_) (fun c_5 => ?_)
  · replace h := ite_t c_5 h
    refine lv_iconst (v := (-1 : Int32)) hx hb dX5_chill_28 (by decide) ?_
    exact k_iret S hr hlocks hP hS (Option.some.inj h) dX5_chill_29
  · replace h := ite_f c_5 h
    refine lv_aload_n hx hb dX5_chill_8 rfl (lv_at hl 0 rfl) ?_
    refine lv_iload_n hx hb dX5_chill_9 rfl (lv_at hl 2 rfl) ?_
    obtain ⟨r_10, e_10, h⟩ := ob1_of h
    refine k_goI (k_runV (As := [.int x2]) (rest := []) S hK hP (k_X5_isHour l hAd e_10) cy_X5_isHour wd_824 rfl mO rfl hl.1 rfl (Nat.le_of_ble_eq_true rfl) dX5_chill_10 ⟨Nat.le_of_ble_eq_true rfl, Nat.le_of_ble_eq_true rfl⟩ ⟨Nat.zero_le _, Nat.zero_le _⟩) hS (fun _ h => h) (fun H locs hP hS _ _ => ?_)
    refine lv_if_eq (tgt := 28) hx hb dX5_chill_13 (by decide) (fun c_13 => ?_) (fun c_13 => ?_)
    · replace h := ite_t c_13 h
      refine lv_iconst (v := (-1 : Int32)) hx hb dX5_chill_28 (by decide) ?_
      exact k_iret S hr hlocks hP hS (Option.some.inj h) dX5_chill_29
    · replace h := ite_f c_13 h
      refine lv_aload_n hx hb dX5_chill_16 rfl (lv_at hl 0 rfl) ?_
      refine lv_iload_n hx hb dX5_chill_17 rfl (lv_at hl 1 rfl) ?_
      refine lv_iload_n hx hb dX5_chill_18 rfl (lv_at hl 2 rfl) ?_
      obtain ⟨r_19, e_19, h⟩ := ob1_of h
      refine k_goI (k_runV (As := [.int x1, .int x2]) (rest := []) S hK hP (k_X5_chillOf l hAd e_19) cy_X5_chillOf wd_796 rfl mO rfl hl.1 rfl (Nat.le_of_ble_eq_true rfl) dX5_chill_19 ⟨Nat.le_of_ble_eq_true rfl, Nat.le_of_ble_eq_true rfl⟩ ⟨Nat.zero_le _, Nat.zero_le _⟩) hS (fun _ h => h) (fun H locs hP hS _ _ => ?_)
      refine lv_bipush (v := (100 : Int32)) hx hb dX5_chill_22 (by decide) ?_
      refine lv_iadd hx hb dX5_chill_24 ?_
      refine lv_goto (tgt := 29) hx hb dX5_chill_25 (by decide) ?_
      exact k_iret S hr hlocks hP hS (Option.some.inj h) dX5_chill_29
def f_X5_coat (σ : SX) (x1 : Int32) (x2 : Int32) : Option (Int32 × SX) := ob1 (f_X5_isSwearer σ x1) (fun r_2 => if r_2 = 0 then (some ((-1 : Int32), σ)) else (ob1 (f_X5_within x2 (0 : Int32) (9 : Int32)) (fun r_14 => if r_14 = 0 then (some ((-2 : Int32), σ)) else (oin x1 4 (oin x1 4 (some (gR σ 6 x1.toNatClampNeg, sR σ 6 (upd (gR σ 6) x1.toNatClampNeg x2))))))))
set_option maxRecDepth 100000 in
set_option maxHeartbeats 4000000 in
theorem k_X5_coat (l : Launch) {D : va_G} {A : Nat → Prop} {cI cZ cS : ClassId} {am : Nat → Nat} (hAd : ∀ σ, va_D A (WM cI am σ)) {σ : SX} {x1 : Int32} {x2 : Int32} {σ' : SX} {r : Int32} (h : f_X5_coat σ x1 x2 = some (r, σ')) : Ct (QI D A r (WM cI am (σ'))) l yX5_coat cX5_coat 4 (some .int) 1 22 D (tyS cI cZ cS) A [.ref (am 0), .int x1, .int x2] (WM cI am σ) := by
  refine Ct.of (by decide +kernel) (Nat.le_of_ble_eq_true rfl) ?_
  intro p e s m below meth c ls S hK hr hlocks hP hS hl
  have hx := S.1
  have hb := S.2.1
  have hl : lv_has ls 4 [(0, .ref (am 0)), (1, .int x1), (2, .int x2)] := hl
  rw [f_X5_coat] at h
  refine lv_aload_n hx hb dX5_coat_0 rfl (lv_at hl 0 rfl) ?_
  refine lv_iload_n hx hb dX5_coat_1 rfl (lv_at hl 1 rfl) ?_
  obtain ⟨r_2, e_2, h⟩ := ob1_of h
  refine k_goI (k_runV (As := [.int x1]) (rest := []) S hK hP (k_X5_isSwearer l hAd e_2) cy_X5_isSwearer wd_780 rfl mO rfl hl.1 rfl (Nat.le_of_ble_eq_true rfl) dX5_coat_2 ⟨Nat.le_of_ble_eq_true rfl, Nat.le_of_ble_eq_true rfl⟩ ⟨Nat.zero_le _, Nat.zero_le _⟩) hS (fun _ h => h) (fun H locs hP hS _ _ => ?_)
  refine lv_if_ne (tgt := 10) hx hb dX5_coat_5 (by decide) (fun c_5 => ?_) (fun c_5 => ?_)
  · replace h := ite_f c_5 h
    refine lv_iload_n hx hb dX5_coat_10 rfl (lv_at hl 2 rfl) ?_
    refine lv_iconst (v := (0 : Int32)) hx hb dX5_coat_11 (by decide) ?_
    refine lv_bipush (v := (9 : Int32)) hx hb dX5_coat_12 (by decide) ?_
    obtain ⟨r_14, e_14, h⟩ := ob1_of h
    refine k_goI (k_runS (As := [.int x2, .int (0 : Int32), .int (9 : Int32)]) (rest := []) S hK hP (k_X5_within l  e_14) cy_X5_within wd_738 rfl hl.1 rfl (Nat.le_of_ble_eq_true rfl) dX5_coat_14 ⟨Nat.le_of_ble_eq_true rfl, Nat.le_of_ble_eq_true rfl⟩ ⟨Nat.zero_le _, Nat.zero_le _⟩) hS (fun _ h => h) (fun H locs hP hS _ _ => ?_)
    refine lv_if_ne (tgt := 23) hx hb dX5_coat_17 (by decide) (fun c_17 => ?_) (fun c_17 => ?_)
    · replace h := ite_f c_17 h
      refine lv_aload_n hx hb dX5_coat_23 rfl (lv_at hl 0 rfl) ?_
      refine gt_X5_29 S hK hP dX5_coat_24 ?_
      refine lv_iload_n hx hb dX5_coat_27 rfl (lv_at hl 1 rfl) ?_
      obtain ⟨hi_28, h⟩ := oin_of h
      refine k_iald S hK hP mr6 hi_28 dX5_coat_28 ?_
      refine lv_istore_n (lv' := [(3, .int (gR σ 6 x1.toNatClampNeg)), (0, .ref (am 0)), (1, .int x1), (2, .int x2)]) hx hb dX5_coat_29 rfl hl (by decide) rfl (fun ls hl => ?_)
      refine lv_aload_n hx hb dX5_coat_30 rfl (lv_at hl 1 rfl) ?_
      refine gt_X5_29 S hK hP dX5_coat_31 ?_
      refine lv_iload_n hx hb dX5_coat_34 rfl (lv_at hl 2 rfl) ?_
      refine lv_iload_n hx hb dX5_coat_35 rfl (lv_at hl 3 rfl) ?_
      obtain ⟨hi_36, h⟩ := oin_of h
      refine k_iast S hK hP (hAd _) hS mr6 mr6_s hi_36 dX5_coat_36 (fun H locs hP hS => ?_)
      refine lv_iload_n hx hb dX5_coat_37 rfl (lv_at hl 0 rfl) ?_
      obtain ⟨rfl, rfl⟩ := some_pair h
      exact k_iret S hr hlocks hP hS rfl dX5_coat_38
    · replace h := ite_t c_17 h
      refine lv_bipush (v := (-2 : Int32)) hx hb dX5_coat_20 (by decide) ?_
      obtain ⟨rfl, rfl⟩ := some_pair h
      exact k_iret S hr hlocks hP hS rfl dX5_coat_22
  · replace h := ite_t c_5 h
    refine lv_iconst (v := (-1 : Int32)) hx hb dX5_coat_8 (by decide) ?_
    obtain ⟨rfl, rfl⟩ := some_pair h
    exact k_iret S hr hlocks hP hS rfl dX5_coat_9
def f_X5_frost (σ : SX) (x1 : Int32) (x2 : Int32) : Option (Int32 × SX) := ob1 (f_X5_isHour σ x1) (fun r_2 => if r_2 = 0 then (some ((-1 : Int32), σ)) else (ob1 (f_X5_within x2 (0 : Int32) (9 : Int32)) (fun r_14 => if r_14 = 0 then (some ((-2 : Int32), σ)) else (oin x1 6 (oin x1 6 (some (gR σ 4 x1.toNatClampNeg, sR σ 4 (upd (gR σ 4) x1.toNatClampNeg x2))))))))
set_option maxRecDepth 100000 in
set_option maxHeartbeats 4000000 in
theorem k_X5_frost (l : Launch) {D : va_G} {A : Nat → Prop} {cI cZ cS : ClassId} {am : Nat → Nat} (hAd : ∀ σ, va_D A (WM cI am σ)) {σ : SX} {x1 : Int32} {x2 : Int32} {σ' : SX} {r : Int32} (h : f_X5_frost σ x1 x2 = some (r, σ')) : Ct (QI D A r (WM cI am (σ'))) l yX5_frost cX5_frost 4 (some .int) 1 22 D (tyS cI cZ cS) A [.ref (am 0), .int x1, .int x2] (WM cI am σ) := by
  refine Ct.of (by decide +kernel) (Nat.le_of_ble_eq_true rfl) ?_
  intro p e s m below meth c ls S hK hr hlocks hP hS hl
  have hx := S.1
  have hb := S.2.1
  have hl : lv_has ls 4 [(0, .ref (am 0)), (1, .int x1), (2, .int x2)] := hl
  rw [f_X5_frost] at h
  refine lv_aload_n hx hb dX5_frost_0 rfl (lv_at hl 0 rfl) ?_
  refine lv_iload_n hx hb dX5_frost_1 rfl (lv_at hl 1 rfl) ?_
  obtain ⟨r_2, e_2, h⟩ := ob1_of h
  refine k_goI (k_runV (As := [.int x1]) (rest := []) S hK hP (k_X5_isHour l hAd e_2) cy_X5_isHour wd_824 rfl mO rfl hl.1 rfl (Nat.le_of_ble_eq_true rfl) dX5_frost_2 ⟨Nat.le_of_ble_eq_true rfl, Nat.le_of_ble_eq_true rfl⟩ ⟨Nat.zero_le _, Nat.zero_le _⟩) hS (fun _ h => h) (fun H locs hP hS _ _ => ?_)
  refine lv_if_ne (tgt := 10) hx hb dX5_frost_5 (by decide) (fun c_5 => ?_) (fun c_5 => ?_)
  · replace h := ite_f c_5 h
    refine lv_iload_n hx hb dX5_frost_10 rfl (lv_at hl 2 rfl) ?_
    refine lv_iconst (v := (0 : Int32)) hx hb dX5_frost_11 (by decide) ?_
    refine lv_bipush (v := (9 : Int32)) hx hb dX5_frost_12 (by decide) ?_
    obtain ⟨r_14, e_14, h⟩ := ob1_of h
    refine k_goI (k_runS (As := [.int x2, .int (0 : Int32), .int (9 : Int32)]) (rest := []) S hK hP (k_X5_within l  e_14) cy_X5_within wd_738 rfl hl.1 rfl (Nat.le_of_ble_eq_true rfl) dX5_frost_14 ⟨Nat.le_of_ble_eq_true rfl, Nat.le_of_ble_eq_true rfl⟩ ⟨Nat.zero_le _, Nat.zero_le _⟩) hS (fun _ h => h) (fun H locs hP hS _ _ => ?_)
    refine lv_if_ne (tgt := 23) hx hb dX5_frost_17 (by decide) (fun c_17 => ?_) (fun c_17 => ?_)
    · replace h := ite_f c_17 h
      refine lv_aload_n hx hb dX5_frost_23 rfl (lv_at hl 0 rfl) ?_
      refine gt_X5_23 S hK hP dX5_frost_24 ?_
      refine lv_iload_n hx hb dX5_frost_27 rfl (lv_at hl 1 rfl) ?_
      obtain ⟨hi_28, h⟩ := oin_of h
      refine k_iald S hK hP mr4 hi_28 dX5_frost_28 ?_
      refine lv_istore_n (lv' := [(3, .int (gR σ 4 x1.toNatClampNeg)), (0, .ref (am 0)), (1, .int x1), (2, .int x2)]) hx hb dX5_frost_29 rfl hl (by decide) rfl (fun ls hl => ?_)
      refine lv_aload_n hx hb dX5_frost_30 rfl (lv_at hl 1 rfl) ?_
      refine gt_X5_23 S hK hP dX5_frost_31 ?_
      refine lv_iload_n hx hb dX5_frost_34 rfl (lv_at hl 2 rfl) ?_
      refine lv_iload_n hx hb dX5_frost_35 rfl (lv_at hl 3 rfl) ?_
      obtain ⟨hi_36, h⟩ := oin_of h
      refine k_iast S hK hP (hAd _) hS mr4 mr4_s hi_36 dX5_frost_36 (fun H locs hP hS => ?_)
      refine lv_iload_n hx hb dX5_frost_37 rfl (lv_at hl 0 rfl) ?_
      obtain ⟨rfl, rfl⟩ := some_pair h
      exact k_iret S hr hlocks hP hS rfl dX5_frost_38
    · replace h := ite_t c_17 h
      refine lv_bipush (v := (-2 : Int32)) hx hb dX5_frost_20 (by decide) ?_
      obtain ⟨rfl, rfl⟩ := some_pair h
      exact k_iret S hr hlocks hP hS rfl dX5_frost_22
  · replace h := ite_t c_5 h
    refine lv_iconst (v := (-1 : Int32)) hx hb dX5_frost_8 (by decide) ?_
    obtain ⟨rfl, rfl⟩ := some_pair h
    exact k_iret S hr hlocks hP hS rfl dX5_frost_9
def f_X5_swear (σ : SX) (x1 : Int32) (x2 : Int32) (x3 : Int32) : Option (Int32 × SX) := ob1 (f_X5_isSwearer σ x1) (fun r_2 => if r_2 = 0 then (some ((-1 : Int32), σ)) else (ob1 (f_X5_isSwearer σ x2) (fun r_10 => if r_10 = 0 then (some ((-1 : Int32), σ)) else (if x1 = x2 then (some ((-1 : Int32), σ)) else (ob1 (f_X5_isHour σ x3) (fun r_23 => if r_23 = 0 then (some ((-1 : Int32), σ)) else (if (gF σ 0 7) = (6 : Int32) then (some ((-4 : Int32), σ)) else (oin (gF σ 0 7) 6 (oin (gF (sR σ 7 (upd (gR σ 7) (gF σ 0 7).toNatClampNeg x1)) 0 7) 6 (oin (gF (sR (sR σ 7 (upd (gR σ 7) (gF σ 0 7).toNatClampNeg x1)) 8 (upd (gR (sR σ 7 (upd (gR σ 7) (gF σ 0 7).toNatClampNeg x1)) 8) (gF (sR σ 7 (upd (gR σ 7) (gF σ 0 7).toNatClampNeg x1)) 0 7).toNatClampNeg x2)) 0 7) 6 (some ((gF (sF (sR (sR (sR σ 7 (upd (gR σ 7) (gF σ 0 7).toNatClampNeg x1)) 8 (upd (gR (sR σ 7 (upd (gR σ 7) (gF σ 0 7).toNatClampNeg x1)) 8) (gF (sR σ 7 (upd (gR σ 7) (gF σ 0 7).toNatClampNeg x1)) 0 7).toNatClampNeg x2)) 9 (upd (gR (sR (sR σ 7 (upd (gR σ 7) (gF σ 0 7).toNatClampNeg x1)) 8 (upd (gR (sR σ 7 (upd (gR σ 7) (gF σ 0 7).toNatClampNeg x1)) 8) (gF (sR σ 7 (upd (gR σ 7) (gF σ 0 7).toNatClampNeg x1)) 0 7).toNatClampNeg x2)) 9) (gF (sR (sR σ 7 (upd (gR σ 7) (gF σ 0 7).toNatClampNeg x1)) 8 (upd (gR (sR σ 7 (upd (gR σ 7) (gF σ 0 7).toNatClampNeg x1)) 8) (gF (sR σ 7 (upd (gR σ 7) (gF σ 0 7).toNatClampNeg x1)) 0 7).toNatClampNeg x2)) 0 7).toNatClampNeg x3)) 0 7 ((gF (sR (sR (sR σ 7 (upd (gR σ 7) (gF σ 0 7).toNatClampNeg x1)) 8 (upd (gR (sR σ 7 (upd (gR σ 7) (gF σ 0 7).toNatClampNeg x1)) 8) (gF (sR σ 7 (upd (gR σ 7) (gF σ 0 7).toNatClampNeg x1)) 0 7).toNatClampNeg x2)) 9 (upd (gR (sR (sR σ 7 (upd (gR σ 7) (gF σ 0 7).toNatClampNeg x1)) 8 (upd (gR (sR σ 7 (upd (gR σ 7) (gF σ 0 7).toNatClampNeg x1)) 8) (gF (sR σ 7 (upd (gR σ 7) (gF σ 0 7).toNatClampNeg x1)) 0 7).toNatClampNeg x2)) 9) (gF (sR (sR σ 7 (upd (gR σ 7) (gF σ 0 7).toNatClampNeg x1)) 8 (upd (gR (sR σ 7 (upd (gR σ 7) (gF σ 0 7).toNatClampNeg x1)) 8) (gF (sR σ 7 (upd (gR σ 7) (gF σ 0 7).toNatClampNeg x1)) 0 7).toNatClampNeg x2)) 0 7).toNatClampNeg x3)) 0 7) + (1 : Int32))) 0 7) - (1 : Int32), sF (sR (sR (sR σ 7 (upd (gR σ 7) (gF σ 0 7).toNatClampNeg x1)) 8 (upd (gR (sR σ 7 (upd (gR σ 7) (gF σ 0 7).toNatClampNeg x1)) 8) (gF (sR σ 7 (upd (gR σ 7) (gF σ 0 7).toNatClampNeg x1)) 0 7).toNatClampNeg x2)) 9 (upd (gR (sR (sR σ 7 (upd (gR σ 7) (gF σ 0 7).toNatClampNeg x1)) 8 (upd (gR (sR σ 7 (upd (gR σ 7) (gF σ 0 7).toNatClampNeg x1)) 8) (gF (sR σ 7 (upd (gR σ 7) (gF σ 0 7).toNatClampNeg x1)) 0 7).toNatClampNeg x2)) 9) (gF (sR (sR σ 7 (upd (gR σ 7) (gF σ 0 7).toNatClampNeg x1)) 8 (upd (gR (sR σ 7 (upd (gR σ 7) (gF σ 0 7).toNatClampNeg x1)) 8) (gF (sR σ 7 (upd (gR σ 7) (gF σ 0 7).toNatClampNeg x1)) 0 7).toNatClampNeg x2)) 0 7).toNatClampNeg x3)) 0 7 ((gF (sR (sR (sR σ 7 (upd (gR σ 7) (gF σ 0 7).toNatClampNeg x1)) 8 (upd (gR (sR σ 7 (upd (gR σ 7) (gF σ 0 7).toNatClampNeg x1)) 8) (gF (sR σ 7 (upd (gR σ 7) (gF σ 0 7).toNatClampNeg x1)) 0 7).toNatClampNeg x2)) 9 (upd (gR (sR (sR σ 7 (upd (gR σ 7) (gF σ 0 7).toNatClampNeg x1)) 8 (upd (gR (sR σ 7 (upd (gR σ 7) (gF σ 0 7).toNatClampNeg x1)) 8) (gF (sR σ 7 (upd (gR σ 7) (gF σ 0 7).toNatClampNeg x1)) 0 7).toNatClampNeg x2)) 9) (gF (sR (sR σ 7 (upd (gR σ 7) (gF σ 0 7).toNatClampNeg x1)) 8 (upd (gR (sR σ 7 (upd (gR σ 7) (gF σ 0 7).toNatClampNeg x1)) 8) (gF (sR σ 7 (upd (gR σ 7) (gF σ 0 7).toNatClampNeg x1)) 0 7).toNatClampNeg x2)) 0 7).toNatClampNeg x3)) 0 7) + (1 : Int32))))))))))))))
set_option maxRecDepth 100000 in
set_option maxHeartbeats 4000000 in
theorem k_X5_swear (l : Launch) {D : va_G} {A : Nat → Prop} {cI cZ cS : ClassId} {am : Nat → Nat} (hAd : ∀ σ, va_D A (WM cI am σ)) {σ : SX} {x1 : Int32} {x2 : Int32} {x3 : Int32} {σ' : SX} {r : Int32} (h : f_X5_swear σ x1 x2 x3 = some (r, σ')) : Ct (QI D A r (WM cI am (σ'))) l yX5_swear cX5_swear 4 (some .int) 1 21 D (tyS cI cZ cS) A [.ref (am 0), .int x1, .int x2, .int x3] (WM cI am σ) := by
  refine Ct.of (by decide +kernel) (Nat.le_of_ble_eq_true rfl) ?_
  intro p e s m below meth c ls S hK hr hlocks hP hS hl
  have hx := S.1
  have hb := S.2.1
  have hl : lv_has ls 4 [(0, .ref (am 0)), (1, .int x1), (2, .int x2), (3, .int x3)] := hl
  rw [f_X5_swear] at h
  refine lv_aload_n hx hb dX5_swear_0 rfl (lv_at hl 0 rfl) ?_
  refine lv_iload_n hx hb dX5_swear_1 rfl (lv_at hl 1 rfl) ?_
  obtain ⟨r_2, e_2, h⟩ := ob1_of h
  refine k_goI (k_runV (As := [.int x1]) (rest := []) S hK hP (k_X5_isSwearer l hAd e_2) cy_X5_isSwearer wd_780 rfl mO rfl hl.1 rfl (Nat.le_of_ble_eq_true rfl) dX5_swear_2 ⟨Nat.le_of_ble_eq_true rfl, Nat.le_of_ble_eq_true rfl⟩ ⟨Nat.zero_le _, Nat.zero_le _⟩) hS (fun _ h => h) (fun H locs hP hS _ _ => ?_)
  refine lv_if_eq (tgt := 29) hx hb dX5_swear_5 (by decide) (fun c_5 => ?_) (fun c_5 => ?_)
  · replace h := ite_t c_5 h
    refine lv_iconst (v := (-1 : Int32)) hx hb dX5_swear_29 (by decide) ?_
    obtain ⟨rfl, rfl⟩ := some_pair h
    exact k_iret S hr hlocks hP hS rfl dX5_swear_30
  · replace h := ite_f c_5 h
    refine lv_aload_n hx hb dX5_swear_8 rfl (lv_at hl 0 rfl) ?_
    refine lv_iload_n hx hb dX5_swear_9 rfl (lv_at hl 2 rfl) ?_
    obtain ⟨r_10, e_10, h⟩ := ob1_of h
    refine k_goI (k_runV (As := [.int x2]) (rest := []) S hK hP (k_X5_isSwearer l hAd e_10) cy_X5_isSwearer wd_780 rfl mO rfl hl.1 rfl (Nat.le_of_ble_eq_true rfl) dX5_swear_10 ⟨Nat.le_of_ble_eq_true rfl, Nat.le_of_ble_eq_true rfl⟩ ⟨Nat.zero_le _, Nat.zero_le _⟩) hS (fun _ h => h) (fun H locs hP hS _ _ => ?_)
    refine lv_if_eq (tgt := 29) hx hb dX5_swear_13 (by decide) (fun c_13 => ?_) (fun c_13 => ?_)
    · replace h := ite_t c_13 h
      refine lv_iconst (v := (-1 : Int32)) hx hb dX5_swear_29 (by decide) ?_
      obtain ⟨rfl, rfl⟩ := some_pair h
      exact k_iret S hr hlocks hP hS rfl dX5_swear_30
    · replace h := ite_f c_13 h
      refine lv_iload_n hx hb dX5_swear_16 rfl (lv_at hl 1 rfl) ?_
      refine lv_iload_n hx hb dX5_swear_17 rfl (lv_at hl 2 rfl) ?_
      refine lv_icmp_eq (tgt := 29) hx hb dX5_swear_18 (by decide) (fun c_18 => ?_) (fun c_18 => ?_)
      · replace h := ite_t c_18 h
        refine lv_iconst (v := (-1 : Int32)) hx hb dX5_swear_29 (by decide) ?_
        obtain ⟨rfl, rfl⟩ := some_pair h
        exact k_iret S hr hlocks hP hS rfl dX5_swear_30
      · replace h := ite_f c_18 h
        refine lv_aload_n hx hb dX5_swear_21 rfl (lv_at hl 0 rfl) ?_
        refine lv_iload_n hx hb dX5_swear_22 rfl (lv_at hl 3 rfl) ?_
        obtain ⟨r_23, e_23, h⟩ := ob1_of h
        refine k_goI (k_runV (As := [.int x3]) (rest := []) S hK hP (k_X5_isHour l hAd e_23) cy_X5_isHour wd_824 rfl mO rfl hl.1 rfl (Nat.le_of_ble_eq_true rfl) dX5_swear_23 ⟨Nat.le_of_ble_eq_true rfl, Nat.le_of_ble_eq_true rfl⟩ ⟨Nat.zero_le _, Nat.zero_le _⟩) hS (fun _ h => h) (fun H locs hP hS _ _ => ?_)
        refine lv_if_ne (tgt := 31) hx hb dX5_swear_26 (by decide) (fun c_26 => ?_) (fun c_26 => ?_)
        · replace h := ite_f c_26 h
          refine lv_aload_n hx hb dX5_swear_31 rfl (lv_at hl 0 rfl) ?_
          refine gt_X5_77 S hK hP dX5_swear_32 ?_
          refine lv_bipush (v := (6 : Int32)) hx hb dX5_swear_35 (by decide) ?_
          refine lv_icmp_ne (tgt := 43) hx hb dX5_swear_37 (by decide) (fun c_37 => ?_) (fun c_37 => ?_)
          · replace h := ite_f c_37 h
            refine lv_aload_n hx hb dX5_swear_43 rfl (lv_at hl 0 rfl) ?_
            refine gt_X5_32 S hK hP dX5_swear_44 ?_
            refine lv_aload_n hx hb dX5_swear_47 rfl (lv_at hl 0 rfl) ?_
            refine gt_X5_77 S hK hP dX5_swear_48 ?_
            refine lv_iload_n hx hb dX5_swear_51 rfl (lv_at hl 1 rfl) ?_
            obtain ⟨hi_52, h⟩ := oin_of h
            refine k_iast S hK hP (hAd _) hS mr7 mr7_s hi_52 dX5_swear_52 (fun H locs hP hS => ?_)
            refine lv_aload_n hx hb dX5_swear_53 rfl (lv_at hl 0 rfl) ?_
            refine gt_X5_35 S hK hP dX5_swear_54 ?_
            refine lv_aload_n hx hb dX5_swear_57 rfl (lv_at hl 0 rfl) ?_
            refine gt_X5_77 S hK hP dX5_swear_58 ?_
            refine lv_iload_n hx hb dX5_swear_61 rfl (lv_at hl 2 rfl) ?_
            obtain ⟨hi_62, h⟩ := oin_of h
            refine k_iast S hK hP (hAd _) hS mr8 mr8_s hi_62 dX5_swear_62 (fun H locs hP hS => ?_)
            refine lv_aload_n hx hb dX5_swear_63 rfl (lv_at hl 0 rfl) ?_
            refine gt_X5_38 S hK hP dX5_swear_64 ?_
            refine lv_aload_n hx hb dX5_swear_67 rfl (lv_at hl 0 rfl) ?_
            refine gt_X5_77 S hK hP dX5_swear_68 ?_
            refine lv_iload_n hx hb dX5_swear_71 rfl (lv_at hl 3 rfl) ?_
            obtain ⟨hi_72, h⟩ := oin_of h
            refine k_iast S hK hP (hAd _) hS mr9 mr9_s hi_72 dX5_swear_72 (fun H locs hP hS => ?_)
            refine lv_aload_n hx hb dX5_swear_73 rfl (lv_at hl 0 rfl) ?_
            refine lv_dup hx hb dX5_swear_74 rfl ?_
            refine gt_X5_77 S hK hP dX5_swear_75 ?_
            refine lv_iconst (v := (1 : Int32)) hx hb dX5_swear_78 (by decide) ?_
            refine lv_iadd hx hb dX5_swear_79 ?_
            refine pt_X5_77 S hK hP (hAd _) hS dX5_swear_80 (fun H locs hP hS => ?_)
            refine lv_aload_n hx hb dX5_swear_83 rfl (lv_at hl 0 rfl) ?_
            refine gt_X5_77 S hK hP dX5_swear_84 ?_
            refine lv_iconst (v := (1 : Int32)) hx hb dX5_swear_87 (by decide) ?_
            refine lv_isub hx hb dX5_swear_88 ?_
            obtain ⟨rfl, rfl⟩ := some_pair h
            exact k_iret S hr hlocks hP hS rfl dX5_swear_89
          · replace h := ite_t c_37 h
            refine lv_bipush (v := (-4 : Int32)) hx hb dX5_swear_40 (by decide) ?_
            obtain ⟨rfl, rfl⟩ := some_pair h
            exact k_iret S hr hlocks hP hS rfl dX5_swear_42
        · replace h := ite_t c_26 h
          refine lv_iconst (v := (-1 : Int32)) hx hb dX5_swear_29 (by decide) ?_
          obtain ⟨rfl, rfl⟩ := some_pair h
          exact k_iret S hr hlocks hP hS rfl dX5_swear_30
def f_X5_letOff_L12 : Nat → SX → Int32 → Int32 → Option (Unit × SX)
  | 0, _, _, _ => none
  | n + 1, σ, y1, y2 => if (gF σ 0 7) ≤ y2 then (some ((), σ)) else (oin (y2 + (1 : Int32)) 6 (oin y2 6 (oin (y2 + (1 : Int32)) 6 (oin y2 6 (oin (y2 + (1 : Int32)) 6 (oin y2 6 (f_X5_letOff_L12 n (sR (sR (sR σ 7 (upd (gR σ 7) y2.toNatClampNeg (gR σ 7 (y2 + (1 : Int32)).toNatClampNeg))) 8 (upd (gR (sR σ 7 (upd (gR σ 7) y2.toNatClampNeg (gR σ 7 (y2 + (1 : Int32)).toNatClampNeg))) 8) y2.toNatClampNeg (gR (sR σ 7 (upd (gR σ 7) y2.toNatClampNeg (gR σ 7 (y2 + (1 : Int32)).toNatClampNeg))) 8 (y2 + (1 : Int32)).toNatClampNeg))) 9 (upd (gR (sR (sR σ 7 (upd (gR σ 7) y2.toNatClampNeg (gR σ 7 (y2 + (1 : Int32)).toNatClampNeg))) 8 (upd (gR (sR σ 7 (upd (gR σ 7) y2.toNatClampNeg (gR σ 7 (y2 + (1 : Int32)).toNatClampNeg))) 8) y2.toNatClampNeg (gR (sR σ 7 (upd (gR σ 7) y2.toNatClampNeg (gR σ 7 (y2 + (1 : Int32)).toNatClampNeg))) 8 (y2 + (1 : Int32)).toNatClampNeg))) 9) y2.toNatClampNeg (gR (sR (sR σ 7 (upd (gR σ 7) y2.toNatClampNeg (gR σ 7 (y2 + (1 : Int32)).toNatClampNeg))) 8 (upd (gR (sR σ 7 (upd (gR σ 7) y2.toNatClampNeg (gR σ 7 (y2 + (1 : Int32)).toNatClampNeg))) 8) y2.toNatClampNeg (gR (sR σ 7 (upd (gR σ 7) y2.toNatClampNeg (gR σ 7 (y2 + (1 : Int32)).toNatClampNeg))) 8 (y2 + (1 : Int32)).toNatClampNeg))) 9 (y2 + (1 : Int32)).toNatClampNeg))) y1 (y2 + (1 : Int32)))))))))
def f_X5_letOff (σ : SX) (x1 : Int32) : Option (Unit × SX) := f_X5_letOff_L12 100 (sF σ 0 7 ((gF σ 0 7) - (1 : Int32))) x1 x1
set_option maxRecDepth 100000 in
set_option maxHeartbeats 4000000 in
theorem k_X5_letOff (l : Launch) {D : va_G} {A : Nat → Prop} {cI cZ cS : ClassId} {am : Nat → Nat} (hAd : ∀ σ, va_D A (WM cI am σ)) {σ : SX} {x1 : Int32} {σ' : SX} {r : Unit} (h : f_X5_letOff σ x1 = some (r, σ')) : Ct (QV D A (WM cI am (σ'))) l yX5_letOff cX5_letOff 3 none 0 0 D (tyS cI cZ cS) A [.ref (am 0), .int x1] (WM cI am σ) := by
  refine Ct.of (by decide +kernel) (Nat.le_of_ble_eq_true rfl) ?_
  intro p e s m below meth c ls S hK hr hlocks hP hS hl
  have hx := S.1
  have hb := S.2.1
  have hl : lv_has ls 3 [(0, .ref (am 0)), (1, .int x1)] := hl
  have loop12 : ∀ (n : Nat) (σ : SX) (y1 : Int32) (y2 : Int32) (H : Heap) (locs : List Loc) (ls : Array Slot), f_X5_letOff_L12 n σ y1 y2 = some (r, σ') → va_P D vwCl (WM cI am σ) H → va_S A s.heap H locs → lv_has ls 3 [(0, .ref (am 0)), (1, .int y1), (2, .int y2)] → W p l e (rmO 0 0) s m [.ref (am 0), .int x1].toArray below meth c H locs 0 0 (MQ below (QV D A (WM cI am (σ'))) [.ref (am 0), .int x1].toArray s 0 0 A) (F0 m 12 ls []) := by
    intro n
    induction n with
    | zero => intro σ y1 y2 H locs ls h; cases h
    | succ n ih =>
      intro σ y1 y2 H locs ls h hP hS hl
      rw [f_X5_letOff_L12] at h
      refine lv_iload_n hx hb dX5_letOff_12 rfl (lv_at hl 2 rfl) ?_
      refine lv_aload_n hx hb dX5_letOff_13 rfl (lv_at hl 0 rfl) ?_
      refine gt_X5_77 S hK hP dX5_letOff_14 ?_
      refine lv_icmp_ge (tgt := 68) hx hb dX5_letOff_17 (by decide) (fun c_17 => ?_) (fun c_17 => ?_)
      · replace h := ite_t c_17 h
        obtain ⟨rfl, rfl⟩ := some_pair h
        exact k_vret S hr hlocks hP hS dX5_letOff_68
      · replace h := ite_f c_17 h
        refine lv_aload_n hx hb dX5_letOff_20 rfl (lv_at hl 0 rfl) ?_
        refine gt_X5_32 S hK hP dX5_letOff_21 ?_
        refine lv_iload_n hx hb dX5_letOff_24 rfl (lv_at hl 2 rfl) ?_
        refine lv_aload_n hx hb dX5_letOff_25 rfl (lv_at hl 0 rfl) ?_
        refine gt_X5_32 S hK hP dX5_letOff_26 ?_
        refine lv_iload_n hx hb dX5_letOff_29 rfl (lv_at hl 2 rfl) ?_
        refine lv_iconst (v := (1 : Int32)) hx hb dX5_letOff_30 (by decide) ?_
        refine lv_iadd hx hb dX5_letOff_31 ?_
        obtain ⟨hi_32, h⟩ := oin_of h
        refine k_iald S hK hP mr7 hi_32 dX5_letOff_32 ?_
        obtain ⟨hi_33, h⟩ := oin_of h
        refine k_iast S hK hP (hAd _) hS mr7 mr7_s hi_33 dX5_letOff_33 (fun H locs hP hS => ?_)
        refine lv_aload_n hx hb dX5_letOff_34 rfl (lv_at hl 0 rfl) ?_
        refine gt_X5_35 S hK hP dX5_letOff_35 ?_
        refine lv_iload_n hx hb dX5_letOff_38 rfl (lv_at hl 2 rfl) ?_
        refine lv_aload_n hx hb dX5_letOff_39 rfl (lv_at hl 0 rfl) ?_
        refine gt_X5_35 S hK hP dX5_letOff_40 ?_
        refine lv_iload_n hx hb dX5_letOff_43 rfl (lv_at hl 2 rfl) ?_
        refine lv_iconst (v := (1 : Int32)) hx hb dX5_letOff_44 (by decide) ?_
        refine lv_iadd hx hb dX5_letOff_45 ?_
        obtain ⟨hi_46, h⟩ := oin_of h
        refine k_iald S hK hP mr8 hi_46 dX5_letOff_46 ?_
        obtain ⟨hi_47, h⟩ := oin_of h
        refine k_iast S hK hP (hAd _) hS mr8 mr8_s hi_47 dX5_letOff_47 (fun H locs hP hS => ?_)
        refine lv_aload_n hx hb dX5_letOff_48 rfl (lv_at hl 0 rfl) ?_
        refine gt_X5_38 S hK hP dX5_letOff_49 ?_
        refine lv_iload_n hx hb dX5_letOff_52 rfl (lv_at hl 2 rfl) ?_
        refine lv_aload_n hx hb dX5_letOff_53 rfl (lv_at hl 0 rfl) ?_
        refine gt_X5_38 S hK hP dX5_letOff_54 ?_
        refine lv_iload_n hx hb dX5_letOff_57 rfl (lv_at hl 2 rfl) ?_
        refine lv_iconst (v := (1 : Int32)) hx hb dX5_letOff_58 (by decide) ?_
        refine lv_iadd hx hb dX5_letOff_59 ?_
        obtain ⟨hi_60, h⟩ := oin_of h
        refine k_iald S hK hP mr9 hi_60 dX5_letOff_60 ?_
        obtain ⟨hi_61, h⟩ := oin_of h
        refine k_iast S hK hP (hAd _) hS mr9 mr9_s hi_61 dX5_letOff_61 (fun H locs hP hS => ?_)
        refine lv_iinc (v := y2 + (1 : Int32)) (lv' := [(2, .int (y2 + (1 : Int32))), (0, .ref (am 0)), (1, .int y1)]) hx hb dX5_letOff_62 hl (k := 2) rfl rfl (by decide) rfl (fun ls hl => ?_)
        refine lv_goto (tgt := 12) hx hb dX5_letOff_65 (by decide) ?_
        exact ih (sR (sR (sR σ 7 (upd (gR σ 7) y2.toNatClampNeg (gR σ 7 (y2 + (1 : Int32)).toNatClampNeg))) 8 (upd (gR (sR σ 7 (upd (gR σ 7) y2.toNatClampNeg (gR σ 7 (y2 + (1 : Int32)).toNatClampNeg))) 8) y2.toNatClampNeg (gR (sR σ 7 (upd (gR σ 7) y2.toNatClampNeg (gR σ 7 (y2 + (1 : Int32)).toNatClampNeg))) 8 (y2 + (1 : Int32)).toNatClampNeg))) 9 (upd (gR (sR (sR σ 7 (upd (gR σ 7) y2.toNatClampNeg (gR σ 7 (y2 + (1 : Int32)).toNatClampNeg))) 8 (upd (gR (sR σ 7 (upd (gR σ 7) y2.toNatClampNeg (gR σ 7 (y2 + (1 : Int32)).toNatClampNeg))) 8) y2.toNatClampNeg (gR (sR σ 7 (upd (gR σ 7) y2.toNatClampNeg (gR σ 7 (y2 + (1 : Int32)).toNatClampNeg))) 8 (y2 + (1 : Int32)).toNatClampNeg))) 9) y2.toNatClampNeg (gR (sR (sR σ 7 (upd (gR σ 7) y2.toNatClampNeg (gR σ 7 (y2 + (1 : Int32)).toNatClampNeg))) 8 (upd (gR (sR σ 7 (upd (gR σ 7) y2.toNatClampNeg (gR σ 7 (y2 + (1 : Int32)).toNatClampNeg))) 8) y2.toNatClampNeg (gR (sR σ 7 (upd (gR σ 7) y2.toNatClampNeg (gR σ 7 (y2 + (1 : Int32)).toNatClampNeg))) 8 (y2 + (1 : Int32)).toNatClampNeg))) 9 (y2 + (1 : Int32)).toNatClampNeg))) y1 (y2 + (1 : Int32)) _ _ _ h hP hS (lv_sub hl [1, 2, 0] rfl)
  rw [f_X5_letOff] at h
  refine lv_aload_n hx hb dX5_letOff_0 rfl (lv_at hl 0 rfl) ?_
  refine lv_dup hx hb dX5_letOff_1 rfl ?_
  refine gt_X5_77 S hK hP dX5_letOff_2 ?_
  refine lv_iconst (v := (1 : Int32)) hx hb dX5_letOff_5 (by decide) ?_
  refine lv_isub hx hb dX5_letOff_6 ?_
  refine pt_X5_77 S hK hP (hAd _) hS dX5_letOff_7 (fun H locs hP hS => ?_)
  refine lv_iload_n hx hb dX5_letOff_10 rfl (lv_at hl 1 rfl) ?_
  refine lv_istore_n (lv' := [(2, .int x1), (0, .ref (am 0)), (1, .int x1)]) hx hb dX5_letOff_11 rfl hl (by decide) rfl (fun ls hl => ?_)
  exact loop12 100 (sF σ 0 7 ((gF σ 0 7) - (1 : Int32))) x1 x1 _ _ _ h hP hS (lv_sub hl [1, 2, 0] rfl)
def f_X5_release (σ : SX) (x1 : Int32) : Option (Int32 × SX) := ob1 (f_X5_isOath σ x1) (fun r_2 => if r_2 = 0 then (some ((-1 : Int32), σ)) else (ob2 (f_X5_letOff σ x1) (fun r_12 s_12 => some (gF s_12 0 7, s_12))))
set_option maxRecDepth 100000 in
set_option maxHeartbeats 4000000 in
theorem k_X5_release (l : Launch) {D : va_G} {A : Nat → Prop} {cI cZ cS : ClassId} {am : Nat → Nat} (hAd : ∀ σ, va_D A (WM cI am σ)) {σ : SX} {x1 : Int32} {σ' : SX} {r : Int32} (h : f_X5_release σ x1 = some (r, σ')) : Ct (QI D A r (WM cI am (σ'))) l yX5_release cX5_release 2 (some .int) 1 22 D (tyS cI cZ cS) A [.ref (am 0), .int x1] (WM cI am σ) := by
  refine Ct.of (by decide +kernel) (Nat.le_of_ble_eq_true rfl) ?_
  intro p e s m below meth c ls S hK hr hlocks hP hS hl
  have hx := S.1
  have hb := S.2.1
  have hl : lv_has ls 2 [(0, .ref (am 0)), (1, .int x1)] := hl
  rw [f_X5_release] at h
  refine lv_aload_n hx hb dX5_release_0 rfl (lv_at hl 0 rfl) ?_
  refine lv_iload_n hx hb dX5_release_1 rfl (lv_at hl 1 rfl) ?_
  obtain ⟨r_2, e_2, h⟩ := ob1_of h
  refine k_goI (k_runV (As := [.int x1]) (rest := []) S hK hP (k_X5_isOath l hAd e_2) cy_X5_isOath wd_816 rfl mO rfl hl.1 rfl (Nat.le_of_ble_eq_true rfl) dX5_release_2 ⟨Nat.le_of_ble_eq_true rfl, Nat.le_of_ble_eq_true rfl⟩ ⟨Nat.zero_le _, Nat.zero_le _⟩) hS (fun _ h => h) (fun H locs hP hS _ _ => ?_)
  refine lv_if_ne (tgt := 10) hx hb dX5_release_5 (by decide) (fun c_5 => ?_) (fun c_5 => ?_)
  · replace h := ite_f c_5 h
    refine lv_aload_n hx hb dX5_release_10 rfl (lv_at hl 0 rfl) ?_
    refine lv_iload_n hx hb dX5_release_11 rfl (lv_at hl 1 rfl) ?_
    obtain ⟨r_12, s_12, e_12, h⟩ := ob2_of h
    refine k_goV (k_runV (As := [.int x1]) (rest := []) S hK hP (k_X5_letOff l hAd e_12) cy_X5_letOff wd_852 rfl mO rfl hl.1 rfl (Nat.le_of_ble_eq_true rfl) dX5_release_12 ⟨Nat.le_of_ble_eq_true rfl, Nat.le_of_ble_eq_true rfl⟩ ⟨Nat.zero_le _, Nat.zero_le _⟩) hS (fun _ h => h) (fun H locs hP hS _ _ => ?_)
    refine lv_aload_n hx hb dX5_release_15 rfl (lv_at hl 0 rfl) ?_
    refine gt_X5_77 S hK hP dX5_release_16 ?_
    obtain ⟨rfl, rfl⟩ := some_pair h
    exact k_iret S hr hlocks hP hS rfl dX5_release_19
  · replace h := ite_t c_5 h
    refine lv_iconst (v := (-1 : Int32)) hx hb dX5_release_8 (by decide) ?_
    obtain ⟨rfl, rfl⟩ := some_pair h
    exact k_iret S hr hlocks hP hS rfl dX5_release_9
