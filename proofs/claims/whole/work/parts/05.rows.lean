/-! ===== contracts over one world, and rows for it ===== -/
abbrev tyS (cI cZ cS : ClassId) : List (ClassId × FieldType) := [(cI, .int), (cZ, .boolean), (cS, .object "ColdOaths$Sheet")]
def KT (D : va_G) (tys : List (ClassId × FieldType)) (U : State) : Prop := va_K D vwCl tys U ∧ va_Nw (.methodLinkNest RX0 109 yX4_hasBit RX4) U
def Pw (D : va_G) (tys : List (ClassId × FieldType)) (w : va_W) (U : State) : Prop := va_P D vwCl w U.heap ∧ KT D tys U
theorem KT.warm {D : va_G} {tys : List (ClassId × FieldType)} {s U : State} (h : KT D tys s) (hW : s.WarmedH U.vm) : KT D tys U := ⟨va_K.moved hW.alike h.1, va_Nw.warmM hW h.2⟩
theorem Pw.blind {D : va_G} {tys : List (ClassId × FieldType)} {w : va_W} (av : List Value) : FrameBlind (va_Pc av (Pw D tys w)) := fun a U g mk q => by
  obtain ⟨q0, qP, qK, qN⟩ := q
  exact ⟨q0, qP, va_K.moved (u := U) (U := U.calling g mk a) (Vm.Alike.refl U.vm) qK, va_Nw.same rfl rfl qN⟩
def QI (D : va_G) (A : Nat → Prop) (r : Int32) (w' : va_W) : Array Value → State → Outcome → State → Prop := va_Qi (fun r2 (_ : Unit) => r2 = r) (fun _ t => va_P D vwCl w' t.heap) A
def QL (D : va_G) (A : Nat → Prop) (r : Int64) (w' : va_W) : Array Value → State → Outcome → State → Prop := va_Ql (fun r2 (_ : Unit) => r2 = r) (fun _ t => va_P D vwCl w' t.heap) A
def QV (D : va_G) (A : Nat → Prop) (w' : va_W) : Array Value → State → Outcome → State → Prop := va_Qv (fun (_ : Unit) => True) (fun _ t => va_P D vwCl w' t.heap) A
abbrev rmO (fr lo : Nat) : Room := { frames := fr, cells := 0, slots := 0, locals := lo }
def Ct (Qc : Array Value → State → Outcome → State → Prop) (l : Launch) (y : MethodName) (bytes : ByteArray) (maxL : Nat) (ret : Option FieldType) (fr lo : Nat) (D : va_G) (tys : List (ClassId × FieldType)) (A : Nat → Prop) (av : List Value) (w : va_W) : Prop :=
  Met l y (.code y bytes maxL ret :: wsA) (rmO fr lo) (va_Pc av (Pw D tys w)) Qc 0 0 A
/-- what the tables say of a callee -/
def CY (y : MethodName) (bytes : ByteArray) (maxL : Nat) (ret : Option FieldType) (C : String) (n : Nat) : Prop :=
  Cond.instanceMethod y ∈ wsA ∧ Cond.selects C y y ∈ wsA ∧ Cond.initialized C ∈ wsA ∧ Cond.code y bytes maxL ret ∈ wsA ∧ (y.cls = C ∧ y.cls ≠ "java/lang/invoke/MethodHandle" ∧ y.cls ≠ "java/lang/invoke/VarHandle" ∧ (parseMethodDescriptor y.desc).map (fun d => d.parameters.length) = some n)
def CYs (y : MethodName) (bytes : ByteArray) (maxL : Nat) (ret : Option FieldType) (n : Nat) : Prop :=
  Cond.static y ∈ wsA ∧ Cond.initialized y.cls ∈ wsA ∧ Cond.code y bytes maxL ret ∈ wsA ∧ (y.cls ≠ "java/lang/invoke/MethodHandle" ∧ y.cls ≠ "java/lang/invoke/VarHandle" ∧ (parseMethodDescriptor y.desc).map (fun d => d.parameters.length) = some n)
theorem goodC {y : MethodName} {bytes : ByteArray} {maxL : Nat} {ret : Option FieldType} (h : Cond.code y bytes maxL ret ∈ wsA) : GoodIn wsA (.code y bytes maxL ret :: wsA) := fun w hw => by
  rcases List.mem_cons.mp hw with e | e
  · subst e; exact ⟨h, wsA_ok h⟩
  · exact ⟨e, wsA_ok e⟩
section KX
variable {p : Program} {l : Launch} {e : Env} {R : Room} {s : State} {m : MethodId} {args : Array Value} {below : List Frame} {meth : Method} {c : Code} {H : Heap} {locs : List Loc} {cells slots : Nat} {Q : State → Prop}
variable {cc : ByteArray} {pc nL : Nat} {ls : Array Slot} {rest st : List Value} {D : va_G} {A A0 : Nat → Prop} {H0 : Heap} {tys : List (ClassId × FieldType)} {w w' : va_W} {own : String}
theorem Ct.of {Qc : Array Value → State → Outcome → State → Prop} {y : MethodName} {bytes : ByteArray} {maxL : Nat} {ret : Option FieldType} {fr lo : Nat} {av : List Value} (hy : plainName y.cls = true) (hlen : (lg_sl av).length ≤ maxL)
    (body : ∀ (p : Program) (e : Env) (s : State) (m : MethodId) (below : List Frame) (meth : Method) (c : Code) (ls : Array Slot), CallFix p m c bytes maxL s av.toArray wsA y.cls → KT D tys s → meth.sig.returnType = ret → meth.locks = false → va_P D vwCl w s.heap → va_S A s.heap s.heap [] → lv_has ls maxL (lv_args 0 av) →
      W p l e (rmO fr lo) s m av.toArray below meth c s.heap [] 0 0 (MQ below Qc av.toArray s 0 0 A) (F0 m 0 ls [])) : Ct Qc l y bytes maxL ret fr lo D tys A av w := by
  refine Met.ofW (cc := bytes) (maxL := maxL) (ret := ret) hy rfl ?_
  intro p e s m args below meth c s₁ B hml hv
  obtain ⟨rfl, hP, hK⟩ := hv
  have hts := atoms_spec (ws := Cond.code y bytes maxL ret :: wsA) B.pre
  have hl := lv_entry av (n := maxL) hlen
  rw [lg_entry_eq]
  exact body p e s m below meth c _ ⟨B.exec, B.bytes, hml, findClass_of_methodNamed B.named, fun w h => hts w (List.mem_cons_of_mem _ h)⟩ hK B.returns B.notSynchronized hP va_S.rf hl
theorem k_iret {r v : Int32} (S : CallFix p m c cc nL s args wsA own) (hr : meth.sig.returnType = some .int) (hlocks : meth.locks = false) (hP : va_P D vwCl w' H) (hS : va_S A s.heap H locs) (hv : v = r) (hdg : decode cc pc = .ok (.ireturn, 1)) : W p l e R s m args below meth c H locs 0 0 (MQ below (QI D A r w') args s 0 0 A) (F0 m pc ls [.int v]) :=
  W.iret S.1 S.2.1 hr (fun t ht hW => ⟨⟨v, (), rfl, hv, show va_P D vwCl w' t.heap from by rw [ht]; exact hP⟩, hS.F ht⟩) hS.2.2 hdg hlocks
theorem k_zret {r v : Int32} (S : CallFix p m c cc nL s args wsA own) (hr : meth.sig.returnType = some .boolean) (hlocks : meth.locks = false) (hP : va_P D vwCl w' H) (hS : va_S A s.heap H locs) (hv : v = r) (hz : v = 0 ∨ v = 1) (hdg : decode cc pc = .ok (.ireturn, 1)) : W p l e R s m args below meth c H locs 0 0 (MQ below (QI D A r w') args s 0 0 A) (F0 m pc ls [.int v]) :=
  W.zret S.1 S.2.1 hr (by rcases hz with h | h <;> rw [h] <;> rfl) (fun t ht hW => ⟨⟨v, (), rfl, hv, show va_P D vwCl w' t.heap from by rw [ht]; exact hP⟩, hS.F ht⟩) hS.2.2 hdg hlocks
theorem k_lret {r v : Int64} (S : CallFix p m c cc nL s args wsA own) (hr : meth.sig.returnType = some .long) (hlocks : meth.locks = false) (hP : va_P D vwCl w' H) (hS : va_S A s.heap H locs) (hv : v = r) (hdg : decode cc pc = .ok (.lreturn, 1)) : W p l e R s m args below meth c H locs 0 0 (MQ below (QL D A r w') args s 0 0 A) (F0 m pc ls [.long v]) :=
  W.lret S.1 S.2.1 hr (fun t ht hW => ⟨⟨v, (), rfl, hv, show va_P D vwCl w' t.heap from by rw [ht]; exact hP⟩, hS.F ht⟩) hS.2.2 hdg hlocks
theorem k_vret (S : CallFix p m c cc nL s args wsA own) (hr : meth.sig.returnType = none) (hlocks : meth.locks = false) (hP : va_P D vwCl w' H) (hS : va_S A s.heap H locs) (hdg : decode cc pc = .ok (.return_, 1)) : W p l e R s m args below meth c H locs 0 0 (MQ below (QV D A w') args s 0 0 A) (F0 m pc ls []) :=
  W.vret S.1 S.2.1 hr (fun t ht hW => ⟨⟨(), rfl, trivial, show va_P D vwCl w' t.heap from by rw [ht]; exact hP⟩, hS.F ht⟩) hS.2.2 hdg hlocks
theorem k_get {C : String} {T : u_T} {N ci index k q0 a : Nat} {fs : List Value} {v : Value} (S : CallFix p m c cc nL s args wsA own) (hK : KT D tys s) (hP : va_P D vwCl w H) (hin : ∀ w ∈ u_ws C T N, w ∈ wsA) (hc : vwCl[ci]? = some (C, T, N)) (hk : k < N) (hlink : Cond.fieldLink own index (T k).1 (T k).2.1 (T k).2.2.1 ∈ wsA) (he : w[q0]? = some (a, .inr (ci, fs))) (hv : fs[k]? = some v) (hdg : decode cc pc = .ok (.getfield index, 3))
    (kk : W p l e R s m args below meth c H locs cells slots Q (F0 m (pc + 3) ls (v :: rest))) : W p l e R s m args below meth c H locs cells slots Q (F0 m pc ls (.ref a :: rest)) :=
  va_get S.1 S.2.1 S.2.2.2.2 hin S.2.2.2.1 hK.1 hP q0 he hc k hk (S.2.2.2.2 _ hlink) (fun _ h => h) hv hdg kk
theorem k_put {C : String} {T : u_T} {N ci index k q0 a : Nat} {fs : List Value} {v : Value} {ty0 : Nat → FieldType} (S : CallFix p m c cc nL s args wsA own) (hK : KT D tys s) (hP : va_P D vwCl w H) (hD : va_D A w) (hS : va_S A H0 H locs) (hin : ∀ w ∈ u_ws C T N, w ∈ wsA) (hty : ∀ k, k < N → parseFieldDescriptor (T k).2.2.1 = some (ty0 k)) (hnm : ∀ a, a < N → ∀ b, b < N → a ≠ b → (T a).2.1 ≠ (T b).2.1) (hc : vwCl[ci]? = some (C, T, N)) (hk : k < N) (hlink : Cond.fieldLink own index (T k).1 (T k).2.1 (T k).2.2.1 ∈ wsA) (hfin : (T k).2.2.2 = false) (he : w[q0]? = some (a, .inr (ci, fs))) (hl : k < fs.length) (hn : narrow (ty0 k) v = v) (hfit : fits (ty0 k) v = true) (hset : w.set q0 (a, .inr (ci, fs.set k v)) = w') (hdg : decode cc pc = .ok (.putfield index, 3))
    (kk : ∀ (H1 : Heap) (locs1 : List Loc), va_P D vwCl w' H1 → va_S A H0 H1 locs1 → W p l e R s m args below meth c H1 locs1 cells slots Q (F0 m (pc + 3) ls rest)) : W p l e R s m args below meth c H locs cells slots Q (F0 m pc ls (v :: .ref a :: rest)) :=
  va_put S.1 S.2.1 S.2.2.2.2 hin ty0 hty hnm S.2.2.2.1 hK.1 hP hD hS q0 he hc k hk (S.2.2.2.2 _ hlink) (fun _ h => h) hfin (hty k hk) hn hfit hl hdg (fun H1 locs1 h1 _ h3 => kk H1 locs1 (hset ▸ h1) h3)
variable {cI cZ cS : ClassId}
theorem k_iald {q0 a n : Nat} {f : Nat → Int32} {i : Int32} (S : CallFix p m c cc nL s args wsA own) (hK : KT D (tyS cI cZ cS) s) (hP : va_P D vwCl w H) (he : w[q0]? = some (a, .inl (cI, n, .inl f))) (hin : vp_in i n) (hdg : decode cc pc = .ok (.iaload, 1))
    (kk : W p l e R s m args below meth c H locs cells slots Q (F0 m (pc + 1) ls (.int (f i.toNatClampNeg) :: rest))) : W p l e R s m args below meth c H locs cells slots Q (F0 m pc ls (.int i :: .ref a :: rest)) :=
  va_iald S.1 S.2.1 hK.1 hP q0 0 he rfl hin hdg kk
theorem k_zald {q0 a n : Nat} {f : Nat → Int32} {i : Int32} (S : CallFix p m c cc nL s args wsA own) (hK : KT D (tyS cI cZ cS) s) (hP : va_P D vwCl w H) (he : w[q0]? = some (a, .inl (cZ, n, .inl f))) (hin : vp_in i n) (hdg : decode cc pc = .ok (.baload, 1))
    (kk : W p l e R s m args below meth c H locs cells slots Q (F0 m (pc + 1) ls (.int (f i.toNatClampNeg) :: rest))) : W p l e R s m args below meth c H locs cells slots Q (F0 m pc ls (.int i :: .ref a :: rest)) :=
  va_zald S.1 S.2.1 hK.1 hP q0 1 he rfl hin hdg kk
theorem k_aald {q0 a n : Nat} {f : Nat → Option Nat} {i : Int32} {v : Nat} (S : CallFix p m c cc nL s args wsA own) (hK : KT D (tyS cI cZ cS) s) (hP : va_P D vwCl w H) (he : w[q0]? = some (a, .inl (cS, n, .inr (.inr (.inr (.inr f)))))) (hin : vp_in i n) (hv : f i.toNatClampNeg = some v) (hdg : decode cc pc = .ok (.aaload, 1))
    (kk : W p l e R s m args below meth c H locs cells slots Q (F0 m (pc + 1) ls (.ref v :: rest))) : W p l e R s m args below meth c H locs cells slots Q (F0 m pc ls (.int i :: .ref a :: rest)) :=
  va_aldq S.1 S.2.1 hK.1 hP q0 2 he rfl hin hdg (by rw [hv]; exact kk)
theorem k_iast {q0 a n : Nat} {f : Nat → Int32} {i x : Int32} (S : CallFix p m c cc nL s args wsA own) (hK : KT D (tyS cI cZ cS) s) (hP : va_P D vwCl w H) (hD : va_D A w) (hS : va_S A H0 H locs) (he : w[q0]? = some (a, .inl (cI, n, .inl f))) (hset : w.set q0 (a, .inl (cI, n, .inl (upd f i.toNatClampNeg x))) = w') (hin : vp_in i n) (hdg : decode cc pc = .ok (.iastore, 1))
    (kk : ∀ (H1 : Heap) (locs1 : List Loc), va_P D vwCl w' H1 → va_S A H0 H1 locs1 → W p l e R s m args below meth c H1 locs1 cells slots Q (F0 m (pc + 1) ls rest)) : W p l e R s m args below meth c H locs cells slots Q (F0 m pc ls (.int x :: .int i :: .ref a :: rest)) :=
  va_iast S.1 S.2.1 hK.1 hP hD hS q0 0 he rfl hin hdg (fun H1 locs1 h1 _ h3 => kk H1 locs1 (hset ▸ h1) h3)
theorem k_zast {q0 a n : Nat} {f : Nat → Int32} {i x : Int32} (S : CallFix p m c cc nL s args wsA own) (hK : KT D (tyS cI cZ cS) s) (hP : va_P D vwCl w H) (hD : va_D A w) (hS : va_S A H0 H locs) (he : w[q0]? = some (a, .inl (cZ, n, .inl f))) (hset : w.set q0 (a, .inl (cZ, n, .inl (upd f i.toNatClampNeg (vp_nar .boolean x)))) = w') (hin : vp_in i n) (hdg : decode cc pc = .ok (.bastore, 1))
    (kk : ∀ (H1 : Heap) (locs1 : List Loc), va_P D vwCl w' H1 → va_S A H0 H1 locs1 → W p l e R s m args below meth c H1 locs1 cells slots Q (F0 m (pc + 1) ls rest)) : W p l e R s m args below meth c H locs cells slots Q (F0 m pc ls (.int x :: .int i :: .ref a :: rest)) :=
  va_zast S.1 S.2.1 hK.1 hP hD hS q0 1 he rfl hin hdg (fun H1 locs1 h1 _ h3 => kk H1 locs1 (hset ▸ h1) h3)
theorem k_alen {q0 a : Nat} {x : vp_A} {v : Int32} (S : CallFix p m c cc nL s args wsA own) (hK : KT D (tyS cI cZ cS) s) (hP : va_P D vwCl w H) (he : w[q0]? = some (a, .inl (cI, x))) (hv : Int32.ofNat x.1 = v) (hdg : decode cc pc = .ok (.arraylength, 1))
    (kk : W p l e R s m args below meth c H locs cells slots Q (F0 m (pc + 1) ls (.int v :: rest))) : W p l e R s m args below meth c H locs cells slots Q (F0 m pc ls (.ref a :: rest)) :=
  va_alen S.1 S.2.1 hK.1 hP q0 0 he rfl hv hdg kk
/-- calls: the run, by the kinds of call -/
theorem k_runV {Qc : Array Value → State → Outcome → State → Prop} {y : MethodName} {bytes : ByteArray} {maxL : Nat} {ret : Option FieldType} {fr lo n index ci q0 : Nat} {C : String} {T : u_T} {N : Nat} {b : Addr} {As : List Value} {fs : List Value} (S : CallFix p m c cc nL s args wsA own) (hK : KT D tys s) (hP : va_P D vwCl w H) (hM : Ct Qc l y bytes maxL ret fr lo D tys A (.ref b :: As) w) (hy : CY y bytes maxL ret C n) (hlk : Cond.methodLink own index y ∈ wsA) (hc : vwCl[ci]? = some (C, T, N)) (he : w[q0]? = some (b, .inr (ci, fs))) (hn : As.length = n) (hl : ls.size = nL) (hst : st = As.reverse ++ .ref b :: rest) (hrest : (rest.map fun v => v.category).sum ≤ 8) (hdg : decode cc pc = .ok (.invokevirtual index, 3)) (hR : fr + 1 ≤ R.frames ∧ 8 + (maxL + 11) + lo ≤ R.locals) (hf : cells ≤ R.cells ∧ slots ≤ R.slots) :
    va_Run p l e R s m args below meth c H locs cells slots 0 0 (F0 m pc ls st) rest (Qc (Value.ref b :: As).toArray) A := by
  obtain ⟨g2, g3, g4, g5, hd⟩ := hy
  have hG : GoodIn wsA (wsV own index C y (.code y bytes maxL ret :: wsA)) := fun w hw => by
    rcases List.mem_append.mp hw with h | h
    · have hm : w ∈ wsA := by
        rcases List.mem_cons.mp h with e | h
        · subst e; exact hlk
        rcases List.mem_cons.mp h with e | h
        · subst e; exact g2
        rcases List.mem_cons.mp h with e | h
        · subst e; exact g3
        rcases List.mem_cons.mp h with e | h
        · subst e; exact g4
        · cases h
      exact ⟨hm, wsA_ok hm⟩
    · exact goodC g5 w h
  exact va_runV S hM (cwV n S.2.2.2.2 hG rfl rfl rfl hd hR) ⟨Pw.blind _, va_recv hK.1 hP hc he, fun U hU hW => ⟨rfl, by rw [hU]; exact hP, hK.warm hW⟩⟩ rfl hn hl hst (lv_room (m := m) (pc := pc) (ls := ls) (rest := st) hrest) hdg hf
theorem k_runS {Qc : Array Value → State → Outcome → State → Prop} {y : MethodName} {bytes : ByteArray} {maxL : Nat} {ret : Option FieldType} {fr lo n index : Nat} {As : List Value} (S : CallFix p m c cc nL s args wsA own) (hK : KT D tys s) (hP : va_P D vwCl w H) (hM : Ct Qc l y bytes maxL ret fr lo D tys A As w) (hy : CYs y bytes maxL ret n) (hlk : Cond.methodLink own index y ∈ wsA) (hn : As.length = n) (hl : ls.size = nL) (hst : st = As.reverse ++ rest) (hrest : (rest.map fun v => v.category).sum ≤ 8) (hdg : decode cc pc = .ok (.invokestatic index, 3)) (hR : fr + 1 ≤ R.frames ∧ 8 + (maxL + 11) + lo ≤ R.locals) (hf : cells ≤ R.cells ∧ slots ≤ R.slots) :
    va_Run p l e R s m args below meth c H locs cells slots 0 0 (F0 m pc ls st) rest (Qc As.toArray) A := by
  obtain ⟨g2, g4, g5, hd⟩ := hy
  have hG : GoodIn wsA (va_wsS own index y (.code y bytes maxL ret :: wsA)) := fun w hw => by
    rcases List.mem_append.mp hw with h | h
    · have hm : w ∈ wsA := by
        rcases List.mem_cons.mp h with e | h
        · subst e; exact hlk
        rcases List.mem_cons.mp h with e | h
        · subst e; exact g2
        rcases List.mem_cons.mp h with e | h
        · subst e; exact g4
        · cases h
      exact ⟨hm, wsA_ok hm⟩
    · exact goodC g5 w h
  exact va_runS S hM (va_cwS n S.2.2.2.2 hG rfl rfl rfl hd hR) ⟨Pw.blind _, fun U hU hW => ⟨rfl, by rw [hU]; exact hP, hK.warm hW⟩⟩ rfl hn hl hst (lv_room (m := m) (pc := pc) (ls := ls) (rest := st) hrest) hdg hf
/-- the one call of a nest mate's private method: hasBit, from Day -/
theorem k_runB {Qc : Array Value → State → Outcome → State → Prop} {bytes : ByteArray} {maxL : Nat} {ret : Option FieldType} {fr lo n : Nat} {As : List Value} (S : CallFix p m c cc nL s args wsA RX0) (hK : KT D tys s) (hP : va_P D vwCl w H) (hM : Ct Qc l yX4_hasBit bytes maxL ret fr lo D tys A As w) (hy : CYs yX4_hasBit bytes maxL ret n) (hn : As.length = n) (hl : ls.size = nL) (hst : st = As.reverse ++ rest) (hrest : (rest.map fun v => v.category).sum ≤ 8) (hdg : decode cc pc = .ok (.invokestatic 109, 3)) (hR : fr + 1 ≤ R.frames ∧ 8 + (maxL + 11) + lo ≤ R.locals) (hf : cells ≤ R.cells ∧ slots ≤ R.slots) :
    va_Run p l e R s m args below meth c H locs cells slots 0 0 (F0 m pc ls st) rest (Qc As.toArray) A := by
  obtain ⟨g2, g4, g5, hd⟩ := hy
  exact va_runSN S hM ⟨va_cnB n S.2.2.2.2 (goodC g5) rfl rfl rfl hK.2 (S.2.2.2.2 _ g4) hd hR, S.2.2.2.2 _ g2, trivial⟩ ⟨Pw.blind _, fun U hU hW => ⟨rfl, by rw [hU]; exact hP, hK.warm hW⟩⟩ rfl hn hl hst (lv_room (m := m) (pc := pc) (ls := ls) (rest := st) hrest) hdg hf
theorem k_goI {r : Int32} {a : Array Value} (hr : va_Run p l e R s m args below meth c H locs cells slots 0 0 (F0 m pc ls st) rest (QI D A r w' a) A) (hS : va_S A0 H0 H locs) (hA : ∀ q, A q → A0 q)
    (kk : ∀ (H1 : Heap) (locs1 : List Loc), va_P D vwCl w' H1 → va_S A0 H0 H1 locs1 → H.size ≤ H1.size → (∀ q : Nat, q < H.size → ¬ A q → H1[q]? = H[q]?) → W p l e R s m args below meth c H1 locs1 cells slots Q (F0 m (pc + 3) ls (.int r :: rest))) : W p l e R s m args below meth c H locs cells slots Q (F0 m pc ls st) :=
  va_calli hr hS (fun q _ h => hA q h) hA (fun r2 u t H1 locs1 ht _ hw hB hz hk hS1 => by subst hw; exact kk H1 locs1 (ht ▸ hB) hS1 hz hk)
theorem k_goL {r : Int64} {a : Array Value} (hr : va_Run p l e R s m args below meth c H locs cells slots 0 0 (F0 m pc ls st) rest (QL D A r w' a) A) (hS : va_S A0 H0 H locs) (hA : ∀ q, A q → A0 q)
    (kk : ∀ (H1 : Heap) (locs1 : List Loc), va_P D vwCl w' H1 → va_S A0 H0 H1 locs1 → H.size ≤ H1.size → (∀ q : Nat, q < H.size → ¬ A q → H1[q]? = H[q]?) → W p l e R s m args below meth c H1 locs1 cells slots Q (F0 m (pc + 3) ls (.long r :: rest))) : W p l e R s m args below meth c H locs cells slots Q (F0 m pc ls st) :=
  va_calll hr hS (fun q _ h => hA q h) hA (fun r2 u t H1 locs1 ht _ hw hB hz hk hS1 => by subst hw; exact kk H1 locs1 (ht ▸ hB) hS1 hz hk)
theorem k_goV {a : Array Value} (hr : va_Run p l e R s m args below meth c H locs cells slots 0 0 (F0 m pc ls st) rest (QV D A w' a) A) (hS : va_S A0 H0 H locs) (hA : ∀ q, A q → A0 q)
    (kk : ∀ (H1 : Heap) (locs1 : List Loc), va_P D vwCl w' H1 → va_S A0 H0 H1 locs1 → H.size ≤ H1.size → (∀ q : Nat, q < H.size → ¬ A q → H1[q]? = H[q]?) → W p l e R s m args below meth c H1 locs1 cells slots Q (F0 m (pc + 3) ls rest)) : W p l e R s m args below meth c H locs cells slots Q (F0 m pc ls st) :=
  va_callv hr hS (fun q _ h => hA q h) hA (fun u t H1 locs1 ht _ hw hB hz hk hS1 => kk H1 locs1 (ht ▸ hB) hS1 hz hk)
theorem k_copy {q0 q1 a0 a1 n0 n1 index : Nat} {f g : Nat → Int32} {sp dp n : Int32} (S : CallFix p m c cc nL s args wsA own) (hl : ls.size = nL) (hK : KT D (tyS cI cZ cS) s) (hP : va_P D vwCl w H) (hD : va_D A w) (hS : va_S A H0 H locs) (hlk : Cond.methodLink own index arraycopyName ∈ wsA) (ha0 : w[q0]? = some (a0, .inl (cI, n0, .inl f))) (ha1 : w[q1]? = some (a1, .inl (cI, n1, .inl g))) (hset : w.set q1 (a1, .inl (cI, n1, .inl (va_cpy f g sp.toNatClampNeg dp.toNatClampNeg n.toNatClampNeg))) = w')
    (hok : ¬ sp < 0 ∧ ¬ dp < 0 ∧ ¬ n < 0 ∧ sp.toNatClampNeg + n.toNatClampNeg ≤ n0 ∧ dp.toNatClampNeg + n.toNatClampNeg ≤ n1) (hframes : 1 ≤ R.frames) (hlocals : (rest.map fun v => v.category).sum + (nativeFrameWords "java/lang/System" "arraycopy" 5 + 11) ≤ R.locals) (hdg : decode cc pc = .ok (.invokestatic index, 3))
    (kk : ∀ (H1 : Heap) (locs1 : List Loc), va_P D vwCl w' H1 → va_S A H0 H1 locs1 → W p l e R s m args below meth c H1 locs1 cells slots Q (F0 m (pc + 3) ls rest)) : W p l e R s m args below meth c H locs cells slots Q (F0 m pc ls (.int n :: .int dp :: .ref a1 :: .int sp :: .ref a0 :: rest)) :=
  va_copyi S.1 S.2.1 (S.2.2.1.trans hl.symm) S.2.2.2.1 (S.2.2.2.2 _ hlk) (S.2.2.2.2 _ wd_310) (S.2.2.2.2 _ wd_309) (S.2.2.2.2 _ wd_67) hK.1 hP hD hS q0 q1 0 0 (ty := .int) ha0 ha1 rfl rfl rfl hok.1 hok.2.1 hok.2.2.1 hok.2.2.2.1 hok.2.2.2.2 (fun i _ => rfl) hframes hlocals hdg (fun H1 locs1 h1 _ h3 => kk H1 locs1 (hset ▸ h1) h3)
def QIo (D : va_G) (A : Nat → Prop) (r : Int32) (cI cZ cS : ClassId) (ad : Nat → Nat) (σ : SX) : Array Value → State → Outcome → State → Prop := va_Qi (fun r2 (_ : Option Nat) => r2 = r) (fun ro t => va_P D vwCl (WX cI cZ cS ad ro σ) t.heap) A
theorem k_iretO {r v : Int32} {ad : Nat → Nat} {ro : Option Nat} {σ : SX} (S : CallFix p m c cc nL s args wsA own) (hr : meth.sig.returnType = some .int) (hlocks : meth.locks = false) (hP : va_P D vwCl (WX cI cZ cS ad ro σ) H) (hS : va_S A s.heap H locs) (hv : v = r) (hdg : decode cc pc = .ok (.ireturn, 1)) : W p l e R s m args below meth c H locs 0 0 (MQ below (QIo D A r cI cZ cS ad σ) args s 0 0 A) (F0 m pc ls [.int v]) :=
  W.iret S.1 S.2.1 hr (fun t ht hW => ⟨⟨v, ro, rfl, hv, show va_P D vwCl (WX cI cZ cS ad ro σ) t.heap from by rw [ht]; exact hP⟩, hS.F ht⟩) hS.2.2 hdg hlocks
theorem k_goIo {r : Int32} {a : Array Value} {ad : Nat → Nat} {σ : SX} (hr : va_Run p l e R s m args below meth c H locs cells slots 0 0 (F0 m pc ls st) rest (QIo D A r cI cZ cS ad σ a) A) (hS : va_S A0 H0 H locs) (hA : ∀ q, A q → A0 q)
    (kk : ∀ (H1 : Heap) (locs1 : List Loc) (ro : Option Nat), va_P D vwCl (WX cI cZ cS ad ro σ) H1 → va_S A0 H0 H1 locs1 → H.size ≤ H1.size → (∀ q : Nat, q < H.size → ¬ A q → H1[q]? = H[q]?) → W p l e R s m args below meth c H1 locs1 cells slots Q (F0 m (pc + 3) ls (.int r :: rest))) : W p l e R s m args below meth c H locs cells slots Q (F0 m pc ls st) :=
  va_calli hr hS (fun q _ h => hA q h) hA (fun r2 u t H1 locs1 ht _ hw hB hz hk hS1 => by subst hw; exact kk H1 locs1 u (ht ▸ hB) hS1 hz hk)
end KX
theorem some_pair {α β : Type} {a c : α} {b d : β} (h : some (a, b) = some (c, d)) : c = a ∧ d = b := by
  have h1 := Option.some.inj h
  exact ⟨(congrArg Prod.fst h1).symm, (congrArg Prod.snd h1).symm⟩
/-! ===== pieces of the functions that the code computes ===== -/
def ob1 {α β : Type} (x : Option α) (k : α → Option β) : Option β := match x with
  | none => none
  | some r => k r
def ob2 {α β : Type} (x : Option (α × SX)) (k : α → SX → Option β) : Option β := match x with
  | none => none
  | some z => k z.1 z.2
theorem ob1_of {α β : Type} {x : Option α} {k : α → Option β} {y : β} (h : ob1 x k = some y) : ∃ r, x = some r ∧ k r = some y := by
  cases x with
  | none => cases h
  | some r => exact ⟨r, rfl, h⟩
theorem ob2_of {α β : Type} {x : Option (α × SX)} {k : α → SX → Option β} {y : β} (h : ob2 x k = some y) : ∃ r z, x = some (r, z) ∧ k r z = some y := by
  cases x with
  | none => cases h
  | some r => exact ⟨r.1, r.2, rfl, h⟩
/-- an index that must be in a row -/
def oin {β : Type} (i : Int32) (n : Nat) (k : Option β) : Option β := if 0 ≤ i.toInt ∧ i.toInt < (n : Int) then k else none
theorem oin_of {β : Type} {i : Int32} {n : Nat} {k : Option β} {y : β} (h : oin i n k = some y) : vp_in i n ∧ k = some y := by
  unfold oin at h
  by_cases c : 0 ≤ i.toInt ∧ i.toInt < (n : Int)
  · rw [if_pos c] at h; exact ⟨vp_in_iff.mpr c, h⟩
  · rw [if_neg c] at h; cases h
/-- a condition that must hold -/
def oif {β : Type} (c : Prop) [Decidable c] (k : Option β) : Option β := if c then k else none
theorem oif_of {β : Type} {c : Prop} [Decidable c] {k : Option β} {y : β} (h : oif c k = some y) : c ∧ k = some y := by
  unfold oif at h
  by_cases hc : c
  · rw [if_pos hc] at h; exact ⟨hc, h⟩
  · rw [if_neg hc] at h; cases h
theorem ite_t {β : Type} {c : Prop} [Decidable c] {a b : Option β} {y : β} (hc : c) (h : (if c then a else b) = some y) : a = some y := by rw [if_pos hc] at h; exact h
theorem ite_f {β : Type} {c : Prop} [Decidable c] {a b : Option β} {y : β} (hc : ¬ c) (h : (if c then a else b) = some y) : b = some y := by rw [if_neg hc] at h; exact h
abbrev okCpy (sp dp n : Int32) (n0 n1 : Nat) : Prop := ¬ sp < 0 ∧ ¬ dp < 0 ∧ ¬ n < 0 ∧ sp.toNatClampNeg + n.toNatClampNeg ≤ n0 ∧ dp.toNatClampNeg + n.toNatClampNeg ≤ n1
abbrev ushr (x y : Int32) : Int32 := (x.toUInt32 >>> (y.toUInt32 &&& Int32.toUInt32 31)).toInt32
