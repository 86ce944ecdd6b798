/-! ===== coats, kinds, frosts ===== -/
theorem FM.em {a b : SX} {e : RD} (h : FM a b) (hd : EM a e) : EM b e := by
  unfold EM
  rw [h.1 24 (by omega), h.2 14 (by omega), h.2 15 (by omega), h.2 16 (by omega)]
  exact hd
theorem coatsL {σ0 τ0 : SX} {d : DV} {e : RD} {q : SHT} {tr ft : Int32} (hA : RelA d e q tr ft σ0 τ0) {s : Nat} (hs : s < dS d) : ∀ (r v n : Nat) (σ τ : SX) (acc : Int32) (w : Nat), v + r = 10 → r < n → w ≤ 9 → FD σ0 σ → DX 17 σ (setCt d s w) → DM τ (setCt d s w) → FM τ0 τ → BP (PR Rel) (f_X4_coats_L28 n σ (nI s) acc (nI v)) (f_X5_coats_L22 n τ (nI s) (nI (dCt d s)) acc (nI v)) := by
  have hA0 := hA
  obtain ⟨⟨ok, h0⟩, _, _, ⟨eo, ex, em⟩, -⟩ := hA
  have h4 := ok.2.1
  have o1 : ∀ z : Option (Int32 × SX), oin (nI s) 4 z = z := fun z => oin_nI z (by omega) (by decide)
  intro r
  induction r with
  | zero =>
    intro v n σ τ acc w hv hn hw fd hx hm fm
    obtain ⟨n, rfl⟩ : ∃ z, n = z + 1 := ⟨n - 1, by omega⟩
    have : v = 10 := by omega
    subst this
    rw [f_X4_coats_L28, f_X5_coats_L22, if_pos (show (9 : Int32) < nI 10 by decide), if_pos (show (9 : Int32) < nI 10 by decide), o1, cl s (by omega)]
    have hm' := M_setCt hm s (dCt d s)
    rw [setCt2, setCt_self] at hm'
    exact BP.ret ⟨rfl, (hA0.draft fd hm' (fm.trans (FM_sR (by omega)))).rel⟩
  | succ r ih =>
    intro v n σ τ acc w hv hn hw fd hx hm fm
    obtain ⟨n, rfl⟩ : ∃ z, n = z + 1 := ⟨n - 1, by omega⟩
    rw [f_X4_coats_L28, f_X5_coats_L22, if_neg (show ¬ (9 : Int32) < nI v from fun z => by have := (nI_ltI (a := 9) (by decide) (by omega)).mp z; omega), if_neg (show ¬ (9 : Int32) < nI v from fun z => by have := (nI_ltI (a := 9) (by decide) (by omega)).mp z; omega)]
    simp only [o1, cl s (by omega), nI_1]
    have hx' := X_setCt hx s v
    have hm' := M_setCt hm s v
    rw [setCt2] at hx' hm'
    have ok' : dOk (setCt d s v) := setCt_ok ok (by omega)
    have fd' := fd.trans (FD_sR (σ := σ) (c := 17 + 3) (f := upd (gR σ (17 + 3)) s (nI v)) (by omega))
    have fm' := fm.trans (FM_sR (τ := τ) (c := 6) (f := upd (gR τ 6) s (nI v)) (by omega))
    refine BP.ob1 (bp_hold ok' hx' hm' eo (fd'.ex ex) (fm'.em em)) (fun z z' hz => ?_)
    cases hz
    exact BP.ite (fun _ => ih (v + 1) n _ _ _ v (by omega) (by omega) (by omega) fd' hx' hm' fm') (fun _ => ih (v + 1) n _ _ _ v (by omega) (by omega) (by omega) fd' hx' hm' fm')
theorem Sim_coats_ok : Sim_coats Rel := by
  intro σ τ hR x1
  obtain ⟨d, e, q, tr, ft, hA⟩ := hR
  have hA0 := hA
  obtain ⟨⟨ok, h0⟩, hx, hm, -⟩ := hA
  have h4 := ok.2.1
  refine BP.rwR ?_
  unfold f_X4_coats f_X5_coats
  refine bp_swr ok hx hm (BP.ret ⟨rfl, hA0.rel⟩) (fun s hs e1 => ?_)
  obtain ⟨σ', g1, g2, g3⟩ := X_draft hx ok
  have hw := (ok.2.2.2.2.1 s hs).2
  rw [if_neg one0, if_neg one0, e1, g1, ob2_some, oin_nI _ (by omega) (by decide), cl s (by omega), (hm.2.2.2.2.2.1 s hs).2]
  exact coatsL hA0 hs 10 0 100 σ' τ 0 (dCt d s) (by omega) (by omega) (by omega) g3 (by rw [setCt_self]; exact g2) (by rw [setCt_self]; exact hm) FM.refl
theorem kindsL {σ0 τ0 : SX} {d : DV} {e : RD} {q : SHT} {tr ft : Int32} (hA : RelA d e q tr ft σ0 τ0) {s : Nat} (hs : s < dS d) : ∀ (r v n : Nat) (σ τ : SX) (acc : Int32) (w : Nat), v + r = 3 → r < n → w ≤ 2 → FD σ0 σ → DX 17 σ (setKd d s w) → DM τ (setKd d s w) → FM τ0 τ → BP (PR Rel) (f_X4_kinds_L28 n σ (nI s) acc (nI v)) (f_X5_kinds_L22 n τ (nI s) (nI (dKd d s)) acc (nI v)) := by
  have hA0 := hA
  obtain ⟨⟨ok, h0⟩, _, _, ⟨eo, ex, em⟩, -⟩ := hA
  have h4 := ok.2.1
  have o1 : ∀ z : Option (Int32 × SX), oin (nI s) 4 z = z := fun z => oin_nI z (by omega) (by decide)
  intro r
  induction r with
  | zero =>
    intro v n σ τ acc w hv hn hw fd hx hm fm
    obtain ⟨n, rfl⟩ : ∃ z, n = z + 1 := ⟨n - 1, by omega⟩
    have : v = 3 := by omega
    subst this
    rw [f_X4_kinds_L28, f_X5_kinds_L22, if_pos (show (2 : Int32) < nI 3 by decide), if_pos (show (3 : Int32) ≤ nI 3 by decide), o1, cl s (by omega)]
    have hm' := M_setKd hm s (dKd d s)
    rw [setKd2, setKd_self] at hm'
    exact BP.ret ⟨rfl, (hA0.draft fd hm' (fm.trans (FM_sR (by omega)))).rel⟩
  | succ r ih =>
    intro v n σ τ acc w hv hn hw fd hx hm fm
    obtain ⟨n, rfl⟩ : ∃ z, n = z + 1 := ⟨n - 1, by omega⟩
    rw [f_X4_kinds_L28, f_X5_kinds_L22, if_neg (show ¬ (2 : Int32) < nI v from fun z => by have := (nI_ltI (a := 2) (by decide) (by omega)).mp z; omega), if_neg (show ¬ (3 : Int32) ≤ nI v from fun z => by have := (nI_leI (a := 3) (by decide) (by omega)).mp z; omega)]
    simp only [o1, cl s (by omega), nI_1]
    have hx' := X_setKd hx s v
    have hm' := M_setKd hm s v
    rw [setKd2] at hx' hm'
    have ok' : dOk (setKd d s v) := setKd_ok ok (by omega)
    have fd' := fd.trans (FD_sR (σ := σ) (c := 17 + 2) (f := upd (gR σ (17 + 2)) s (nI v)) (by omega))
    have fm' := fm.trans (FM_sR (τ := τ) (c := 5) (f := upd (gR τ 5) s (nI v)) (by omega))
    refine BP.ob1 (bp_hold ok' hx' hm' eo (fd'.ex ex) (fm'.em em)) (fun z z' hz => ?_)
    cases hz
    exact BP.ite (fun _ => ih (v + 1) n _ _ _ v (by omega) (by omega) (by omega) fd' hx' hm' fm') (fun _ => ih (v + 1) n _ _ _ v (by omega) (by omega) (by omega) fd' hx' hm' fm')
theorem Sim_kinds_ok : Sim_kinds Rel := by
  intro σ τ hR x1
  obtain ⟨d, e, q, tr, ft, hA⟩ := hR
  have hA0 := hA
  obtain ⟨⟨ok, h0⟩, hx, hm, -⟩ := hA
  have h4 := ok.2.1
  refine BP.rwR ?_
  unfold f_X4_kinds f_X5_kinds
  refine bp_swr ok hx hm (BP.ret ⟨rfl, hA0.rel⟩) (fun s hs e1 => ?_)
  obtain ⟨σ', g1, g2, g3⟩ := X_draft hx ok
  have hw := (ok.2.2.2.2.1 s hs).1
  rw [if_neg one0, if_neg one0, e1, g1, ob2_some, oin_nI _ (by omega) (by decide), cl s (by omega), (hm.2.2.2.2.2.1 s hs).1]
  exact kindsL hA0 hs 3 0 100 σ' τ 0 (dKd d s) (by omega) (by omega) (by omega) g3 (by rw [setKd_self]; exact g2) (by rw [setKd_self]; exact hm) FM.refl
theorem frostsL {σ0 τ0 : SX} {d : DV} {e : RD} {q : SHT} {tr ft : Int32} (hA : RelA d e q tr ft σ0 τ0) {s : Nat} (hs : s < dH d) : ∀ (r v n : Nat) (σ τ : SX) (acc : Int32) (w : Nat), v + r = 10 → r < n → w ≤ 9 → FD σ0 σ → DX 17 σ (setFr d s w) → DM τ (setFr d s w) → FM τ0 τ → BP (PR Rel) (f_X4_frosts_L28 n σ (nI s) acc (nI v)) (f_X5_frosts_L22 n τ (nI s) (nI (dFr d s)) acc (nI v)) := by
  have hA0 := hA
  obtain ⟨⟨ok, h0⟩, _, _, ⟨eo, ex, em⟩, -⟩ := hA
  have h4 := ok.1
  have o1 : ∀ z : Option (Int32 × SX), oin (nI s) 6 z = z := fun z => oin_nI z (by omega) (by decide)
  intro r
  induction r with
  | zero =>
    intro v n σ τ acc w hv hn hw fd hx hm fm
    obtain ⟨n, rfl⟩ : ∃ z, n = z + 1 := ⟨n - 1, by omega⟩
    have : v = 10 := by omega
    subst this
    rw [f_X4_frosts_L28, f_X5_frosts_L22, if_pos (show (9 : Int32) < nI 10 by decide), if_pos (show (9 : Int32) < nI 10 by decide), o1, cl s (by omega)]
    have hm' := M_setFr hm s (dFr d s)
    rw [setFr2, setFr_self] at hm'
    exact BP.ret ⟨rfl, (hA0.draft fd hm' (fm.trans (FM_sR (by omega)))).rel⟩
  | succ r ih =>
    intro v n σ τ acc w hv hn hw fd hx hm fm
    obtain ⟨n, rfl⟩ : ∃ z, n = z + 1 := ⟨n - 1, by omega⟩
    rw [f_X4_frosts_L28, f_X5_frosts_L22, if_neg (show ¬ (9 : Int32) < nI v from fun z => by have := (nI_ltI (a := 9) (by decide) (by omega)).mp z; omega), if_neg (show ¬ (9 : Int32) < nI v from fun z => by have := (nI_ltI (a := 9) (by decide) (by omega)).mp z; omega)]
    simp only [o1, cl s (by omega), nI_1]
    have hx' := X_setFr hx s v
    have hm' := M_setFr hm s v
    rw [setFr2] at hx' hm'
    have ok' : dOk (setFr d s v) := setFr_ok ok (by omega)
    have fd' := fd.trans (FD_sR (σ := σ) (c := 17 + 1) (f := upd (gR σ (17 + 1)) s (nI v)) (by omega))
    have fm' := fm.trans (FM_sR (τ := τ) (c := 4) (f := upd (gR τ 4) s (nI v)) (by omega))
    refine BP.ob1 (bp_hold ok' hx' hm' eo (fd'.ex ex) (fm'.em em)) (fun z z' hz => ?_)
    cases hz
    exact BP.ite (fun _ => ih (v + 1) n _ _ _ v (by omega) (by omega) (by omega) fd' hx' hm' fm') (fun _ => ih (v + 1) n _ _ _ v (by omega) (by omega) (by omega) fd' hx' hm' fm')
theorem Sim_frosts_ok : Sim_frosts Rel := by
  intro σ τ hR x1
  obtain ⟨d, e, q, tr, ft, hA⟩ := hR
  have hA0 := hA
  obtain ⟨⟨ok, h0⟩, hx, hm, -⟩ := hA
  have h4 := ok.1
  refine BP.rwR ?_
  unfold f_X4_frosts f_X5_frosts
  refine bp_hour ok hx hm (BP.ret ⟨rfl, hA0.rel⟩) (fun s hs e1 => ?_)
  obtain ⟨σ', g1, g2, g3⟩ := X_draft hx ok
  have hw := ok.2.2.2.1 s hs
  rw [if_neg one0, if_neg one0, e1, g1, ob2_some, oin_nI _ (by omega) (by decide), cl s (by omega), hm.2.2.2.2.1 s hs]
  exact frostsL hA0 hs 10 0 100 σ' τ 0 (dFr d s) (by omega) (by omega) (by omega) g3 (by rw [setFr_self]; exact g2) (by rw [setFr_self]; exact hm) FM.refl
