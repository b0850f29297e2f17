/-! the call rule -/
theorem mj_pm_ok {cn i mid kind : Nat} (h : mj_pm cn i = some (mid, kind)) : kind < 6 ∧ ((kind < 3 ∧ Cond.methodLink (mj_R cn) i (mj_M mid).2.1 ∈ mj_ALL) ∨ (3 ≤ kind ∧ ∃ host, Cond.methodLinkNest (mj_R cn) i (mj_M mid).2.1 host ∈ mj_NW)) ∧
    (kind % 3 = 0 → Cond.instanceMethod (mj_M mid).2.1 ∈ mj_ALL ∧ Cond.selects (mj_M mid).2.1.cls (mj_M mid).2.1 (mj_M mid).2.1 ∈ mj_ALL) ∧
    (kind % 3 = 1 → Cond.static (mj_M mid).2.1 ∈ mj_ALL) ∧
    (kind % 3 = 2 → Cond.instanceMethod (mj_M mid).2.1 ∈ mj_ALL ∧ (mj_M mid).2.1.name = "<init>" ∧ (mj_M mid).2.2.2.2.1 = none) := by
  have h1 := (mj_all_and cn i).2.1
  unfold mj_pmc at h1
  rw [h] at h1
  simp only [Bool.and_eq_true, Nat.blt_eq] at h1
  obtain ⟨⟨g1, g2⟩, g3⟩ := h1
  have hk : kind < 6 ∧ ((kind < 3 ∧ Cond.methodLink (mj_R cn) i (mj_M mid).2.1 ∈ mj_ALL) ∨ (3 ≤ kind ∧ ∃ host, Cond.methodLinkNest (mj_R cn) i (mj_M mid).2.1 host ∈ mj_NW)) := by
    rcases hw : mj_pmw cn i with ⟨pl, _ | host⟩
    · rw [hw] at g2
      simp only [Bool.and_eq_true, Nat.blt_eq] at g2
      exact ⟨by omega, Or.inl ⟨g2.1, mj_w_in g2.2⟩⟩
    · rw [hw] at g2
      simp only [Bool.and_eq_true, Nat.blt_eq] at g2
      exact ⟨g2.1.2, Or.inr ⟨Nat.le_of_ble_eq_true g2.1.1, host, mj_wn_in g2.2 rfl⟩⟩
  refine ⟨hk.1, hk.2, fun e => ?_, fun e => ?_, fun e => ?_⟩
  · rw [e] at g3
    simp only [Bool.and_eq_true] at g3
    exact ⟨mj_w_in g3.1, mj_w_in g3.2⟩
  · rw [e] at g3
    exact mj_w_in g3
  · rw [e] at g3
    simp only [Bool.and_eq_true, decide_eq_true_eq] at g3
    exact ⟨mj_w_in g3.1, g3.2.1, g3.2.2⟩
section RCALL
variable {l : Launch} {b base : Nat} {D : va_G} {z : mj_K × (Int32 → Int32)} {M : mj_Md} {pc : Nat} {L st : List Value} {σ : mj_S} {Q : Option Value → mj_S → Prop}
set_option maxHeartbeats 4000000 in
theorem R_call {idx mid kind : Nat} {As rest : List Value} {Q' : Option Value → mj_S → Prop} (ht : mj_tab M pc = some (mj_ins kind idx, 3)) (hm : mj_pm M.1 idx = some (mid, kind)) (hmc : mj_mc mid = true) (hdec : mj_Dec (mj_M mid)) (hst : st = As.reverse ++ rest)
    (hchk : mj_cchk M (mj_M mid) (mj_Mn mid) kind As rest σ = true) (hQ : ∀ r σ1, Q' r σ1 → σ1.1.2.2.2 = (mj_bc (mj_M mid), mj_bs (mj_M mid)) ∧ σ1.1.2.2.1.1 ≤ mj_bc (mj_M mid) ∧ σ1.1.2.2.1.2 ≤ mj_bs (mj_M mid))
    (hc : mj_Rn l b base D z (mj_M mid) 0 (mj_ent As (mj_M mid).2.2.2.1) [] (mj_sub σ (mj_M mid)) Q') (kk : ∀ r σ1, Q' r σ1 → mj_Rn l b base D z M (pc + 3) L (r.toList ++ rest) (mj_back σ σ1 (mj_M mid)) Q) : mj_Rn l b base D z M pc L st σ Q := by
  intro p e R s m args below meth c Qf A kr
  have A0 := A
  obtain ⟨hx, hb, hml, hr, hown, hts, hlk, hin, hfr, hlo, hK, hN, hAO, hbb, hbs, hdec0, hsc⟩ := A
  have hd := hdec0 pc _ ht
  obtain ⟨hk6, hlink, hkV, hkS, hkI⟩ := mj_pm_ok hm
  obtain ⟨m1, m2, m3, m4, m5⟩ := mj_mc_ok hmc
  unfold mj_cchk at hchk
  simp only [Bool.and_eq_true] at hchk
  obtain ⟨⟨f1, f2, f3, f4, f5, f6⟩, f7⟩ := hchk
  have f1 := Nat.le_of_ble_eq_true f1
  have f2 := Nat.le_of_ble_eq_true f2
  have f3 := Nat.le_of_ble_eq_true f3
  have f4 := Nat.le_of_ble_eq_true f4
  have f5 := Nat.le_of_ble_eq_true f5
  have f6 := Nat.le_of_ble_eq_true f6
  have hfr' : mj_fr M ≤ R.frames := hfr
  have hlo' : mj_lo M ≤ R.locals := hlo
  intro H locs ls ca c1 c2 b1 b2 hW hL
  have hW0 := hW
  obtain ⟨hz, hP, hKA, hS, hX⟩ := hW
  have hM := mj_met ca hmc hdec f4 rfl rfl hQ hc
  have hroom : (mj_rm (mj_M mid)).frames + 1 ≤ R.frames ∧ 8 + ((mj_M mid).2.2.2.1 + 11) + (mj_rm (mj_M mid)).locals ≤ R.locals := ⟨Nat.le_trans f1 hfr', Nat.le_trans f2 hlo'⟩
  have hcells : σ.1.2.2.1.1 + mj_bc (mj_M mid) ≤ R.cells ∧ σ.1.2.2.1.2 + mj_bs (mj_M mid) ≤ R.slots := ⟨Nat.le_trans f5 b1, Nat.le_trans f6 b2⟩
  have hpre : ∀ U : State, U.heap = H → s.WarmedH U.vm → va_Pc (As.map (mj_cv b base)) (mj_B b base D z ca (mj_sub σ (mj_M mid))) (As.map (mj_cv b base)).toArray U := by
    intro U hU hWm
    refine ⟨rfl, by rw [hU]; exact hz, by rw [hU]; exact hP, mj_KA_moved hWm.alike hKA, va_K.moved hWm.alike hK, mj_NW_warm hWm hN, ⟨hAO.1.moved hWm.alike, mj_AO2_moved hWm.alike hAO.2⟩, hbb, fun n hn => ?_, hX⟩
    rw [hU]
    exact ((hsc n hn).kept (hS.2.1 b (Nat.lt_of_lt_of_le hbb hbs) (by unfold mj_A; omega))).moved hWm.alike
  have hfix : CallFix p m c M.2.2.1 M.2.2.2.1 s args mj_ALL (mj_R M.1) := ⟨hx, hb, hml, hown, hts⟩
  have hsz : ls.size = M.2.2.2.1 := hL.1.1
  have hrm : ((rest.map (mj_cv b base)).map fun v => v.category).sum ≤ 8 := by rw [mj_cs_cv]; exact f3
  have fin : ∀ (r : Option Value) (σ1 : mj_S) (ca1 : Nat → ClassId) (H1 : Heap) (locs1 : List Loc), Q' r σ1 → mj_Wd b base D z ca1 σ1 s H1 locs1 → W p l e R s m args below meth c H1 locs1 (σ.1.2.2.1.1 + mj_bc (mj_M mid)) (σ.1.2.2.1.2 + mj_bs (mj_M mid)) Qf (F0 m (pc + 3) ls ((r.toList ++ rest).map (mj_cv b base))) := by
    intro r σ1 ca1 H1 locs1 hq hW1
    exact kk r σ1 hq p e R s m args below meth c Qf A0 kr H1 locs1 ls ca1 f5 f6 b1 b2 hW1 hL
  subst hst
  rw [List.map_append, List.map_reverse]
  have hini := hts _ m2
  have hsplit : (kind = 0 ∨ kind = 1 ∨ kind = 2) ∨ (kind = 3 ∨ kind = 4 ∨ kind = 5) := by omega
  rcases hsplit with (rfl | rfl | rfl) | (rfl | rfl | rfl)
  · skip
    have hw : Cond.methodLink (mj_R M.1) idx (mj_M mid).2.1 ∈ mj_ALL := by
      rcases hlink with h9 | h9
      · exact h9.2
      · exact absurd h9.1 (by decide)
    cases As with
    | nil => cases f7
    | cons v As' =>
      cases v with
      | ref a =>
        simp only [Bool.and_eq_true, Nat.blt_eq] at f7
        obtain ⟨g1, g2, g3⟩ := f7
        obtain ⟨g4, g5⟩ := mj_isO_spec g2
        obtain ⟨q, rfl, hq⟩ := mj_hs_spec g4
        have hev := mj_wl_get (b := b) (base := base) (ca := ca) hq
        rw [mj_ce_O g5] at hev
        have hrecv := va_recv hK hP (mj_cl_get g3) hev
        exact mj_goRun (va_runV (C := (mj_M mid).2.1.cls) (As := As'.map (mj_cv b base)) (rest := rest.map (mj_cv b base)) hfix hM ⟨callB_of (mj_Mn mid) hts (mj_goodIn m1) rfl rfl rfl hini (hts _ hw) m4 hroom, hts _ (hkV rfl).1, hts _ (hkV rfl).2⟩ ⟨mj_B_blind, (by rw [m3]; exact hrecv), hpre⟩ rfl (by rw [List.length_map]; exact Nat.eq_of_beq_eq_true g1) hsz (by simp [mj_cv]) (lv_room hrm) hd hcells) hS fin
      | _ => cases f7
  · skip
    have hw : Cond.methodLink (mj_R M.1) idx (mj_M mid).2.1 ∈ mj_ALL := by
      rcases hlink with h9 | h9
      · exact h9.2
      · exact absurd h9.1 (by decide)
    have g1 : Nat.beq As.length (mj_Mn mid) = true := f7
    exact mj_goRun (va_runS (As := As.map (mj_cv b base)) (rest := rest.map (mj_cv b base)) hfix hM ⟨callB_of (mj_Mn mid) hts (mj_goodIn m1) rfl rfl rfl hini (hts _ hw) m4 hroom, hts _ (hkS rfl)⟩ ⟨mj_B_blind, hpre⟩ rfl (by rw [List.length_map]; exact Nat.eq_of_beq_eq_true g1) hsz (by simp) (lv_room hrm) hd hcells) hS fin
  · skip
    have hw : Cond.methodLink (mj_R M.1) idx (mj_M mid).2.1 ∈ mj_ALL := by
      rcases hlink with h9 | h9
      · exact h9.2
      · exact absurd h9.1 (by decide)
    have hret := (hkI rfl).2.2
    rw [hret] at m1
    cases As with
    | nil => cases f7
    | cons v As' =>
      cases v with
      | ref a =>
        have g1 : Nat.beq As'.length (mj_Mn mid) = true := f7
        exact mj_goRun (va_runI (As := As'.map (mj_cv b base)) (rest := rest.map (mj_cv b base)) hfix hM ⟨callB_of (mj_Mn mid) hts (mj_goodIn (by rw [hret]; exact m1)) (by unfold mj_ws; rw [hret]) rfl rfl hini (hts _ hw) m4 hroom, (hkI rfl).2.1, hts _ (hkI rfl).1⟩ ⟨mj_B_blind, hpre⟩ rfl (by rw [List.length_map]; exact Nat.eq_of_beq_eq_true g1) hsz (by simp [mj_cv]) (lv_room hrm) hd hcells) hS fin
      | _ => cases f7
  · skip
    have hw' : ∃ host, Cond.methodLinkNest (mj_R M.1) idx (mj_M mid).2.1 host ∈ mj_NW := by
      rcases hlink with h9 | h9
      · exact absurd h9.1 (by decide)
      · exact h9.2
    obtain ⟨host, hw⟩ := hw'
    cases As with
    | nil => cases f7
    | cons v As' =>
      cases v with
      | ref a =>
        simp only [Bool.and_eq_true, Nat.blt_eq] at f7
        obtain ⟨g1, g2, g3⟩ := f7
        obtain ⟨g4, g5⟩ := mj_isO_spec g2
        obtain ⟨q, rfl, hq⟩ := mj_hs_spec g4
        have hev := mj_wl_get (b := b) (base := base) (ca := ca) hq
        rw [mj_ce_O g5] at hev
        have hrecv := va_recv hK hP (mj_cl_get g3) hev
        exact mj_goRun (va_runVN (C := (mj_M mid).2.1.cls) (As := As'.map (mj_cv b base)) (rest := rest.map (mj_cv b base)) hfix hM ⟨va_cnB (mj_Mn mid) hts (mj_goodIn m1) rfl rfl rfl (hN _ hw) hini m4 hroom, hts _ (hkV rfl).1, hts _ (hkV rfl).2⟩ ⟨mj_B_blind, (by rw [m3]; exact hrecv), hpre⟩ rfl (by rw [List.length_map]; exact Nat.eq_of_beq_eq_true g1) hsz (by simp [mj_cv]) (lv_room hrm) hd hcells) hS fin
      | _ => cases f7
  · simp at f7
  · skip
    have hw' : ∃ host, Cond.methodLinkNest (mj_R M.1) idx (mj_M mid).2.1 host ∈ mj_NW := by
      rcases hlink with h9 | h9
      · exact absurd h9.1 (by decide)
      · exact h9.2
    obtain ⟨host, hw⟩ := hw'
    have hret := (hkI rfl).2.2
    rw [hret] at m1
    cases As with
    | nil => cases f7
    | cons v As' =>
      cases v with
      | ref a =>
        have g1 : Nat.beq As'.length (mj_Mn mid) = true := f7
        exact mj_goRun (va_runIN (As := As'.map (mj_cv b base)) (rest := rest.map (mj_cv b base)) hfix hM ⟨va_cnB (mj_Mn mid) hts (mj_goodIn (by rw [hret]; exact m1)) (by unfold mj_ws; rw [hret]) rfl rfl (hN _ hw) hini m4 hroom, (hkI rfl).2.1, hts _ (hkI rfl).1⟩ ⟨mj_B_blind, hpre⟩ rfl (by rw [List.length_map]; exact Nat.eq_of_beq_eq_true g1) hsz (by simp [mj_cv]) (lv_room hrm) hd hcells) hS fin
      | _ => cases f7
end RCALL
