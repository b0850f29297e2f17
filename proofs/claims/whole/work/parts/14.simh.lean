section STEP8
variable {l : Launch} {b base : Nat} {D : va_G} {z : mj_K × (Int32 → Int32)} {M : mj_Md} {p : Program} {e : Env} {R : Room} {s : State} {m : MethodId} {args : Array Value} {below : List Frame} {meth : Method} {c : Code} {Qf : State → Prop} {pc pc' n : Nat} {L L' st st' : List Value} {σ σ' : mj_S} {φ : List Prop}
/-- the memory behind new int[3][3] -/
def mj_m4 (σ : mj_S) : mj_S :=
  ((σ.1.1 + 4, mj_upK (mj_upK (mj_upK (mj_upK σ.1.2.1 (σ.1.1 + 1) (.inr (1, 3))) (σ.1.1 + 2) (.inr (0, 3))) (σ.1.1 + 3) (.inr (0, 3))) (σ.1.1 + 4) (.inr (0, 3)), (σ.1.2.2.1.1 + 4, σ.1.2.2.1.2 + 12), σ.1.2.2.2),
    mj_rwI (mj_rwI (mj_rwI (mj_rwI σ.2.1 (σ.1.1 + 1) (fun _ => 0)) (σ.1.1 + 2) (fun _ => 0)) (σ.1.1 + 3) (fun _ => 0)) (σ.1.1 + 4) (fun _ => 0),
    mj_rwP (mj_rwP (mj_rwP (mj_rwP σ.2.2 (σ.1.1 + 1) (fun i => if i = 0 then some (σ.1.1 + 2) else if i = 1 then some (σ.1.1 + 3) else if i = 2 then some (σ.1.1 + 4) else none)) (σ.1.1 + 2) (fun _ => none)) (σ.1.1 + 3) (fun _ => none)) (σ.1.1 + 4) (fun _ => none))
theorem mj_m4_ko {j : Nat} (hj : j ≤ σ.1.1) : (mj_m4 σ).1.2.1 j = σ.1.2.1 j := by
  show mj_upK (mj_upK (mj_upK (mj_upK σ.1.2.1 (σ.1.1 + 1) (.inr (1, 3))) (σ.1.1 + 2) (.inr (0, 3))) (σ.1.1 + 3) (.inr (0, 3))) (σ.1.1 + 4) (.inr (0, 3)) j = _
  rw [mj_upK_ne (by omega), mj_upK_ne (by omega), mj_upK_ne (by omega), mj_upK_ne (by omega)]
theorem mj_m4_io {j : Nat} (hj : j ≤ σ.1.1) : (mj_m4 σ).2.1 j = σ.2.1 j := by
  show mj_rwI (mj_rwI (mj_rwI (mj_rwI σ.2.1 (σ.1.1 + 1) (fun _ => 0)) (σ.1.1 + 2) (fun _ => 0)) (σ.1.1 + 3) (fun _ => 0)) (σ.1.1 + 4) (fun _ => 0) j = _
  rw [mj_rwI_ne (by omega), mj_rwI_ne (by omega), mj_rwI_ne (by omega), mj_rwI_ne (by omega)]
theorem mj_m4_po {j : Nat} (hj : j ≤ σ.1.1) : (mj_m4 σ).2.2 j = σ.2.2 j := by
  show mj_rwP (mj_rwP (mj_rwP (mj_rwP σ.2.2 (σ.1.1 + 1) (fun i => if i = 0 then some (σ.1.1 + 2) else if i = 1 then some (σ.1.1 + 3) else if i = 2 then some (σ.1.1 + 4) else none)) (σ.1.1 + 2) (fun _ => none)) (σ.1.1 + 3) (fun _ => none)) (σ.1.1 + 4) (fun _ => none) j = _
  rw [mj_rwP_ne (by omega), mj_rwP_ne (by omega), mj_rwP_ne (by omega), mj_rwP_ne (by omega)]
theorem mj_m4_k1 : (mj_m4 σ).1.2.1 (σ.1.1 + 1) = .inr (1, 3) := by
  show mj_upK (mj_upK (mj_upK (mj_upK σ.1.2.1 (σ.1.1 + 1) (.inr (1, 3))) (σ.1.1 + 2) (.inr (0, 3))) (σ.1.1 + 3) (.inr (0, 3))) (σ.1.1 + 4) (.inr (0, 3)) (σ.1.1 + 1) = _
  rw [mj_upK_ne (by omega), mj_upK_ne (by omega), mj_upK_ne (by omega), mj_upK_eq]
theorem mj_m4_p1 : (mj_m4 σ).2.2 (σ.1.1 + 1) = fun i => if i = 0 then some (σ.1.1 + 2) else if i = 1 then some (σ.1.1 + 3) else if i = 2 then some (σ.1.1 + 4) else none := by
  show mj_rwP (mj_rwP (mj_rwP (mj_rwP σ.2.2 (σ.1.1 + 1) (fun i => if i = 0 then some (σ.1.1 + 2) else if i = 1 then some (σ.1.1 + 3) else if i = 2 then some (σ.1.1 + 4) else none)) (σ.1.1 + 2) (fun _ => none)) (σ.1.1 + 3) (fun _ => none)) (σ.1.1 + 4) (fun _ => none) (σ.1.1 + 1) = _
  rw [mj_rwP_ne (by omega), mj_rwP_ne (by omega), mj_rwP_ne (by omega), mj_rwP_eq]
theorem mj_m4_kn {j : Nat} (hj : σ.1.1 + 2 ≤ j) (h4 : j ≤ σ.1.1 + 4) : (mj_m4 σ).1.2.1 j = .inr (0, 3) := by
  show mj_upK (mj_upK (mj_upK (mj_upK σ.1.2.1 (σ.1.1 + 1) (.inr (1, 3))) (σ.1.1 + 2) (.inr (0, 3))) (σ.1.1 + 3) (.inr (0, 3))) (σ.1.1 + 4) (.inr (0, 3)) j = _
  by_cases e4 : j = σ.1.1 + 4
  · rw [e4, mj_upK_eq]
  · rw [mj_upK_ne e4]
    by_cases e3 : j = σ.1.1 + 3
    · rw [e3, mj_upK_eq]
    · rw [mj_upK_ne e3, show j = σ.1.1 + 2 by omega, mj_upK_eq]
theorem mj_m4_in {j : Nat} (hj : σ.1.1 + 1 ≤ j) (h4 : j ≤ σ.1.1 + 4) : (mj_m4 σ).2.1 j = fun _ => 0 := by
  show mj_rwI (mj_rwI (mj_rwI (mj_rwI σ.2.1 (σ.1.1 + 1) (fun _ => 0)) (σ.1.1 + 2) (fun _ => 0)) (σ.1.1 + 3) (fun _ => 0)) (σ.1.1 + 4) (fun _ => 0) j = _
  by_cases e4 : j = σ.1.1 + 4
  · rw [e4, mj_rwI_eq]
  · rw [mj_rwI_ne e4]
    by_cases e3 : j = σ.1.1 + 3
    · rw [e3, mj_rwI_eq]
    · rw [mj_rwI_ne e3]
      by_cases e2 : j = σ.1.1 + 2
      · rw [e2, mj_rwI_eq]
      · rw [mj_rwI_ne e2, show j = σ.1.1 + 1 by omega, mj_rwI_eq]
theorem mj_outer (cA : ClassId) (h0 : Nat) : ∀ i : Nat, Jvm.Free.Multi.outerC cA 3 h0 i = arrV cA 3 (fun j => va_rf (if j < i then some (h0 + 1 + j) else none))
  | 0 => by
    show ({ cls := cA, slots := Array.replicate 3 .null, vm := .none } : Cell) = _
    rw [arrV_new]
    refine congrArg (arrV cA 3) (funext fun j => ?_)
    rw [if_neg (Nat.not_lt_zero j)]
    rfl
  | i + 1 => by
    show (Jvm.Free.Multi.outerC cA 3 h0 i).setSlot i (.ref (h0 + 1 + i)) = _
    rw [mj_outer cA h0 i, arrV_store]
    refine congrArg (arrV cA 3) (funext fun j => ?_)
    unfold updV
    by_cases e1 : j = i
    · rw [if_pos e1, if_pos (by omega), e1]
      rfl
    · rw [if_neg e1]
      show va_rf (if j < i then some (h0 + 1 + j) else none) = va_rf (if j < i + 1 then some (h0 + 1 + j) else none)
      by_cases e2 : j < i
      · rw [if_pos e2, if_pos (by omega)]
      · rw [if_neg e2, if_neg (by omega)]
theorem mj_s_mna {idx : Nat} (A : mj_At b base D z M p R s m args meth c) (hd : decode M.2.2.1 pc = .ok (.multianewarray idx 2, n)) (h : mj_mna M.1 n idx pc L st σ = some (φ, pc', L', st', σ')) (k : mj_Go l b base D z M p e R s m args below meth c Qf pc' L' st' σ') : mj_Go l b base D z M p e R s m args below meth c Qf pc L st σ := by
  obtain ⟨hx, hb, hml, hr, hown, hts, hlk, hin, hfr, hlo, hK, hN, hAO, hbb, hbs, hdec, hsc⟩ := A
  unfold mj_mna at h
  split at h
  · next k0 m0 rest =>
    obtain ⟨h1, h2⟩ := mj_if h
    obtain ⟨rfl, h4⟩ := mj_g_spec h2
    simp only [Bool.and_eq_true, decide_eq_true_eq] at h1
    obtain ⟨⟨rfl, rfl⟩, h3, h5, h6⟩ := h1
    have h3 := Nat.eq_of_beq_eq_true h3
    have h5 := Nat.eq_of_beq_eq_true h5
    obtain ⟨f1, f2⟩ := mj_fit_spec h6
    rw [h3] at hown
    rw [h5] at hd
    have hown1 : s.vm.findClass RX1 = some m.cls := hown
    have hcl : (Cond.classLink RX1 28 ("[" ++ (FieldType.array .int).toString)).before args s = true := hts _ (mj_w_in mj_f_l2d)
    have hov : (Cond.arrayOver (.array .int)).before args s = true := over_moved (Vm.Alike.refl s.vm) hAO.2
    have har : (Cond.arrayClass .int).before args s = true := hts _ (mj_w_in mj_f_arrc)
    have hs : (φ, pc', L', st', σ') = (([] : List Prop), pc + 4, L, Value.ref (σ.1.1 + 1) :: rest, mj_m4 σ) := h4.symm
    cases hs
    have e3 : (3 : Int32).toNatClampNeg = 3 := by decide
    intro H locs ls ca c1 c2 b1 b2 hW hL
    obtain ⟨hz, hP, hKA, hS, hX⟩ := hW
    intro T hT Xs
    obtain ⟨vm1, cA, comp, -, fA, fC, hO, hI, X', step⟩ := Xs.multianewarray2F (n := 3) (k := 3) (ty := .int) (rest := rest.map (mj_cv b base)) hx hown1 hcl hov har (g := F0 m pc ls (((.int 3 :: .int 3 :: rest) : List Value).map (mj_cv b base))) rfl (by rw [hb]; exact hd) rfl (by decide) (by decide) (by decide) (by decide) (by decide) rfl rfl (by rw [e3]; omega) (by rw [e3]; omega)
    rw [e3] at X' step
    generalize hF : Jvm.Free.Multi.fill (T.setVm vm1) cA comp 3 3 (defaultValue .int) 3 = F at X' step
    have hTh : (T.setVm vm1).heap = H := hT
    obtain ⟨g1, g2, -, -⟩ := Jvm.Free.Multi.fill_facts (T.setVm vm1) cA comp 3 3 (defaultValue .int) 3
    rw [hF, hTh] at g1 g2
    have hold : ∀ x : Nat, x < H.size → F.heap[x]? = H[x]? := fun x hx => by
      have := Jvm.Free.Multi.fill_old (T.setVm vm1) cA comp 3 3 (defaultValue .int) (a := x) (by rw [hTh]; exact hx) 3
      rw [hF, hTh] at this
      exact this
    have hrow : ∀ j : Nat, j < 3 → F.heap[H.size + 1 + j]? = some (arrV comp 3 (fun _ => .int 0)) := fun j hj => by
      have := Jvm.Free.Multi.fill_inner (T.setVm vm1) cA comp 3 3 (defaultValue .int) 3 j hj
      rw [hF, hTh] at this
      rw [this, ← arrV_new]
      rfl
    have hout : F.heap[H.size]? = some (arrV cA 3 (fun j => va_rf (if j < 3 then some (H.size + 1 + j) else none))) := by
      rw [g2, mj_outer]
    have hA1 : ArrOfT s cA (.array .int) := fun N9 z9 => by
      obtain ⟨-, k9, hk9, cm9, hkk9⟩ := (hO 0 0 0).1
      exact ⟨(fun q hq => by cases hq), k9, hk9, cm9, hkk9⟩
    have hA2 : ArrOfT s comp .int := fun N9 z9 => by
      obtain ⟨-, k9, hk9, cm9, hkk9⟩ := (hI 0 .null).1
      exact ⟨(fun q hq => by cases hq), k9, hk9, cm9, hkk9⟩
    have hc0 : ∀ j, j ≤ σ.1.1 → mj_ce b base (fun j => if j = σ.1.1 + 1 then cA else if σ.1.1 + 1 < j then comp else ca j) (mj_m4 σ).1.2.1 (mj_m4 σ).2.1 (mj_m4 σ).2.2 j = mj_ce b base ca σ.1.2.1 σ.2.1 σ.2.2 j := fun j hj => by
      refine mj_ce_congr (mj_m4_ko hj) (mj_m4_io hj) (mj_m4_po hj) ?_
      show (if j = σ.1.1 + 1 then cA else if σ.1.1 + 1 < j then comp else ca j) = ca j
      rw [if_neg (by omega), if_neg (by omega)]
    have hP' : va_P D vwCl (mj_wl b base (fun j => if j = σ.1.1 + 1 then cA else if σ.1.1 + 1 < j then comp else ca j) (mj_m4 σ)) F.heap := by
      intro q x hq
      have hql : q < σ.1.1 + 4 := by
        have h9 := (List.getElem?_eq_some_iff.mp hq).1
        unfold mj_wl at h9
        rw [List.length_map, List.length_range] at h9
        exact h9
      rw [mj_wl_get (show q < (mj_m4 σ).1.1 from hql)] at hq
      cases hq
      by_cases e1 : q < σ.1.1
      · rw [hc0 (q + 1) (by omega)]
        have hkept : va_P D vwCl (mj_wl b base ca σ) F.heap := hP.kept (fun k9 x hx => hold x.1 ((hP k9 x hx).lt))
        exact hkept q _ (mj_wl_get e1)
      · by_cases e2 : q = σ.1.1
        · rw [e2, mj_ce_Q (t := 0) mj_m4_k1, mj_m4_p1]
          show F.heap[base + σ.1.1]? = some (vp_cell _ _)
          rw [← hz, hout, vp_cell_q, if_pos rfl]
          refine congrArg some (congrArg (arrV cA 3) (funext fun j => ?_))
          rcases j with _ | _ | _ | j
          · rw [if_pos (by decide), if_pos (by decide), hz]
            exact congrArg (fun o => va_rf (Option.map (mj_ad b base) o)) (show (some (σ.1.1 + 2) : Option Nat) = (if nI (0) = 0 then some (σ.1.1 + 2) else if nI (0) = 1 then some (σ.1.1 + 3) else if nI (0) = 2 then some (σ.1.1 + 4) else none) from (if_pos (by decide)).symm)
          · rw [if_pos (by decide), if_pos (by decide), hz]
            exact congrArg (fun o => va_rf (Option.map (mj_ad b base) o)) (show (some (σ.1.1 + 3) : Option Nat) = (if nI (0 + 1) = 0 then some (σ.1.1 + 2) else if nI (0 + 1) = 1 then some (σ.1.1 + 3) else if nI (0 + 1) = 2 then some (σ.1.1 + 4) else none) from ((if_neg (by decide)).trans (if_pos (by decide))).symm)
          · rw [if_pos (by decide), if_pos (by decide), hz]
            exact congrArg (fun o => va_rf (Option.map (mj_ad b base) o)) (show (some (σ.1.1 + 4) : Option Nat) = (if nI (0 + 1 + 1) = 0 then some (σ.1.1 + 2) else if nI (0 + 1 + 1) = 1 then some (σ.1.1 + 3) else if nI (0 + 1 + 1) = 2 then some (σ.1.1 + 4) else none) from ((if_neg (by decide)).trans ((if_neg (by decide)).trans (if_pos (by decide)))).symm)
          · rw [if_neg (by omega), if_neg (by omega)]
        · rw [mj_ce_A (mj_m4_kn (by omega) (by omega)), mj_m4_in (by omega) (by omega)]
          show F.heap[base + q]? = some (vp_cell (if q + 1 = σ.1.1 + 1 then cA else if σ.1.1 + 1 < q + 1 then comp else ca (q + 1)) _)
          rw [if_neg (by omega), if_pos (by omega), vp_cell_i, show base + q = H.size + 1 + (q - σ.1.1 - 1) by omega, hrow _ (by omega)]
          refine congrArg some (congrArg (arrV comp 3) (funext fun j => ?_))
          show Value.int 0 = Value.int (if j < 3 then 0 else 0)
          split <;> rfl
    have hKA' : mj_KA (fun j => if j = σ.1.1 + 1 then cA else if σ.1.1 + 1 < j then comp else ca j) (mj_m4 σ) s := by
      intro q t N hq hk
      have hql : q < σ.1.1 + 4 := hq
      show ArrOfT s (if q + 1 = σ.1.1 + 1 then cA else if σ.1.1 + 1 < q + 1 then comp else ca (q + 1)) (mj_aty t) ∧ va_RA s (if q + 1 = σ.1.1 + 1 then cA else if σ.1.1 + 1 < q + 1 then comp else ca (q + 1)) (mj_aty t)
      by_cases e1 : q < σ.1.1
      · rw [mj_m4_ko (by omega)] at hk
        rw [if_neg (by omega), if_neg (by omega)]
        exact hKA q t N e1 hk
      · by_cases e2 : q = σ.1.1
        · rw [e2, mj_m4_k1] at hk
          cases hk
          rw [if_pos (by omega)]
          exact ⟨hA1, fA⟩
        · rw [mj_m4_kn (by omega) (by omega)] at hk
          cases hk
          rw [if_neg (by omega), if_pos (by omega)]
          exact ⟨hA2, fC⟩
    have hS' : va_S (mj_A base) s.heap F.heap locs := ⟨by rw [g1]; have := hS.1; omega, fun x h1 h2 => (hold x (Nat.lt_of_lt_of_le h1 hS.1)).trans (hS.2.1 x h1 h2), hS.2.2⟩
    have hX' : (mj_m4 σ).1.2.1 0 = z.1 ∧ (mj_m4 σ).2.1 0 = z.2 := ⟨(mj_m4_ko (Nat.zero_le _)).trans hX.1, (mj_m4_io (Nat.zero_le _)).trans hX.2⟩
    have X2 : Stand p l e R s m args below meth c F locs (mj_m4 σ).1.2.2.1.1 (mj_m4 σ).1.2.2.1.2 := X'
    obtain ⟨t, a1, d1⟩ := k F.heap locs ls (fun j => if j = σ.1.1 + 1 then cA else if σ.1.1 + 1 < j then comp else ca j) f1 f2 b1 b2 ⟨by rw [g1, hz]; rfl, hP', hKA', hS', hX'⟩ hL F rfl X2
    refine ⟨t, step t ?_, d1⟩
    have eT : T.heap.size = base + σ.1.1 := by rw [hT, hz]
    rw [eT]
    exact a1
  · cases h
set_option maxHeartbeats 4000000 in
theorem mj_xs {i : Instr} (A : mj_At b base D z M p R s m args meth c) (hd : decode M.2.2.1 pc = .ok (i, n)) (h : mj_x M i n pc L st σ = some (φ, pc', L', st', σ')) (ho : mj_al φ) (k : mj_Go l b base D z M p e R s m args below meth c Qf pc' L' st' σ') : mj_Go l b base D z M p e R s m args below meth c Qf pc L st σ := by
  have A0 := A
  obtain ⟨hx, hb, hml, hr, hown, hts, hlk, hin, hfr, hlo, hK, hN, hAO, hbb, hbs, hdec, hsc⟩ := A
  cases i with
  | iconst v =>
    obtain ⟨rfl, rfl, rfl, rfl, rfl⟩ := mj_x_psh h
    intro H locs ls ca c1 c2 b1 b2 hW hL
    exact lv_iconst hx hb hd rfl (k H locs ls ca c1 c2 b1 b2 hW hL)
  | bipush v =>
    obtain ⟨rfl, rfl, rfl, rfl, rfl⟩ := mj_x_psh h
    intro H locs ls ca c1 c2 b1 b2 hW hL
    exact lv_bipush hx hb hd rfl (k H locs ls ca c1 c2 b1 b2 hW hL)
  | sipush v =>
    obtain ⟨rfl, rfl, rfl, rfl, rfl⟩ := mj_x_psh h
    intro H locs ls ca c1 c2 b1 b2 hW hL
    exact lv_sipush hx hb hd rfl (k H locs ls ca c1 c2 b1 b2 hW hL)
  | lconst v =>
    obtain ⟨rfl, rfl, rfl, rfl, rfl⟩ := mj_x_psh h
    intro H locs ls ca c1 c2 b1 b2 hW hL
    exact lv_lconst hx hb hd rfl (k H locs ls ca c1 c2 b1 b2 hW hL)
  | ldc2_w idx =>
    simp only [mj_x] at h
    split at h
    · next v hv =>
      obtain ⟨rfl, rfl, rfl, rfl, rfl⟩ := mj_x_psh h
      intro H locs ls ca c1 c2 b1 b2 hW hL
      exact lv_ldc2 hx hb hown (hts _ (mj_pl_ok hv)) hd (k H locs ls ca c1 c2 b1 b2 hW hL)
    · cases h
  | ldc_w idx =>
    simp only [mj_x] at h
    split at h
    · next v hv =>
      obtain ⟨rfl, rfl, rfl, rfl, rfl⟩ := mj_x_psh h
      intro H locs ls ca c1 c2 b1 b2 hW hL
      exact lv_ldcw hx hb hown (hts _ (mj_pi_ok hv)) hd (k H locs ls ca c1 c2 b1 b2 hW hL)
    · cases h
  | iload_n j =>
    obtain ⟨x, hg, rfl, rfl, rfl, rfl, rfl⟩ := mj_x_ild h
    intro H locs ls ca c1 c2 b1 b2 hW hL
    exact lv_iload_n hx hb hd rfl (hL.get hg rfl) (k H locs ls ca c1 c2 b1 b2 hW hL)
  | iload j =>
    obtain ⟨x, hg, rfl, rfl, rfl, rfl, rfl⟩ := mj_x_ild h
    intro H locs ls ca c1 c2 b1 b2 hW hL
    exact lv_iload hx hb hd (hL.get hg rfl) (k H locs ls ca c1 c2 b1 b2 hW hL)
  | lload_n j =>
    obtain ⟨x, hg, rfl, rfl, rfl, rfl, rfl⟩ := mj_x_lld h
    intro H locs ls ca c1 c2 b1 b2 hW hL
    exact lv_lload_n hx hb hd rfl (hL.get hg rfl) (k H locs ls ca c1 c2 b1 b2 hW hL)
  | lload j =>
    obtain ⟨x, hg, rfl, rfl, rfl, rfl, rfl⟩ := mj_x_lld h
    intro H locs ls ca c1 c2 b1 b2 hW hL
    exact lv_lload hx hb hd (hL.get hg rfl) (k H locs ls ca c1 c2 b1 b2 hW hL)
  | aload_n j =>
    obtain ⟨x, hg, rfl, rfl, rfl, rfl, rfl⟩ := mj_x_ald h
    intro H locs ls ca c1 c2 b1 b2 hW hL
    exact lv_aload_n hx hb hd rfl (hL.get hg rfl) (k H locs ls ca c1 c2 b1 b2 hW hL)
  | aload j =>
    obtain ⟨x, hg, rfl, rfl, rfl, rfl, rfl⟩ := mj_x_ald h
    intro H locs ls ca c1 c2 b1 b2 hW hL
    exact lv_aload hx hb hd (hL.get hg rfl) (k H locs ls ca c1 c2 b1 b2 hW hL)
  | istore_n j =>
    obtain ⟨x, rest, rfl, hok, hlt, rfl, rfl, rfl, rfl, rfl⟩ := mj_x_ist h
    intro H locs ls ca c1 c2 b1 b2 hW hL
    exact lv_istore_n hx hb hd rfl hL.1 (by rw [← hL.2]; exact hlt) rfl (fun ls' hl' => k H locs ls' ca c1 c2 b1 b2 hW (hL.set1 (v := .int x) hok hl'))
  | istore j =>
    obtain ⟨x, rest, rfl, hok, hlt, rfl, rfl, rfl, rfl, rfl⟩ := mj_x_ist h
    intro H locs ls ca c1 c2 b1 b2 hW hL
    exact lv_istore hx hb hd hL.1 (by rw [← hL.2]; exact hlt) rfl (fun ls' hl' => k H locs ls' ca c1 c2 b1 b2 hW (hL.set1 (v := .int x) hok hl'))
  | astore_n j =>
    obtain ⟨x, rest, rfl, hok, hlt, rfl, rfl, rfl, rfl, rfl⟩ := mj_x_ast h
    intro H locs ls ca c1 c2 b1 b2 hW hL
    exact lv_astore_n hx hb hd rfl hL.1 (by rw [← hL.2]; exact hlt) rfl (fun ls' hl' => k H locs ls' ca c1 c2 b1 b2 hW (hL.set1 (v := .ref x) hok hl'))
  | astore j =>
    obtain ⟨x, rest, rfl, hok, hlt, rfl, rfl, rfl, rfl, rfl⟩ := mj_x_ast h
    intro H locs ls ca c1 c2 b1 b2 hW hL
    exact lv_astore hx hb hd hL.1 (by rw [← hL.2]; exact hlt) rfl (fun ls' hl' => k H locs ls' ca c1 c2 b1 b2 hW (hL.set1 (v := .ref x) hok hl'))
  | lstore_n j =>
    obtain ⟨x, rest, rfl, hok, hlt, rfl, rfl, rfl, rfl, rfl⟩ := mj_x_lst h
    intro H locs ls ca c1 c2 b1 b2 hW hL
    exact lv_lstore_n hx hb hd rfl hL.1 (by rw [← hL.2]; exact hlt) rfl (fun ls' hl' => k H locs ls' ca c1 c2 b1 b2 hW (hL.set2 hok hl'))
  | lstore j =>
    obtain ⟨x, rest, rfl, hok, hlt, rfl, rfl, rfl, rfl, rfl⟩ := mj_x_lst h
    intro H locs ls ca c1 c2 b1 b2 hW hL
    exact lv_lstore hx hb hd hL.1 (by rw [← hL.2]; exact hlt) rfl (fun ls' hl' => k H locs ls' ca c1 c2 b1 b2 hW (hL.set2 hok hl'))
  | iinc j v =>
    simp only [mj_x] at h
    split at h
    · next x hg =>
      obtain ⟨hok, h2⟩ := mj_if h
      obtain ⟨rfl, h4⟩ := mj_g_spec h2
      cases h4
      intro H locs ls ca c1 c2 b1 b2 hW hL
      obtain ⟨q, hq⟩ := List.getElem?_of_mem (mj_as_mem (b := b) (base := base).mpr ⟨_, hg, rfl, rfl⟩)
      exact lv_iinc hx hb hd hL.1 hq rfl (by rw [← hL.2]; exact (List.getElem?_eq_some_iff.mp hg).1) rfl (fun ls' hl' => k H locs ls' ca c1 c2 b1 b2 hW (hL.set1 (v := .int (x + Int32.ofInt v)) hok hl'))
    · cases h
  | iadd =>
    obtain ⟨x, y, rest, rfl, rfl, rfl, rfl, rfl, rfl⟩ := mj_x_bin h
    intro H locs ls ca c1 c2 b1 b2 hW hL
    exact lv_iadd hx hb hd (k H locs ls ca c1 c2 b1 b2 hW hL)
  | isub =>
    obtain ⟨x, y, rest, rfl, rfl, rfl, rfl, rfl, rfl⟩ := mj_x_bin h
    intro H locs ls ca c1 c2 b1 b2 hW hL
    exact lv_isub hx hb hd (k H locs ls ca c1 c2 b1 b2 hW hL)
  | imul =>
    obtain ⟨x, y, rest, rfl, rfl, rfl, rfl, rfl, rfl⟩ := mj_x_bin h
    intro H locs ls ca c1 c2 b1 b2 hW hL
    exact lv_imul hx hb hd (k H locs ls ca c1 c2 b1 b2 hW hL)
  | iand =>
    obtain ⟨x, y, rest, rfl, rfl, rfl, rfl, rfl, rfl⟩ := mj_x_bin h
    intro H locs ls ca c1 c2 b1 b2 hW hL
    exact lv_iand hx hb hd (k H locs ls ca c1 c2 b1 b2 hW hL)
  | ior =>
    obtain ⟨x, y, rest, rfl, rfl, rfl, rfl, rfl, rfl⟩ := mj_x_bin h
    intro H locs ls ca c1 c2 b1 b2 hW hL
    exact lv_ior hx hb hd (k H locs ls ca c1 c2 b1 b2 hW hL)
  | ixor =>
    obtain ⟨x, y, rest, rfl, rfl, rfl, rfl, rfl, rfl⟩ := mj_x_bin h
    intro H locs ls ca c1 c2 b1 b2 hW hL
    exact lv_ixor hx hb hd (k H locs ls ca c1 c2 b1 b2 hW hL)
  | ishl =>
    obtain ⟨x, y, rest, rfl, rfl, rfl, rfl, rfl, rfl⟩ := mj_x_bin h
    intro H locs ls ca c1 c2 b1 b2 hW hL
    exact lv_ishl hx hb hd (k H locs ls ca c1 c2 b1 b2 hW hL)
  | ishr =>
    obtain ⟨x, y, rest, rfl, rfl, rfl, rfl, rfl, rfl⟩ := mj_x_bin h
    intro H locs ls ca c1 c2 b1 b2 hW hL
    exact lv_ishr hx hb hd (k H locs ls ca c1 c2 b1 b2 hW hL)
  | iushr =>
    obtain ⟨x, y, rest, rfl, rfl, rfl, rfl, rfl, rfl⟩ := mj_x_bin h
    intro H locs ls ca c1 c2 b1 b2 hW hL
    exact lv_iushr hx hb hd rfl (k H locs ls ca c1 c2 b1 b2 hW hL)
  | idiv =>
    obtain ⟨x, y, rest, rfl, hne, rfl, rfl, rfl, rfl, rfl⟩ := mj_x_dvi h ho
    intro H locs ls ca c1 c2 b1 b2 hW hL
    exact lv_idiv hx hb hd hne (k H locs ls ca c1 c2 b1 b2 hW hL)
  | irem =>
    obtain ⟨x, y, rest, rfl, hne, rfl, rfl, rfl, rfl, rfl⟩ := mj_x_dvi h ho
    intro H locs ls ca c1 c2 b1 b2 hW hL
    exact lv_irem hx hb hd hne (k H locs ls ca c1 c2 b1 b2 hW hL)
  | ldiv =>
    obtain ⟨x, y, rest, rfl, hne, rfl, rfl, rfl, rfl, rfl⟩ := mj_x_dvl h ho
    intro H locs ls ca c1 c2 b1 b2 hW hL
    exact lv_ldiv hx hb hd hne (k H locs ls ca c1 c2 b1 b2 hW hL)
  | lrem =>
    obtain ⟨x, y, rest, rfl, hne, rfl, rfl, rfl, rfl, rfl⟩ := mj_x_dvl h ho
    intro H locs ls ca c1 c2 b1 b2 hW hL
    exact lv_lrem hx hb hd hne (k H locs ls ca c1 c2 b1 b2 hW hL)
  | ineg =>
    obtain ⟨x, rest, rfl, rfl, rfl, rfl, rfl, rfl⟩ := mj_x_un h
    intro H locs ls ca c1 c2 b1 b2 hW hL
    exact lv_ineg hx hb hd (k H locs ls ca c1 c2 b1 b2 hW hL)
  | i2b =>
    obtain ⟨x, rest, rfl, rfl, rfl, rfl, rfl, rfl⟩ := mj_x_un h
    intro H locs ls ca c1 c2 b1 b2 hW hL
    exact lv_i2b hx hb hd rfl (k H locs ls ca c1 c2 b1 b2 hW hL)
  | i2s =>
    obtain ⟨x, rest, rfl, rfl, rfl, rfl, rfl, rfl⟩ := mj_x_un h
    intro H locs ls ca c1 c2 b1 b2 hW hL
    exact lv_i2s hx hb hd rfl (k H locs ls ca c1 c2 b1 b2 hW hL)
  | i2l =>
    simp only [mj_x] at h
    split at h
    · next x rest =>
      obtain ⟨rfl, h4⟩ := mj_g_spec h
      cases h4
      intro H locs ls ca c1 c2 b1 b2 hW hL
      exact lv_i2l hx hb hd rfl (k H locs ls ca c1 c2 b1 b2 hW hL)
    · cases h
  | lcmp =>
    simp only [mj_x] at h
    split at h
    · next y x rest =>
      obtain ⟨rfl, h4⟩ := mj_g_spec h
      cases h4
      intro H locs ls ca c1 c2 b1 b2 hW hL
      exact W.lcmp hx hb hd (k H locs ls ca c1 c2 b1 b2 hW hL)
    · cases h
  | dup =>
    simp only [mj_x] at h
    split at h
    · next v rest =>
      obtain ⟨h1, h2⟩ := mj_if h
      obtain ⟨rfl, h4⟩ := mj_g_spec h2
      cases h4
      intro H locs ls ca c1 c2 b1 b2 hW hL
      exact lv_dup hx hb hd (by rw [mj_cv_cat]; exact Nat.eq_of_beq_eq_true h1) (k H locs ls ca c1 c2 b1 b2 hW hL)
    · cases h
  | dup2 =>
    simp only [mj_x] at h
    split at h
    · next v w rest =>
      obtain ⟨h1, h2⟩ := mj_if h
      obtain ⟨rfl, h4⟩ := mj_g_spec h2
      cases h4
      simp only [Bool.and_eq_true] at h1
      intro H locs ls ca c1 c2 b1 b2 hW hL
      exact lv_dup2_11 hx hb hd (by rw [mj_cv_cat]; exact Nat.eq_of_beq_eq_true h1.1) (by rw [mj_cv_cat]; exact Nat.eq_of_beq_eq_true h1.2) (k H locs ls ca c1 c2 b1 b2 hW hL)
    · cases h
  | goto off =>
    simp only [mj_x, mj_jmp] at h
    split at h
    · next t ht =>
      obtain ⟨rfl, h4⟩ := mj_g_spec h
      cases h4
      intro H locs ls ca c1 c2 b1 b2 hW hL
      exact lv_goto hx hb hd (mj_tg_spec ht) (k H locs ls ca c1 c2 b1 b2 hW hL)
    · cases h
  | getfield idx => exact mj_s_getf A0 hd h k
  | putfield idx => exact mj_s_putf A0 hd h ho k
  | iaload => exact mj_s_iald A0 hd h ho k
  | iastore => exact mj_s_iast A0 hd h ho k
  | aaload => exact mj_s_aald A0 hd h ho k
  | aastore => exact mj_s_aast A0 hd h ho k
  | arraylength => exact mj_s_alen A0 hd h k
  | new idx => exact mj_s_new A0 hd h k
  | newarray t =>
    cases t with
    | int => exact mj_s_newa A0 hd h k
    | _ =>
      have h2 : (none : Option mj_R1) = some (φ, pc', L', st', σ') := h
      cases h2
  | anewarray idx => exact mj_s_anew A0 hd h k
  | multianewarray idx d =>
    simp only [mj_x] at h
    obtain ⟨h1, h2⟩ := mj_if h
    have hd2 := Nat.eq_of_beq_eq_true h1
    subst hd2
    exact mj_s_mna A0 hd h2 k
  | invokespecial idx => exact mj_s_oin A0 hd h k
  | invokestatic idx => exact mj_s_sta A0 hd h ho k
  | tableswitch d lo hi offs => exact mj_s_tsw A0 hd h k
  | lookupswitch d ps => exact mj_s_lsw A0 hd h k
  | _ =>
    have h2 : (none : Option mj_R1) = some (φ, pc', L', st', σ') := h
    cases h2
theorem mj_ss (A : mj_At b base D z M p R s m args meth c) (h : mj_s M pc L st σ = some (φ, pc', L', st', σ')) (ho : mj_al φ) (k : mj_Go l b base D z M p e R s m args below meth c Qf pc' L' st' σ') : mj_Go l b base D z M p e R s m args below meth c Qf pc L st σ := by
  unfold mj_s at h
  split at h
  · next i n ht =>
    have hdec : mj_Dec M := A.2.2.2.2.2.2.2.2.2.2.2.2.2.2.2.1
    exact mj_xs A (hdec pc (i, n) ht) h ho k
  · cases h
theorem mj_al_app {φ ψ : List Prop} (h : mj_al (φ ++ ψ)) : mj_al φ ∧ mj_al ψ := by
  induction φ with
  | nil => exact ⟨trivial, h⟩
  | cons a φ ih => exact ⟨⟨h.1, (ih h.2).1⟩, (ih h.2).2⟩
theorem mj_runs (A : mj_At b base D z M p R s m args meth c) : ∀ (k : Nat) (pc : Nat) (L st : List Value) (σ : mj_S) (φ : List Prop), mj_run k M pc L st σ = some (φ, pc', L', st', σ') → mj_al φ → mj_Go l b base D z M p e R s m args below meth c Qf pc' L' st' σ' → mj_Go l b base D z M p e R s m args below meth c Qf pc L st σ := by
  intro k
  induction k with
  | zero =>
    intro pc L st σ φ h _ kk
    cases h
    exact kk
  | succ k ih =>
    intro pc L st σ φ h ho kk
    unfold mj_run at h
    split at h
    · next φ1 pc1 L1 st1 σ1 h1 =>
      split at h
      · next ψ r h2 =>
        cases h
        obtain ⟨o1, o2⟩ := mj_al_app ho
        exact mj_ss A h1 o1 (ih pc1 L1 st1 σ1 ψ h2 o2 kk)
      · cases h
    · cases h
end STEP8
