/-! new cells; native and special members; switches -/
section STEP6
variable {l : Launch} {b base : Nat} {D : va_G} {z : mj_K × (Int32 → Int32)} {M : mj_Md} {p : Program} {e : Env} {R : Room} {s : State} {m : MethodId} {args : Array Value} {below : List Frame} {meth : Method} {c : Code} {Qf : State → Prop} {pc pc' n : Nat} {L L' st st' : List Value} {σ σ' : mj_S} {φ : List Prop}
theorem mj_wl_app {ca ca2 : Nat → ClassId} {σ2 : mj_S} (h1 : σ2.1.1 = σ.1.1 + 1) (h : ∀ j, j ≤ σ.1.1 → mj_ce b base ca2 σ2.1.2.1 σ2.2.1 σ2.2.2 j = mj_ce b base ca σ.1.2.1 σ.2.1 σ.2.2 j) :
    mj_wl b base ca2 σ2 = mj_wl b base ca σ ++ [(mj_ad b base (σ.1.1 + 1), mj_ce b base ca2 σ2.1.2.1 σ2.2.1 σ2.2.2 (σ.1.1 + 1))] := by
  unfold mj_wl
  rw [h1, List.range_succ, List.map_append]
  congr 1
  apply List.map_congr_left
  intro k hk
  rw [h (k + 1) (List.mem_range.mp hk)]
theorem mj_app1 {ca ca2 : Nat → ClassId} {σ2 : mj_S} {H H1 : Heap} (h1 : σ2.1.1 = σ.1.1 + 1) (h : ∀ j, j ≤ σ.1.1 → mj_ce b base ca2 σ2.1.2.1 σ2.2.1 σ2.2.2 j = mj_ce b base ca σ.1.2.1 σ.2.1 σ.2.2 j)
    (hz : H.size = base + σ.1.1) (hP : va_P D vwCl (mj_wl b base ca σ) H) (o1 : ∀ q, q < base + σ.1.1 → H1[q]? = H[q]?) (hn : va_at D vwCl (mj_ad b base (σ.1.1 + 1), mj_ce b base ca2 σ2.1.2.1 σ2.2.1 σ2.2.2 (σ.1.1 + 1)) H1) : va_P D vwCl (mj_wl b base ca2 σ2) H1 := by
  rw [mj_wl_app h1 h]
  have hk : ∀ (k : Nat) (x : Nat × va_E), (mj_wl b base ca σ)[k]? = some x → H1[x.1]? = H[x.1]? := fun k x hx => o1 x.1 (by have := (hP k x hx).lt; omega)
  refine (hP.kept hk).app (fun k x hx => ?_)
  have hz1 : k < 1 := (List.getElem?_eq_some_iff.mp hx).1
  rw [show k = 0 by omega] at hx
  cases hx
  exact hn
theorem mj_S1 {H H1 : Heap} {locs : List Loc} (hz : H.size = base + σ.1.1) (hS : va_S (mj_A base) s.heap H locs) (hz1 : H.size ≤ H1.size) (o1 : ∀ q, q < base + σ.1.1 → H1[q]? = H[q]?) : va_S (mj_A base) s.heap H1 locs :=
  ⟨Nat.le_trans hS.1 hz1, fun x h1 h2 => (o1 x (by have := hS.1; omega)).trans (hS.2.1 x h1 h2), hS.2.2⟩
theorem mj_fit_spec {c0 s0 : Nat} (h : mj_fit σ c0 s0 = true) : σ.1.2.2.1.1 + c0 ≤ σ.1.2.2.2.1 ∧ σ.1.2.2.1.2 + s0 ≤ σ.1.2.2.2.2 := by
  simp only [mj_fit, Bool.and_eq_true] at h
  exact ⟨Nat.le_of_ble_eq_true h.1, Nat.le_of_ble_eq_true h.2⟩
theorem mj_add_old {kd : mj_K} {sl : Nat} {ca ca2 : Nat → ClassId} (hc : ∀ j, j ≤ σ.1.1 → ca2 j = ca j) : ∀ j, j ≤ σ.1.1 → mj_ce b base ca2 (mj_add σ kd sl).1.2.1 (mj_add σ kd sl).2.1 (mj_add σ kd sl).2.2 j = mj_ce b base ca σ.1.2.1 σ.2.1 σ.2.2 j := by
  intro j hj
  exact mj_ce_congr (mj_upK_ne (by omega)) (mj_rwI_ne (by omega)) (mj_rwP_ne (by omega)) (hc j hj)
theorem mj_add_KA {kd : mj_K} {sl : Nat} {ca ca2 : Nat → ClassId} (hc : ∀ j, j ≤ σ.1.1 → ca2 j = ca j) (h : mj_KA ca σ s) (hn : ∀ t N, kd = .inr (t, N) → ArrOfT s (ca2 (σ.1.1 + 1)) (mj_aty t) ∧ va_RA s (ca2 (σ.1.1 + 1)) (mj_aty t)) : mj_KA ca2 (mj_add σ kd sl) s := by
  intro k t N hk hkk
  have hk' : k < σ.1.1 + 1 := hk
  by_cases e1 : k = σ.1.1
  · subst e1
    have h2 : mj_upK σ.1.2.1 (σ.1.1 + 1) kd (σ.1.1 + 1) = .inr (t, N) := hkk
    rw [mj_upK_eq] at h2
    exact hn t N h2
  · have h2 : mj_upK σ.1.2.1 (σ.1.1 + 1) kd (k + 1) = .inr (t, N) := hkk
    rw [mj_upK_ne (by omega)] at h2
    rw [hc (k + 1) (by omega)]
    exact h k t N (by omega) h2
theorem mj_add_X {kd : mj_K} {sl : Nat} (h : σ.1.2.1 0 = z.1 ∧ σ.2.1 0 = z.2) : (mj_add σ kd sl).1.2.1 0 = z.1 ∧ (mj_add σ kd sl).2.1 0 = z.2 :=
  ⟨(show mj_upK σ.1.2.1 (σ.1.1 + 1) kd 0 = σ.1.2.1 0 from mj_upK_ne (by omega)).trans h.1, (show mj_rwI σ.2.1 (σ.1.1 + 1) (fun _ => 0) 0 = σ.2.1 0 from mj_rwI_ne (by omega)).trans h.2⟩
theorem mj_add_k {kd : mj_K} {sl : Nat} : (mj_add σ kd sl).1.2.1 (σ.1.1 + 1) = kd := mj_upK_eq
theorem mj_add_i {kd : mj_K} {sl : Nat} : (mj_add σ kd sl).2.1 (σ.1.1 + 1) = fun _ => 0 := mj_rwI_eq
theorem mj_add_p {kd : mj_K} {sl : Nat} : (mj_add σ kd sl).2.2 (σ.1.1 + 1) = fun _ => none := mj_rwP_eq
theorem mj_s_new {idx : Nat} (A : mj_At b base D z M p R s m args meth c) (hd : decode M.2.2.1 pc = .ok (.new idx, n)) (h : mj_new M.1 n idx pc L st σ = some (φ, pc', L', st', σ')) (k : mj_Go l b base D z M p e R s m args below meth c Qf pc' L' st' σ') : mj_Go l b base D z M p e R s m args below meth c Qf pc L st σ := by
  obtain ⟨hx, hb, hml, hr, hown, hts, hlk, hin, hfr, hlo, hK, hN, hAO, hbb, hbs, hdec, hsc⟩ := A
  unfold mj_new at h
  split at h
  · next ci he0 =>
    obtain ⟨h1, h2⟩ := mj_if h
    obtain ⟨rfl, h4⟩ := mj_g_spec h2
    cases h4
    obtain ⟨f1, f2⟩ := mj_fit_spec h1
    obtain ⟨hc, hlink⟩ := mj_pn_ok he0
    obtain ⟨hi1, hi2⟩ := mj_in_ok hc
    intro H locs ls ca c1 c2 b1 b2 hW hL
    obtain ⟨hz, hP, hKA, hS, hX⟩ := hW
    have hKn := hK.1 ci _ (mj_cl_get hc)
    refine W.newcK hx hb hown (hts _ hlink) (hts _ hi1) (hts _ hi2) rfl hd (by omega) (by omega) hKn.2.1 hz fun H1 kC hkC e1 z1 o1 => ?_
    refine k H1 locs ls ca f1 f2 b1 b2 ⟨by rw [z1]; show _ = base + (σ.1.1 + 1); omega, mj_app1 rfl (mj_add_old (fun _ _ => rfl)) hz hP o1 ?_, mj_add_KA (fun _ _ => rfl) hKA (fun t N q => by cases q), mj_S1 hz hS (by omega) o1, mj_add_X hX⟩ hL
    have hce : mj_ce b base ca (mj_add σ (.inl ci) (mj_nf ci)).1.2.1 (mj_add σ (.inl ci) (mj_nf ci)).2.1 (mj_add σ (.inl ci) (mj_nf ci)).2.2 (σ.1.1 + 1) = .inr (ci, (List.range (mj_nf ci)).map (mj_fv b base ci (fun _ => 0) (fun _ => none))) := by
      rw [mj_ce_O mj_add_k, mj_add_i, mj_add_p]
    rw [hce]
    refine ⟨_, mj_cl_get hc, (u_born (mj_ty ci) hts (mj_u_in hc) hKn hkC e1 (mj_ty_ok hc)).to (fun j hj => ?_)⟩
    obtain ⟨hj30, -, hty⟩ := mj_fd_ok hc hj
    simp only [vp_V, List.getD_eq_getElem?_getD, List.getElem?_map, List.getElem?_range hj, Option.map_some, Option.getD_some]
    unfold mj_fv
    rcases hty with ⟨t1, t2⟩ | ⟨t1, t2⟩ | ⟨t1, ⟨x, t2⟩ | ⟨x, t2⟩⟩ <;> rw [t1, t2] <;> rfl
  · cases h
theorem mj_s_newa (A : mj_At b base D z M p R s m args meth c) (hd : decode M.2.2.1 pc = .ok (.newarray .int, n)) (h : mj_newa n pc L st σ = some (φ, pc', L', st', σ')) (k : mj_Go l b base D z M p e R s m args below meth c Qf pc' L' st' σ') : mj_Go l b base D z M p e R s m args below meth c Qf pc L st σ := by
  obtain ⟨hx, hb, hml, hr, hown, hts, hlk, hin, hfr, hlo, hK, hN, hAO, hbb, hbs, hdec, hsc⟩ := A
  unfold mj_newa at h
  split at h
  · next x rest =>
    obtain ⟨h1, h2⟩ := mj_if h
    obtain ⟨rfl, h4⟩ := mj_g_spec h2
    cases h4
    simp only [Bool.and_eq_true, decide_eq_true_eq] at h1
    obtain ⟨h1, h5, h6⟩ := h1
    have h5 := Nat.le_of_ble_eq_true h5
    obtain ⟨f1, f2⟩ := mj_fit_spec h6
    intro H locs ls ca c1 c2 b1 b2 hW hL
    obtain ⟨hz, hP, hKA, hS, hX⟩ := hW
    refine va_newaK (atype := .int) hx hb (hts _ (mj_w_in mj_f_arrc)) rfl hd rfl h1 rfl h5 (by omega) (by omega) hz fun H1 cA e1 z1 o1 hAr hNm => ?_
    refine k H1 locs ls (fun j => if j = σ.1.1 + 1 then cA else ca j) f1 f2 b1 b2 ⟨by rw [z1]; show _ = base + (σ.1.1 + 1); omega, mj_app1 rfl (mj_add_old (ca := ca) (fun j hj => if_neg (by omega))) hz hP o1 ?_, mj_add_KA (ca := ca) (fun j hj => if_neg (by omega)) hKA (fun t N q => ?_), mj_S1 hz hS (by omega) o1, mj_add_X hX⟩ hL
    · rw [mj_ce_A mj_add_k, mj_add_i]
      show H1[base + σ.1.1]? = some (vp_cell _ _)
      rw [e1, vp_cell_i, if_pos rfl]
      congr 2
      funext j
      show Value.int 0 = Value.int (if j < x.toNatClampNeg then 0 else 0)
      split <;> rfl
    · cases q
      rw [if_pos rfl]
      exact ⟨hAr, hNm⟩
  · cases h
theorem mj_s_anew {idx : Nat} (A : mj_At b base D z M p R s m args meth c) (hd : decode M.2.2.1 pc = .ok (.anewarray idx, n)) (h : mj_anew M.1 n idx pc L st σ = some (φ, pc', L', st', σ')) (k : mj_Go l b base D z M p e R s m args below meth c Qf pc' L' st' σ') : mj_Go l b base D z M p e R s m args below meth c Qf pc L st σ := by
  obtain ⟨hx, hb, hml, hr, hown, hts, hlk, hin, hfr, hlo, hK, hN, hAO, hbb, hbs, hdec, hsc⟩ := A
  unfold mj_anew at h
  split at h
  · next x rest =>
    obtain ⟨h1, h2⟩ := mj_if h
    obtain ⟨rfl, h4⟩ := mj_g_spec h2
    cases h4
    simp only [Bool.and_eq_true, decide_eq_true_eq] at h1
    obtain ⟨h0, h1, h5, h6⟩ := h1
    have h5 := Nat.le_of_ble_eq_true h5
    obtain ⟨f1, f2⟩ := mj_fit_spec h6
    obtain ⟨hc, hlink⟩ := mj_pn_ok h0
    intro H locs ls ca c1 c2 b1 b2 hW hL
    obtain ⟨hz, hP, hKA, hS, hX⟩ := hW
    refine W.anew (C := RX4) hx hb hown (hts _ hlink) (va_AO.use hAO.1) rfl hd rfl h1 h5 (by omega) (by omega) fun cA kA comp g1 g2 g3 g4 => ?_
    generalize hH1 : H.push ({ cls := cA, slots := Array.replicate x.toNatClampNeg .null, vm := .none } : Cell) = H1
    have z1 : H1.size = H.size + 1 := by rw [← hH1, Array.size_push]
    have e1 : H1[H.size]? = some (arrV cA x.toNatClampNeg (fun _ => .null)) := by rw [← hH1, Array.getElem?_push_size, ← arrV_new]
    have o1 : ∀ q : Nat, q < base + σ.1.1 → H1[q]? = H[q]? := fun q hq => by rw [← hH1, Array.getElem?_push, if_neg (by omega)]
    have hAr : ArrOfT s cA (.object RX4) := fun N9 z9 => ⟨(fun k h => by cases h), kA, g2, comp, g3⟩
    have kk := k H1 locs ls (fun j => if j = σ.1.1 + 1 then cA else ca j) f1 f2 b1 b2 ⟨by rw [z1, hz]; rfl, mj_app1 rfl (mj_add_old (ca := ca) (fun j hj => if_neg (by omega))) hz hP o1 ?_, mj_add_KA (ca := ca) (fun j hj => if_neg (by omega)) hKA (fun t N q => ?_), mj_S1 hz hS (by omega) o1, mj_add_X hX⟩ hL
    · rw [hz]
      exact kk
    · rw [mj_ce_Q mj_add_k, mj_add_p]
      show H1[base + σ.1.1]? = some (vp_cell _ _)
      rw [← hz, e1, vp_cell_q, if_pos rfl]
      congr 2
      funext j
      show Value.null = va_rf (if j < x.toNatClampNeg then none else none)
      split <;> rfl
    · cases q
      rw [if_pos rfl]
      exact ⟨hAr, kA, comp, g2, g3, g4, g1⟩
  · cases h
theorem mj_cs_cv (st : List Value) : ((st.map (mj_cv b base)).map fun v => v.category).sum = mj_cs st := by
  unfold mj_cs
  rw [List.map_map]
  congr 1
  apply List.map_congr_left
  intro v _
  exact mj_cv_cat b base v
theorem mj_s_oin {idx : Nat} (A : mj_At b base D z M p R s m args meth c) (hd : decode M.2.2.1 pc = .ok (.invokespecial idx, n)) (h : mj_oin M n idx pc L st σ = some (φ, pc', L', st', σ')) (k : mj_Go l b base D z M p e R s m args below meth c Qf pc' L' st' σ') : mj_Go l b base D z M p e R s m args below meth c Qf pc L st σ := by
  obtain ⟨hx, hb, hml, hr, hown, hts, hlk, hin, hfr, hlo, hK, hN, hAO, hbb, hbs, hdec, hsc⟩ := A
  unfold mj_oin at h
  split at h
  · next a rest =>
    obtain ⟨h1, h2⟩ := mj_if h
    obtain ⟨rfl, h4⟩ := mj_g_spec h2
    cases h4
    simp only [Bool.and_eq_true] at h1
    obtain ⟨h1, h5, h6⟩ := h1
    have h5 := Nat.le_of_ble_eq_true h5
    have h6 := Nat.le_of_ble_eq_true h6
    intro H locs ls ca c1 c2 b1 b2 hW hL
    refine W.objInit hx hb hown (hts _ (mj_po_ok h1)) (hts _ (mj_w_in mj_f_obji)) (hts _ (mj_w_in mj_f_objc)) rfl (by rw [hml]; exact hL.1.1) rfl hd (by omega) (by rw [mj_cs_cv]; show 2 * 0 + _ + 12 ≤ _; omega) ?_
    exact k H locs ls ca c1 c2 b1 b2 hW hL
  · cases h
theorem mj_s_tsw {d lo hi : Int} {offs : Array Int} (A : mj_At b base D z M p R s m args meth c) (hd : decode M.2.2.1 pc = .ok (.tableswitch d lo hi offs, n)) (h : mj_tsw pc d lo hi offs L st σ = some (φ, pc', L', st', σ')) (k : mj_Go l b base D z M p e R s m args below meth c Qf pc' L' st' σ') : mj_Go l b base D z M p e R s m args below meth c Qf pc L st σ := by
  obtain ⟨hx, hb, hml, hr, hown, hts, hlk, hin, hfr, hlo, hK, hN, hAO, hbb, hbs, hdec, hsc⟩ := A
  unfold mj_tsw at h
  split at h
  · next x rest =>
    cases e1 : (decide (x.toInt < lo) || decide (hi < x.toInt)) with
    | true =>
      rw [e1, cond_true] at h
      simp only [Bool.or_eq_true, decide_eq_true_eq] at e1
      split at h
      · next t ht =>
        cases h
        intro H locs ls ca c1 c2 b1 b2 hW hL
        exact lv_tableOut hx hb hd e1 (mj_tg_spec ht) (k H locs ls ca c1 c2 b1 b2 hW hL)
      · cases h
    | false =>
      rw [e1, cond_false] at h
      simp only [Bool.or_eq_false_iff, decide_eq_false_iff_not] at e1
      split at h
      · next o ho =>
        split at h
        · next t ht =>
          cases h
          intro H locs ls ca c1 c2 b1 b2 hW hL
          exact lv_tableIn hx hb hd e1.1 e1.2 ho (mj_tg_spec ht) (k H locs ls ca c1 c2 b1 b2 hW hL)
        · cases h
      · cases h
  · cases h
theorem mj_s_lsw {d : Int} {ps : Array (Int × Int)} (A : mj_At b base D z M p R s m args meth c) (hd : decode M.2.2.1 pc = .ok (.lookupswitch d ps, n)) (h : mj_lsw pc d ps L st σ = some (φ, pc', L', st', σ')) (k : mj_Go l b base D z M p e R s m args below meth c Qf pc' L' st' σ') : mj_Go l b base D z M p e R s m args below meth c Qf pc L st σ := by
  obtain ⟨hx, hb, hml, hr, hown, hts, hlk, hin, hfr, hlo, hK, hN, hAO, hbb, hbs, hdec, hsc⟩ := A
  unfold mj_lsw at h
  split at h
  · next x rest =>
    obtain ⟨h1, h2⟩ := mj_if h
    split at h2
    · next t ht =>
      cases h2
      intro H locs ls ca c1 c2 b1 b2 hW hL
      exact lv_lookup hx hb hd h1 rfl (mj_tg_spec ht) (k H locs ls ca c1 c2 b1 b2 hW hL)
    · cases h2
  · cases h
end STEP6
