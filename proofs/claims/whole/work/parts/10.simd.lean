/-! instructions on cells -/
theorem mj_upI_ne {I : mj_I} {a k : Nat} {i v : Int32} (h : k ≠ a) : mj_upI I a i v k = I k := by
  funext y
  have : Nat.beq k a = false := by cases e : Nat.beq k a with | false => rfl | true => exact absurd (Nat.eq_of_beq_eq_true e) h
  simp only [mj_upI, this, cond_false]
theorem mj_upI_eq {I : mj_I} {a : Nat} {i v y : Int32} : mj_upI I a i v a y = if y = i then v else I a y := by
  simp only [mj_upI, Nat.beq_refl, cond_true]
theorem mj_upP_ne {P : mj_P} {a k : Nat} {i : Int32} {v : Option Nat} (h : k ≠ a) : mj_upP P a i v k = P k := by
  funext y
  have : Nat.beq k a = false := by cases e : Nat.beq k a with | false => rfl | true => exact absurd (Nat.eq_of_beq_eq_true e) h
  simp only [mj_upP, this, cond_false]
theorem mj_upP_eq {P : mj_P} {a : Nat} {i y : Int32} {v : Option Nat} : mj_upP P a i v a y = if y = i then v else P a y := by
  simp only [mj_upP, Nat.beq_refl, cond_true]
theorem mj_rwI_ne {I : mj_I} {a k : Nat} {g : Int32 → Int32} (h : k ≠ a) : mj_rwI I a g k = I k := by
  funext y
  have : Nat.beq k a = false := by cases e : Nat.beq k a with | false => rfl | true => exact absurd (Nat.eq_of_beq_eq_true e) h
  simp only [mj_rwI, this, cond_false]
theorem mj_rwI_eq {I : mj_I} {a : Nat} {g : Int32 → Int32} : mj_rwI I a g a = g := by
  funext y
  simp only [mj_rwI, Nat.beq_refl, cond_true]
theorem mj_rwP_ne {P : mj_P} {a k : Nat} {g : Int32 → Option Nat} (h : k ≠ a) : mj_rwP P a g k = P k := by
  funext y
  have : Nat.beq k a = false := by cases e : Nat.beq k a with | false => rfl | true => exact absurd (Nat.eq_of_beq_eq_true e) h
  simp only [mj_rwP, this, cond_false]
theorem mj_rwP_eq {P : mj_P} {a : Nat} {g : Int32 → Option Nat} : mj_rwP P a g a = g := by
  funext y
  simp only [mj_rwP, Nat.beq_refl, cond_true]
theorem mj_upK_ne {K : Nat → mj_K} {a k : Nat} {v : mj_K} (h : k ≠ a) : mj_upK K a v k = K k := by
  have : Nat.beq k a = false := by cases e : Nat.beq k a with | false => rfl | true => exact absurd (Nat.eq_of_beq_eq_true e) h
  simp only [mj_upK, this, cond_false]
theorem mj_upK_eq {K : Nat → mj_K} {a : Nat} {v : mj_K} : mj_upK K a v a = v := by
  simp only [mj_upK, Nat.beq_refl, cond_true]
theorem mj_ce_O {b base : Nat} {ca : Nat → ClassId} {K : Nat → mj_K} {I : mj_I} {P : mj_P} {k ci : Nat} (h : K k = .inl ci) : mj_ce b base ca K I P k = .inr (ci, (List.range (mj_nf ci)).map (mj_fv b base ci (I k) (P k))) := by
  unfold mj_ce
  rw [h]
theorem mj_ce_A {b base : Nat} {ca : Nat → ClassId} {K : Nat → mj_K} {I : mj_I} {P : mj_P} {k n : Nat} (h : K k = .inr (0, n)) : mj_ce b base ca K I P k = .inl (ca k, n, .inl (fun j => if j < n then I k (nI j) else 0)) := by
  unfold mj_ce
  rw [h]
theorem mj_ce_Q {b base : Nat} {ca : Nat → ClassId} {K : Nat → mj_K} {I : mj_I} {P : mj_P} {k n t : Nat} (h : K k = .inr (t + 1, n)) : mj_ce b base ca K I P k = .inl (ca k, n, .inr (.inr (.inr (.inr (fun j => if j < n then (P k (nI j)).map (mj_ad b base) else none))))) := by
  unfold mj_ce
  rw [h]
theorem mj_ce_congr {b base : Nat} {ca ca' : Nat → ClassId} {K K' : Nat → mj_K} {I I' : mj_I} {P P' : mj_P} {k : Nat} (h1 : K' k = K k) (h2 : I' k = I k) (h3 : P' k = P k) (h4 : ca' k = ca k) : mj_ce b base ca' K' I' P' k = mj_ce b base ca K I P k := by
  unfold mj_ce
  rw [h1, h2, h3, h4]
theorem mj_fset {N f : Nat} {g g' : Nat → Value} {v : Value} (h1 : g' f = v) (h2 : ∀ j, j < N → j ≠ f → g' j = g j) (hf : f < N) : ((List.range N).map g).set f v = (List.range N).map g' := by
  apply List.ext_getElem?
  intro j
  by_cases hj : j = f
  · subst hj
    rw [List.getElem?_set_self (by rw [List.length_map, List.length_range]; exact hf), List.getElem?_map, List.getElem?_range hf, ← h1]
    rfl
  · rw [List.getElem?_set_ne (Ne.symm hj), List.getElem?_map, List.getElem?_map]
    by_cases hl : j < N
    · rw [List.getElem?_range hl]
      simp only [Option.map_some, h2 j hl hj]
    · rw [List.getElem?_eq_none (by rw [List.length_range]; omega)]
      rfl
section STEP4
variable {l : Launch} {b base : Nat} {D : va_G} {z : mj_K × (Int32 → Int32)} {M : mj_Md} {p : Program} {e : Env} {R : Room} {s : State} {m : MethodId} {args : Array Value} {below : List Frame} {meth : Method} {c : Code} {Qf : State → Prop} {pc pc' n : Nat} {L L' st st' : List Value} {σ σ' : mj_S} {φ : List Prop}
theorem mj_s_getf {idx : Nat} (A : mj_At b base D z M p R s m args meth c) (hd : decode M.2.2.1 pc = .ok (.getfield idx, n)) (h : mj_getf M.1 n idx pc L st σ = some (φ, pc', L', st', σ')) (k : mj_Go l b base D z M p e R s m args below meth c Qf pc' L' st' σ') : mj_Go l b base D z M p e R s m args below meth c Qf pc L st σ := by
  obtain ⟨hx, hb, hml, hr, hown, hts, hlk, hin, hfr, hlo, hK, hN, hAO, hbb, hbs, hdec, hsc⟩ := A
  unfold mj_getf at h
  split at h
  · next a rest ci f he0 =>
    obtain ⟨h1, h2⟩ := mj_if h
    obtain ⟨rfl, h4⟩ := mj_g_spec h2
    cases h4
    obtain ⟨h5, h6⟩ := mj_isO_spec h1
    obtain ⟨q, rfl, hq⟩ := mj_hs_spec h5
    obtain ⟨hc, hf, hlink⟩ := mj_pf_ok he0
    obtain ⟨hf30, hT, hty⟩ := mj_fd_ok hc hf
    intro H locs ls ca c1 c2 b1 b2 hW hL
    have hW0 := hW
    obtain ⟨hz, hP, hKA, hS, hX⟩ := hW
    have he := mj_wl_get (b := b) (base := base) (ca := ca) hq
    rw [mj_ce_O h6] at he
    have hv : ((List.range (mj_nf ci)).map (mj_fv b base ci (σ.2.1 (q + 1)) (σ.2.2 (q + 1))))[f]? = some (mj_fv b base ci (σ.2.1 (q + 1)) (σ.2.2 (q + 1)) f) := by
      rw [List.getElem?_map, List.getElem?_range hf]
      rfl
    have hvv : mj_cv b base (bif Nat.beq (mj_ft ci f) 2 then mj_rv (σ.2.2 (q + 1) (nI f)) else .int (σ.2.1 (q + 1) (nI f))) = mj_fv b base ci (σ.2.1 (q + 1)) (σ.2.2 (q + 1)) f := by
      unfold mj_fv
      cases Nat.beq (mj_ft ci f) 2
      · rfl
      · cases σ.2.2 (q + 1) (nI f) <;> rfl
    have kk := k H locs ls ca c1 c2 b1 b2 hW0 hL
    rw [List.map_cons, hvv] at kk
    rcases hlink with ⟨-, hw⟩ | ⟨host, -, hw⟩
    · exact va_get (D := D) (cl := vwCl) (C := mj_R ci) (T := mj_T ci) (N := mj_nf ci) hx hb hts (mj_u_in hc) hown hK hP q he (mj_cl_get hc) f hf (hts _ hw) (fun x hx => by rw [hT] at hx; exact hx) hv hd kk
    · exact va_getN (D := D) (cl := vwCl) (C := mj_R ci) (T := mj_T ci) (N := mj_nf ci) hx hb hts (mj_u_in hc) hown hK hP q he (mj_cl_get hc) f hf (va_Nw.use rfl (hN _ hw)) (fun x hx => by rw [hT] at hx; exact hx) hv hd kk
  · cases h
theorem mj_put_core {idx q ci f : Nat} {pv : Value} {rest : List Value} {σ2 : mj_S} (A : mj_At b base D z M p R s m args meth c) (hd : decode M.2.2.1 pc = .ok (.putfield idx, 3)) (hq : q < σ.1.1) (h6 : σ.1.2.1 (q + 1) = .inl ci) (hpf : mj_pf M.1 idx = some (ci, f)) (hwr : mj_wr M idx ci f = true)
    (hn : narrow (mj_ty ci f) (mj_cv b base pv) = mj_cv b base pv) (hfit : fits (mj_ty ci f) (mj_cv b base pv) = true)
    (h1 : σ2.1 = σ.1) (hI0 : σ2.2.1 0 = σ.2.1 0) (hce : ∀ ca : Nat → ClassId, (mj_wl b base ca σ).set q (mj_ad b base (q + 1), .inr (ci, ((List.range (mj_nf ci)).map (mj_fv b base ci (σ.2.1 (q + 1)) (σ.2.2 (q + 1)))).set f (mj_cv b base pv))) = mj_wl b base ca σ2)
    (k : mj_Go l b base D z M p e R s m args below meth c Qf (pc + 3) L rest σ2) : mj_Go l b base D z M p e R s m args below meth c Qf pc L (pv :: .ref (q + 1) :: rest) σ := by
  obtain ⟨hx, hb, hml, hr, hown, hts, hlk, hin, hfr, hlo, hK, hN, hAO, hbb, hbs, hdec, hsc⟩ := A
  obtain ⟨hc, hf, hlink⟩ := mj_pf_ok hpf
  obtain ⟨hf30, hT, hty⟩ := mj_fd_ok hc hf
  intro H locs ls ca c1 c2 b1 b2 hW hL
  obtain ⟨hz, hP, hKA, hS, hX⟩ := hW
  have he := mj_wl_get (b := b) (base := base) (ca := ca) hq
  rw [mj_ce_O h6] at he
  have hpd := mj_ty_ok hc f hf
  have hlen : f < ((List.range (mj_nf ci)).map (mj_fv b base ci (σ.2.1 (q + 1)) (σ.2.2 (q + 1)))).length := by rw [List.length_map, List.length_range]; exact hf
  have hsz : ∀ (H1 : Heap) (locs1 : List Loc), va_P D vwCl ((mj_wl b base ca σ).set q (mj_ad b base (q + 1), .inr (ci, ((List.range (mj_nf ci)).map (mj_fv b base ci (σ.2.1 (q + 1)) (σ.2.2 (q + 1)))).set f (mj_cv b base pv)))) H1 → H1.size = H.size → va_S (mj_A base) s.heap H1 locs1 → mj_Wd b base D z ca σ2 s H1 locs1 := by
    intro H1 locs1 hP1 hz1 hS1
    rw [hce ca] at hP1
    refine ⟨by rw [hz1, hz, h1], hP1, ?_, hS1, ?_⟩
    · unfold mj_KA
      rw [h1]
      exact hKA
    · rw [h1, hI0]
      exact hX
  have kg : ∀ (H1 : Heap) (locs1 : List Loc), H1.size = H.size → va_P D vwCl ((mj_wl b base ca σ).set q (mj_ad b base (q + 1), .inr (ci, ((List.range (mj_nf ci)).map (mj_fv b base ci (σ.2.1 (q + 1)) (σ.2.2 (q + 1)))).set f (mj_cv b base pv)))) H1 → va_S (mj_A base) s.heap H1 locs1 → W p l e R s m args below meth c H1 locs1 σ.1.2.2.1.1 σ.1.2.2.1.2 Qf (F0 m (pc + 3) ls (rest.map (mj_cv b base))) := by
    intro H1 locs1 hz1 hP1 hS1
    have kk := k H1 locs1 ls ca
    rw [h1] at kk
    exact kk c1 c2 b1 b2 (hsz H1 locs1 hP1 hz1 hS1) hL
  have hap := va_apart (own := mj_R M.1) hts (mj_u_in hc) (mj_ty ci) (mj_ty_ok hc) (mj_nm_ok hc) hK (mj_cl_get hc)
  obtain ⟨r, g1, cell, q1, q2, q3, q4⟩ := hP q _ he
  have hr' : r = (mj_R ci, mj_T ci, mj_nf ci) := Option.some.inj (g1.symm.trans (mj_cl_get hc))
  subst hr'
  obtain ⟨hSl, hfc, kC, hkC, hkind⟩ := hK.1 ci _ (mj_cl_get hc)
  obtain ⟨cf, kf, fi, fd, hi, hsl⟩ := hSl f hf
  have hst := (u_facts hfc hkC (u_lays hts (mj_u_in hc) hf) hi).1
  have hlay := hts _ (mj_u_in hc _ (u_in_lay hf))
  have hsame : s.fieldFound? (mj_R ci) (mj_T ci f).2.1 (mj_T ci f).2.2.1 = some (cf, kf, fi, fd) := by rw [← hT]; exact hi
  have hslot : fd.slot < cell.slots.size := by rw [hsl]; exact k2_hasslot (q4 f hf)
  have fin : ∀ H' : Heap, H'[mj_ad b base (q + 1)]? = some (cell.setSlot fd.slot (mj_cv b base pv)) → (∀ x, x ≠ mj_ad b base (q + 1) → H'[x]? = H[x]?) → va_P D vwCl ((mj_wl b base ca σ).set q (mj_ad b base (q + 1), .inr (ci, ((List.range (mj_nf ci)).map (mj_fv b base ci (σ.2.1 (q + 1)) (σ.2.2 (q + 1)))).set f (mj_cv b base pv)))) H' := by
    intro H' e1 e3
    rw [hsl] at e1
    exact hP.set mj_wl_D he ⟨_, mj_cl_get hc, t_OB.to (V := updV (vp_V ((List.range (mj_nf ci)).map (mj_fv b base ci (σ.2.1 (q + 1)) (σ.2.2 (q + 1))))) f (mj_cv b base pv)) ⟨_, e1, q2, q3, t_set q4 hap hf _⟩ (fun j _ => vp_updV_set hlen _ j)⟩ e3
  by_cases hfin : (mj_T ci f).2.2.2 = true
  · have hw := hwr
    unfold mj_wr at hw
    rw [hfin] at hw
    simp only [cond_true, Bool.and_eq_true, decide_eq_true_eq] at hw
    obtain ⟨w1, w2, w3⟩ := hw
    have w2 := Nat.eq_of_beq_eq_true w2
    rcases hlink with ⟨-, hw⟩ | ⟨host, hho, hw⟩
    · unfold u_lay at hlay
      rw [if_pos hfin] at hlay
      have hcf : m.cls = cf := by
        obtain ⟨_, _, c', _, _, _, -, -, hf', -, -, -, hown2, -⟩ := Cond.laysFinal_spec hlay
        have e1 : c' = cf := by have := hi.symm.trans hf'; simp at this; exact this.1.symm
        rw [hT, ← w2] at hown2
        rw [← e1]; exact Option.some.inj (hown.symm.trans hown2)
      have h6' := u_fits hfc hkC hkind (Or.inr hlay) hi hpd hn hfit
      refine W.putFinK hx hb hown (hts _ hw) hsame hst hcf (hin w1) (by rw [q2]; exact h6') q1 q3 hslot rfl rfl hd fun H' e1 e2 e3 => ?_
      exact kg H' _ e2 (fin H' e1 e3) (hS.put e2 e3 (mj_wl_D.2 q _ he))
    · rw [hho] at w3
      cases w3
  · have hfin' : (mj_T ci f).2.2.2 = false := by cases e9 : (mj_T ci f).2.2.2 with | false => rfl | true => exact absurd e9 hfin
    unfold u_lay at hlay
    rw [if_neg (by rw [hfin']; decide)] at hlay
    have h6' := u_store hfc hkC hkind hlay hi hpd hn hfit
    rcases hlink with ⟨-, hw⟩ | ⟨host, hho, hw⟩
    · refine W.putK hx hb (f := fd) ⟨hown, hts _ hw, ⟨_, _, _, hsame⟩, hst⟩ (by rw [q2]; exact h6') q1 q3 hslot rfl rfl hd fun H' e1 e2 e3 => ?_
      exact kg H' _ e2 (fin H' e1 e3) (hS.put e2 e3 (mj_wl_D.2 q _ he))
    · refine va_WputK hx hb hown (va_Nw.use rfl (hN _ hw)) hsame hst (by rw [q2]; exact h6') q1 q3 hslot rfl rfl hd fun H' e1 e2 e3 => ?_
      exact kg H' _ e2 (fin H' e1 e3) (hS.put e2 e3 (mj_wl_D.2 q _ he))
theorem mj_nI_ne {i j : Nat} (hi : i < 30) (hj : j < 30) (h : i ≠ j) : ¬ nI i = nI j := fun q => h ((nI_eq (by omega) (by omega)).mp q)
theorem mj_s_putf {idx : Nat} (A : mj_At b base D z M p R s m args meth c) (hd : decode M.2.2.1 pc = .ok (.putfield idx, n)) (h : mj_putf M n idx pc L st σ = some (φ, pc', L', st', σ')) (ho : mj_al φ) (k : mj_Go l b base D z M p e R s m args below meth c Qf pc' L' st' σ') : mj_Go l b base D z M p e R s m args below meth c Qf pc L st σ := by
  unfold mj_putf at h
  split at h
  · next v a rest ci f hpf =>
    obtain ⟨h1, h2⟩ := mj_if h
    simp only [Bool.and_eq_true] at h1
    obtain ⟨h5, h6⟩ := mj_isO_spec h1.1
    obtain ⟨q, rfl, hq⟩ := mj_hs_spec h5
    obtain ⟨hc, hf, hlink⟩ := mj_pf_ok hpf
    obtain ⟨hf30, hT, hty⟩ := mj_fd_ok hc hf
    have hwl : mj_ft ci f ≠ 2 → ∀ ca : Nat → ClassId, (mj_wl b base ca σ).set q (mj_ad b base (q + 1), .inr (ci, ((List.range (mj_nf ci)).map (mj_fv b base ci (σ.2.1 (q + 1)) (σ.2.2 (q + 1)))).set f (mj_cv b base (.int v)))) = mj_wl b base ca (σ.1, mj_upI σ.2.1 (q + 1) (nI f) v, σ.2.2) := by
      intro h2f ca
      rw [← mj_wl_set (σ' := (σ.1, mj_upI σ.2.1 (q + 1) (nI f) v, σ.2.2)) hq rfl (fun j hj => mj_ce_congr rfl (mj_upI_ne hj) rfl rfl)]
      rw [mj_ce_O (K := σ.1.2.1) (k := q + 1) h6]
      rw [mj_fset (g' := mj_fv b base ci (mj_upI σ.2.1 (q + 1) (nI f) v (q + 1)) (σ.2.2 (q + 1))) ?_ ?_ hf]
      · unfold mj_fv
        have : Nat.beq (mj_ft ci f) 2 = false := by cases e9 : Nat.beq (mj_ft ci f) 2 with | false => rfl | true => exact absurd (Nat.eq_of_beq_eq_true e9) h2f
        rw [this, cond_false, mj_upI_eq, if_pos rfl]
        rfl
      · intro j hj hjf
        unfold mj_fv
        rw [mj_upI_eq, if_neg (mj_nI_ne (mj_fd_ok hc hj).1 hf30 hjf)]
    cases e0 : Nat.beq (mj_ft ci f) 0 with
    | true =>
      rw [e0, cond_true] at h2
      obtain ⟨rfl, h4⟩ := mj_g_spec h2
      cases h4
      have hz := Nat.eq_of_beq_eq_true e0
      have htyi : mj_ty ci f = .int := by rcases hty with g | g | g <;> first | exact g.2 | (rw [hz] at g; exact absurd g.1 (by decide))
      exact mj_put_core (σ2 := (σ.1, mj_upI σ.2.1 (q + 1) (nI f) v, σ.2.2)) A hd hq h6 hpf h1.2 (pv := .int v) (by rw [htyi]; rfl) (by rw [htyi]; rfl) rfl (by show mj_upI σ.2.1 (q + 1) (nI f) v 0 = σ.2.1 0; exact mj_upI_ne (by omega)) (hwl (by rw [hz]; decide)) k
    | false =>
      rw [e0, cond_false] at h2
      cases e1 : Nat.beq (mj_ft ci f) 1 with
      | true =>
        rw [e1, cond_true] at h2
        obtain ⟨rfl, h4⟩ := mj_g_spec h2
        cases h4
        have hz := Nat.eq_of_beq_eq_true e1
        have htyi : mj_ty ci f = .boolean := by rcases hty with g | g | g <;> first | exact g.2 | (rw [hz] at g; exact absurd g.1 (by decide))
        have hv : v = 0 ∨ v = 1 := ho.1
        exact mj_put_core (σ2 := (σ.1, mj_upI σ.2.1 (q + 1) (nI f) v, σ.2.2)) A hd hq h6 hpf h1.2 (pv := .int v) (by rw [htyi]; rcases hv with rfl | rfl <;> rfl) (by rw [htyi]; rcases hv with rfl | rfl <;> rfl) rfl (by show mj_upI σ.2.1 (q + 1) (nI f) v 0 = σ.2.1 0; exact mj_upI_ne (by omega)) (hwl (by rw [hz]; decide)) k
      | false =>
        rw [e1, cond_false] at h2
        cases h2
  · next v a rest ci f hpf =>
    obtain ⟨h1, h2⟩ := mj_if h
    simp only [Bool.and_eq_true] at h1
    obtain ⟨h5, h6⟩ := mj_isO_spec h1.1
    obtain ⟨q, rfl, hq⟩ := mj_hs_spec h5
    obtain ⟨hc, hf, hlink⟩ := mj_pf_ok hpf
    obtain ⟨hf30, hT, hty⟩ := mj_fd_ok hc hf
    obtain ⟨h7, h8⟩ := mj_if h2
    obtain ⟨rfl, h4⟩ := mj_g_spec h8
    cases h4
    have hz := Nat.eq_of_beq_eq_true h7
    have htyi : (∃ n, mj_ty ci f = .object n) ∨ ∃ t, mj_ty ci f = .array t := by rcases hty with g | g | g <;> first | exact g.2 | (rw [hz] at g; exact absurd g.1 (by decide))
    have hwl : ∀ ca : Nat → ClassId, (mj_wl b base ca σ).set q (mj_ad b base (q + 1), .inr (ci, ((List.range (mj_nf ci)).map (mj_fv b base ci (σ.2.1 (q + 1)) (σ.2.2 (q + 1)))).set f (mj_cv b base (.ref v)))) = mj_wl b base ca (σ.1, σ.2.1, mj_upP σ.2.2 (q + 1) (nI f) (some v)) := by
      intro ca
      rw [← mj_wl_set (σ' := (σ.1, σ.2.1, mj_upP σ.2.2 (q + 1) (nI f) (some v))) hq rfl (fun j hj => mj_ce_congr rfl rfl (mj_upP_ne hj) rfl)]
      rw [mj_ce_O (K := σ.1.2.1) (k := q + 1) h6]
      rw [mj_fset (g' := mj_fv b base ci (σ.2.1 (q + 1)) (mj_upP σ.2.2 (q + 1) (nI f) (some v) (q + 1))) ?_ ?_ hf]
      · unfold mj_fv
        rw [h7, cond_true, mj_upP_eq, if_pos rfl]
        rfl
      · intro j hj hjf
        unfold mj_fv
        rw [mj_upP_eq, if_neg (mj_nI_ne (mj_fd_ok hc hj).1 hf30 hjf)]
    refine mj_put_core (σ2 := (σ.1, σ.2.1, mj_upP σ.2.2 (q + 1) (nI f) (some v))) A hd hq h6 hpf h1.2 (pv := .ref v) ?_ ?_ rfl rfl hwl k
    · rcases htyi with ⟨x, hx⟩ | ⟨x, hx⟩ <;> rw [hx] <;> rfl
    · rcases htyi with ⟨x, hx⟩ | ⟨x, hx⟩ <;> rw [hx] <;> rfl
  · cases h
end STEP4
