/-! arrays -/
section STEP5
variable {l : Launch} {b base : Nat} {D : va_G} {z : mj_K × (Int32 → Int32)} {M : mj_Md} {p : Program} {e : Env} {R : Room} {s : State} {m : MethodId} {args : Array Value} {below : List Frame} {meth : Method} {c : Code} {Qf : State → Prop} {pc pc' n : Nat} {L L' st st' : List Value} {σ σ' : mj_S} {φ : List Prop}
theorem mj_in_lt {i : Int32} {N : Nat} (h : mj_in i N) : i.toNatClampNeg < N := by
  have h1 : i.toNatClampNeg = i.toInt.toNat := rfl
  obtain ⟨h2, h3⟩ := h
  omega
theorem mj_s_iald (A : mj_At b base D z M p R s m args meth c) (hd : decode M.2.2.1 pc = .ok (.iaload, n)) (h : mj_iald n pc L st σ = some (φ, pc', L', st', σ')) (ho : mj_al φ) (k : mj_Go l b base D z M p e R s m args below meth c Qf pc' L' st' σ') : mj_Go l b base D z M p e R s m args below meth c Qf pc L st σ := by
  obtain ⟨hx, hb, hml, hr, hown, hts, hlk, hin, hfr, hlo, hK, hN, hAO, hbb, hbs, hdec, hsc⟩ := A
  unfold mj_iald at h
  split at h
  · next i a rest =>
    split at h
    · next N hk0 =>
      obtain ⟨h1, h2⟩ := mj_if h
      obtain ⟨rfl, h4⟩ := mj_g_spec h2
      cases h4
      obtain ⟨q, rfl, hq⟩ := mj_hs_spec h1
      have hi : mj_in i N := ho.1
      intro H locs ls ca c1 c2 b1 b2 hW hL
      have hW0 := hW
      obtain ⟨hz, hP, hKA, hS, hX⟩ := hW
      have he := mj_wl_get (b := b) (base := base) (ca := ca) hq
      rw [mj_ce_A hk0] at he
      have kk := k H locs ls ca c1 c2 b1 b2 hW0 hL
      have hval : (if i.toNatClampNeg < N then σ.2.1 (q + 1) (nI i.toNatClampNeg) else 0) = σ.2.1 (q + 1) i := by
        rw [if_pos (mj_in_lt hi), mj_clamp hi.1]
      refine va_iald (D := D) (cl := vwCl) hx hb (mj_K1 hK (hKA q 0 N hq hk0)) hP q 0 he rfl (mj_vp hi) hd ?_
      rw [hval]
      exact kk
    · next N hk0 =>
      obtain ⟨h1, h2⟩ := mj_if h
      obtain ⟨rfl, h4⟩ := mj_g_spec h2
      cases h4
      have ha := Nat.eq_of_beq_eq_true h1
      subst ha
      have hi : mj_in i N := ho.1
      intro H locs ls ca c1 c2 b1 b2 hW hL
      have hW0 := hW
      obtain ⟨hz, hP, hKA, hS, hX⟩ := hW
      have kk := k H locs ls ca c1 c2 b1 b2 hW0 hL
      rw [hX.2] at kk
      refine va_sld hx hb (hsc N (hX.1.symm.trans hk0)) (Nat.lt_of_lt_of_le hbb hbs) (show ¬ mj_A base b by unfold mj_A; omega) hS (mj_vp hi) hd ?_
      rw [mj_clamp hi.1]
      exact kk
    · cases h
  · cases h
theorem mj_s_alen (A : mj_At b base D z M p R s m args meth c) (hd : decode M.2.2.1 pc = .ok (.arraylength, n)) (h : mj_alen n pc L st σ = some (φ, pc', L', st', σ')) (k : mj_Go l b base D z M p e R s m args below meth c Qf pc' L' st' σ') : mj_Go l b base D z M p e R s m args below meth c Qf pc L st σ := by
  obtain ⟨hx, hb, hml, hr, hown, hts, hlk, hin, hfr, hlo, hK, hN, hAO, hbb, hbs, hdec, hsc⟩ := A
  unfold mj_alen at h
  split at h
  · next a rest =>
    split at h
    · next N hk0 =>
      obtain ⟨h1, h2⟩ := mj_if h
      obtain ⟨rfl, h4⟩ := mj_g_spec h2
      cases h4
      obtain ⟨q, rfl, hq⟩ := mj_hs_spec h1
      intro H locs ls ca c1 c2 b1 b2 hW hL
      have hW0 := hW
      obtain ⟨hz, hP, hKA, hS, hX⟩ := hW
      have he := mj_wl_get (b := b) (base := base) (ca := ca) hq
      rw [mj_ce_A hk0] at he
      exact va_alen (D := D) (cl := vwCl) hx hb (mj_K1 hK (hKA q 0 N hq hk0)) hP q 0 he rfl (v := nI N) rfl hd (k H locs ls ca c1 c2 b1 b2 hW0 hL)
    · next N hk0 =>
      obtain ⟨h1, h2⟩ := mj_if h
      obtain ⟨rfl, h4⟩ := mj_g_spec h2
      cases h4
      have ha := Nat.eq_of_beq_eq_true h1
      subst ha
      intro H locs ls ca c1 c2 b1 b2 hW hL
      have hW0 := hW
      obtain ⟨hz, hP, hKA, hS, hX⟩ := hW
      exact va_slen hx hb (hsc N (hX.1.symm.trans hk0)) (Nat.lt_of_lt_of_le hbb hbs) (show ¬ mj_A base b by unfold mj_A; omega) hS hd (k H locs ls ca c1 c2 b1 b2 hW0 hL)
    · cases h
  · cases h
theorem mj_s_iast (A : mj_At b base D z M p R s m args meth c) (hd : decode M.2.2.1 pc = .ok (.iastore, n)) (h : mj_iast n pc L st σ = some (φ, pc', L', st', σ')) (ho : mj_al φ) (k : mj_Go l b base D z M p e R s m args below meth c Qf pc' L' st' σ') : mj_Go l b base D z M p e R s m args below meth c Qf pc L st σ := by
  obtain ⟨hx, hb, hml, hr, hown, hts, hlk, hin, hfr, hlo, hK, hN, hAO, hbb, hbs, hdec, hsc⟩ := A
  unfold mj_iast at h
  split at h
  · next v i a rest =>
    split at h
    · next N hk0 =>
      obtain ⟨h1, h2⟩ := mj_if h
      obtain ⟨rfl, h4⟩ := mj_g_spec h2
      cases h4
      simp only [Bool.and_eq_true, Nat.blt_eq] at h1
      obtain ⟨h1, hN31⟩ := h1
      obtain ⟨q, rfl, hq⟩ := mj_hs_spec h1
      have hi : mj_in i N := ho.1
      intro H locs ls ca c1 c2 b1 b2 hW hL
      obtain ⟨hz, hP, hKA, hS, hX⟩ := hW
      have he := mj_wl_get (b := b) (base := base) (ca := ca) hq
      rw [mj_ce_A hk0] at he
      have hf : upd (fun j => if j < N then σ.2.1 (q + 1) (nI j) else 0) i.toNatClampNeg v = fun j => if j < N then mj_upI σ.2.1 (q + 1) i v (q + 1) (nI j) else 0 := by
        funext j
        have hlt := mj_in_lt hi
        by_cases hj : j = i.toNatClampNeg
        · subst hj
          simp only [upd, if_true, if_pos hlt, mj_upI_eq, mj_clamp hi.1]
        · simp only [upd, if_neg hj]
          by_cases hjN : j < N
          · rw [if_pos hjN, if_pos hjN, mj_upI_eq, if_neg]
            intro hji
            rw [← mj_clamp hi.1] at hji
            exact hj ((nI_eq (by omega) (by omega)).mp hji)
          · rw [if_neg hjN, if_neg hjN]
      have hwl : (mj_wl b base ca σ).set q (mj_ad b base (q + 1), .inl (ca (q + 1), N, .inl (upd (fun j => if j < N then σ.2.1 (q + 1) (nI j) else 0) i.toNatClampNeg v))) = mj_wl b base ca (σ.1, mj_upI σ.2.1 (q + 1) i v, σ.2.2) := by
        rw [← mj_wl_set (σ' := (σ.1, mj_upI σ.2.1 (q + 1) i v, σ.2.2)) hq rfl (fun j hj => mj_ce_congr rfl (mj_upI_ne hj) rfl rfl)]
        rw [mj_ce_A (K := σ.1.2.1) (k := q + 1) hk0, hf]
      refine W.iast hx hb (hP q _ he) ((hKA q 0 N hq hk0).1 N (fun j => .int (if j < N then σ.2.1 (q + 1) (nI j) else 0))) (fun q => by cases q) (by show ¬ (i < 0 ∨ (arrV _ _ _).slots.size ≤ _); rw [arrV_size]; exact mj_vp hi) rfl rfl hd fun H1 e1 zz oq => ?_
      refine k H1 _ ls ca c1 c2 b1 b2 ⟨by rw [zz, hz], ?_, hKA, hS.put zz oq (mj_wl_D.2 q _ he), ?_⟩ hL
      · rw [← hwl]
        refine hP.set mj_wl_D he ?_ oq
        show H1[mj_ad b base (q + 1)]? = some (vp_cell _ _)
        rw [e1, vp_cell_i, vp_cell_i, arrV_store]
        congr 2
        funext j
        by_cases hj : j = i.toNatClampNeg
        · subst hj
          simp [updV, upd]
        · simp [updV, upd, hj]
      · exact ⟨hX.1, (show mj_upI σ.2.1 (q + 1) i v 0 = σ.2.1 0 from mj_upI_ne (by omega)).trans hX.2⟩
    · cases h
  · cases h
theorem mj_s_aald (A : mj_At b base D z M p R s m args meth c) (hd : decode M.2.2.1 pc = .ok (.aaload, n)) (h : mj_aald n pc L st σ = some (φ, pc', L', st', σ')) (ho : mj_al φ) (k : mj_Go l b base D z M p e R s m args below meth c Qf pc' L' st' σ') : mj_Go l b base D z M p e R s m args below meth c Qf pc L st σ := by
  obtain ⟨hx, hb, hml, hr, hown, hts, hlk, hin, hfr, hlo, hK, hN, hAO, hbb, hbs, hdec, hsc⟩ := A
  have core : ∀ (i : Int32) (q t N : Nat) (rest : List Value), q < σ.1.1 → σ.1.2.1 (q + 1) = .inr (t + 1, N) → mj_in i N → decode M.2.2.1 pc = .ok (.aaload, 1) → mj_Go l b base D z M p e R s m args below meth c Qf (pc + 1) L (mj_rv (σ.2.2 (q + 1) i) :: rest) σ → mj_Go l b base D z M p e R s m args below meth c Qf pc L (.int i :: .ref (q + 1) :: rest) σ := by
    intro i q t N rest hq hk0 hi hd k H locs ls ca c1 c2 b1 b2 hW hL
    have hW0 := hW
    obtain ⟨hz, hP, hKA, hS, hX⟩ := hW
    have he := mj_wl_get (b := b) (base := base) (ca := ca) hq
    rw [mj_ce_Q hk0] at he
    have hlt := mj_in_lt hi
    have kk := k H locs ls ca c1 c2 b1 b2 hW0 hL
    have hvv : va_rf (if i.toNatClampNeg < N then (σ.2.2 (q + 1) (nI i.toNatClampNeg)).map (mj_ad b base) else none) = mj_cv b base (mj_rv (σ.2.2 (q + 1) i)) := by
      rw [if_pos hlt, mj_clamp hi.1]
      cases σ.2.2 (q + 1) i <;> rfl
    rw [List.map_cons, ← hvv] at kk
    exact W.aald (v := va_rf (if i.toNatClampNeg < N then (σ.2.2 (q + 1) (nI i.toNatClampNeg)).map (mj_ad b base) else none)) (ty := mj_aty (t + 1)) hx hb (hP q _ he) ((hKA q (t + 1) N hq hk0).1 N (fun j => va_rf (if j < N then (σ.2.2 (q + 1) (nI j)).map (mj_ad b base) else none))) (by cases t <;> rfl) (fun q => by cases q) (by show ¬ (i < 0 ∨ (arrV _ _ _).slots.size ≤ _); rw [arrV_size]; exact mj_vp hi) (by show (arrV _ _ _).slots[_]? = _; rw [arrV_read _ _ hlt]) rfl rfl hd kk
  unfold mj_aald at h
  split at h
  · next i a rest =>
    split at h
    · next N hk0 =>
      obtain ⟨h1, h2⟩ := mj_if h
      obtain ⟨rfl, h4⟩ := mj_g_spec h2
      cases h4
      obtain ⟨q, rfl, hq⟩ := mj_hs_spec h1
      exact core i q 0 N rest hq hk0 ho.1 hd k
    · next N hk0 =>
      obtain ⟨h1, h2⟩ := mj_if h
      obtain ⟨rfl, h4⟩ := mj_g_spec h2
      cases h4
      obtain ⟨q, rfl, hq⟩ := mj_hs_spec h1
      exact core i q 1 N rest hq hk0 ho.1 hd k
    · cases h
  · cases h
theorem mj_s_aast (A : mj_At b base D z M p R s m args meth c) (hd : decode M.2.2.1 pc = .ok (.aastore, n)) (h : mj_aast n pc L st σ = some (φ, pc', L', st', σ')) (ho : mj_al φ) (k : mj_Go l b base D z M p e R s m args below meth c Qf pc' L' st' σ') : mj_Go l b base D z M p e R s m args below meth c Qf pc L st σ := by
  obtain ⟨hx, hb, hml, hr, hown, hts, hlk, hin, hfr, hlo, hK, hN, hAO, hbb, hbs, hdec, hsc⟩ := A
  unfold mj_aast at h
  split at h
  · next v i a rest =>
    split at h
    · next N hk0 =>
      obtain ⟨h1, h2⟩ := mj_if h
      obtain ⟨rfl, h4⟩ := mj_g_spec h2
      cases h4
      simp only [Bool.and_eq_true, Nat.blt_eq] at h1
      obtain ⟨h1, hO, hN31⟩ := h1
      obtain ⟨h5, h6⟩ := mj_isO_spec hO
      obtain ⟨qv, rfl, hqv⟩ := mj_hs_spec h5
      obtain ⟨q, rfl, hq⟩ := mj_hs_spec h1
      have hi : mj_in i N := ho.1
      intro H locs ls ca c1 c2 b1 b2 hW hL
      obtain ⟨hz, hP, hKA, hS, hX⟩ := hW
      have he := mj_wl_get (b := b) (base := base) (ca := ca) hq
      rw [mj_ce_Q hk0] at he
      have hev := mj_wl_get (b := b) (base := base) (ca := ca) hqv
      rw [mj_ce_O h6] at hev
      have hf : va_up (fun j => if j < N then (σ.2.2 (q + 1) (nI j)).map (mj_ad b base) else none) i.toNatClampNeg (some (mj_ad b base (qv + 1))) = fun j => if j < N then (mj_upP σ.2.2 (q + 1) i (some (qv + 1)) (q + 1) (nI j)).map (mj_ad b base) else none := by
        funext j
        have hlt := mj_in_lt hi
        by_cases hj : j = i.toNatClampNeg
        · subst hj
          simp only [va_up, if_true, if_pos hlt, mj_upP_eq, mj_clamp hi.1, Option.map_some]
        · simp only [va_up, if_neg hj]
          by_cases hjN : j < N
          · rw [if_pos hjN, if_pos hjN, mj_upP_eq, if_neg]
            intro hji
            rw [← mj_clamp hi.1] at hji
            exact hj ((nI_eq (by omega) (by omega)).mp hji)
          · rw [if_neg hjN, if_neg hjN]
      have hwl : (mj_wl b base ca σ).set q (mj_ad b base (q + 1), .inl (ca (q + 1), N, .inr (.inr (.inr (.inr (va_up (fun j => if j < N then (σ.2.2 (q + 1) (nI j)).map (mj_ad b base) else none) i.toNatClampNeg (some (mj_ad b base (qv + 1))))))))) = mj_wl b base ca (σ.1, σ.2.1, mj_upP σ.2.2 (q + 1) i (some (qv + 1))) := by
        rw [← mj_wl_set (σ' := (σ.1, σ.2.1, mj_upP σ.2.2 (q + 1) i (some (qv + 1)))) hq rfl (fun j hj => mj_ce_congr rfl rfl (mj_upP_ne hj) rfl)]
        rw [mj_ce_Q (K := σ.1.2.1) (k := q + 1) hk0, hf]
      have hzz : ∀ (H1 : Heap) (locs1 : List Loc), H1.size = H.size → va_P D vwCl ((mj_wl b base ca σ).set q (mj_ad b base (q + 1), .inl (ca (q + 1), N, .inr (.inr (.inr (.inr (va_up (fun j => if j < N then (σ.2.2 (q + 1) (nI j)).map (mj_ad b base) else none) i.toNatClampNeg (some (mj_ad b base (qv + 1)))))))))) H1 → va_S (mj_A base) s.heap H1 locs1 → W p l e R s m args below meth c H1 locs1 σ.1.2.2.1.1 σ.1.2.2.1.2 Qf (F0 m (pc + 1) ls (st'.map (mj_cv b base))) := by
        intro H1 locs1 zz hP1 hS1
        rw [hwl] at hP1
        exact k H1 locs1 ls ca c1 c2 b1 b2 ⟨by rw [zz, hz], hP1, hKA, hS1, hX⟩ hL
      obtain ⟨r', hr', cellV, g1, g2, g3, -⟩ := hP qv _ hev
      have hcls := (hK.1 4 _ (mj_cl_get (ci := 4) (by decide))).2
      obtain ⟨kA, comp, k1, k2, k3, -⟩ := (hKA q 2 N hq hk0).2
      have hcomp : comp = D.1 4 := Option.some.inj (k3.symm.trans hcls.1)
      subst hcomp
      obtain ⟨kC, hkC, -⟩ := hcls.2
      have hlt := mj_in_lt hi
      refine W.aast hx hb (hP q _ he) (fun q h => by cases h) (fun h => by cases h) k1 k2 rfl hkC ⟨fun q => mj_vp hi (Or.inl q), by show _ < (arrV _ _ _).slots.size; rw [arrV_size]; exact hlt⟩ g1 (fun q h => by rw [g3] at h; cases h) (by rw [g2]; exact hkC) (by rw [g2]; exact va_assign hcls) rfl rfl hd fun H1 e1 zz oq => ?_
      refine hzz H1 _ zz (hP.set mj_wl_D he ?_ oq) (hS.put zz oq (mj_wl_D.2 q _ he))
      show H1[mj_ad b base (q + 1)]? = some (vp_cell _ _)
      rw [e1]
      rw [vp_cell_q, vp_cell_q, arrV_store]
      congr 2
      funext j
      by_cases hj : j = i.toNatClampNeg
      · subst hj
        simp [updV, va_up, va_rf]
      · simp [updV, va_up, hj]
    · cases h
  · cases h
end STEP5
