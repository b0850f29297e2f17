/-! the law, call by call -/
section RCL
variable {l : Launch} {b base : Nat} {D : va_G} {z : mj_K × (Int32 → Int32)} {M : mj_Md} {pc : Nat} {L st : List Value} {σ : mj_S} {Q : Option Value → mj_S → Prop}
/-- a call out of the law -/
theorem R_cL {idx mid kind N u s : Nat} {mx : Nat × Nat} {M' : mj_Md} {As rest L0 : List Value} {I I' : mj_I} {P P' : mj_P} {v : Option Value} (ht : mj_tab M pc = some (mj_ins kind idx, 3)) (hm : mj_pm M.1 idx = some (mid, kind)) (hM : mj_M mid = M') (hmc : mj_mc mid = true) (hdec : mj_Dec M') (hst : st = As.reverse ++ rest)
    (hchk : mj_cchk M M' (mj_Mn mid) kind As rest ((62, mj_KK N, (u, s), mx), I, P) = true) (hent : mj_ent As M'.2.2.2.1 = L0) (hb : mj_bc M' = 0) (hs : mj_bs M' = 0) (hσ : σ = ((62, mj_KK N, (u, s), mx), I, P))
    (hc : mj_Rn l b base D z M' 0 L0 [] (mj_KS N, I, P) (mj_E N v I' P')) (kk : mj_Rn l b base D z M (pc + 3) L (v.toList ++ rest) ((62, mj_KK N, (u, s), mx), I', P') Q) : mj_Rn l b base D z M pc L st σ Q := by
  subst hM
  subst hent
  subst hσ
  have e1 : mj_sub ((62, mj_KK N, (u, s), mx), I, P) (mj_M mid) = (mj_KS N, I, P) := by
    unfold mj_sub
    rw [hb, hs]
    rfl
  refine R_call ht hm hmc hdec hst hchk (fun r σ1 hq => ?_) (by rw [e1]; exact hc) (fun r σ1 hq => ?_)
  · obtain ⟨-, rfl⟩ := hq
    rw [hb, hs]
    exact ⟨rfl, Nat.le_refl _, Nat.le_refl _⟩
  · obtain ⟨rfl, rfl⟩ := hq
    unfold mj_back
    rw [hb, hs]
    exact kk
end RCL
set_option maxHeartbeats 8000000 in
theorem rq_law_0 (l : Launch) (b base : Nat) (D : va_G) (z : mj_K × (Int32 → Int32)) (N : Nat) {cc dd r m p R : Nat} {I : mj_I} {i : Int32} {Q : Option Value → mj_S → Prop} (hcc : (cc = 2 ∧ dd = 10) ∨ (cc = 10 ∧ dd = 2)) (hR : mj_RL cc m p R I I) (hi : ∀ t : Int32, 0 ≤ t.toInt → t.toInt ≤ 6 → mj_in (i + t) N) (K : ∀ (cc dd r : Nat) (I : mj_I), rq_W cc dd I → mj_Rn l b base D z mj_m_L_law 1170 [.ref 0, .ref 1, .ref 42, .int i] [] ((62, mj_KK N, (62, 12258), (600000, 7302249)), I, mj_PP cc dd r) (Q)) : mj_Rn l b base D z mj_m_L_law 152 [.ref 0, .ref 1, .ref 42, .int i] [] ((62, mj_KK N, (62, 12258), (600000, 7302249)), I, mj_PP cc dd r) (Q) := by
  have hc : cc = 2 ∨ cc = 10 := by omega
  obtain ⟨hm, hp3, hs5, hp5, hn, hpl, hrr, hl, hJ, hCn, hE⟩ := rq_pre5 hR
  refine R_seg (φ := [mj_in (i + 1) N, mj_in (i + 2) N, mj_in (i + 3) N, mj_in (i + 4) N]) (pc' := 173) (L' := [.ref 0, .ref 1, .ref 42, .int i]) (st' := [.int (I 0 (i + 4)), .int (I 0 (i + 3)), .int (I 0 (i + 2)), .int (I 0 (i + 1)), .ref 1]) (σ' := ((62, mj_KK N, (62, 12258), (600000, 7302249)), I, mj_PP cc dd r)) 21 rfl ⟨(hi 1 (by decide) (by decide)), (hi 2 (by decide) (by decide)), (hi 3 (by decide) (by decide)), (hi 4 (by decide) (by decide)), trivial⟩ ?_
  refine R_cL (idx := 13) (mid := 40) (kind := 0) (N := N) (M' := mj_m_X5_city) (As := [.ref 1, .int (I 0 (i + 1)), .int (I 0 (i + 2)), .int (I 0 (i + 3)), .int (I 0 (i + 4))]) (rest := []) (I := I) (P := mj_PP cc dd r) (I' := (s_X5_city cc dd r (I 0 (i + 1)) (I 0 (i + 2)) (I 0 (i + 3)) (I 0 (i + 4)) I).2.1) (P' := mj_PP (s_X5_city cc dd r (I 0 (i + 1)) (I 0 (i + 2)) (I 0 (i + 3)) (I 0 (i + 4)) I).2.2.1 (s_X5_city cc dd r (I 0 (i + 1)) (I 0 (i + 2)) (I 0 (i + 3)) (I 0 (i + 4)) I).2.2.2.1 (s_X5_city cc dd r (I 0 (i + 1)) (I 0 (i + 2)) (I 0 (i + 3)) (I 0 (i + 4)) I).2.2.2.2) (v := some (.int ((s_X5_city cc dd r (I 0 (i + 1)) (I 0 (i + 2)) (I 0 (i + 3)) (I 0 (i + 4)) I).1))) rfl rfl rfl mj_mc40 mj_dc40 rfl rfl rfl rfl rfl rfl (x_X5_city l b base D z N cc dd hcc (I 0 (i + 1)) (I 0 (i + 2)) (I 0 (i + 3)) (I 0 (i + 4)) I r) ?_
  have hh := rq_h5_city (r := r) hcc hR (I 0 (i + 1)) (I 0 (i + 2)) (I 0 (i + 3)) (I 0 (i + 4))
  have hR2 := mj_RL_B hh hR
  have hV := rq_v_city (r := r) hcc hR2 (I 0 (i + 1)) (I 0 (i + 2)) (I 0 (i + 3)) (I 0 (i + 4))
  have f0 := hh 0 (Or.inr rfl)
  have hl6 := rq_l6_city hc hR2 (I 0 (i + 1)) (I 0 (i + 2)) (I 0 (i + 3)) (I 0 (i + 4))
  obtain ⟨hm, hp3, hs6, hp6, hS6, hP6, hR6, hL, hJ0⟩ := rq_pre6 hR2
  generalize s_X5_city cc dd r (I 0 (i + 1)) (I 0 (i + 2)) (I 0 (i + 3)) (I 0 (i + 4)) I = g1 at hh hR2 hV f0 hl6 hs6 hp6 hS6 hP6 hR6 hL hJ0 ⊢
  refine R_seg (φ := [mj_in (i + 1) N, mj_in (i + 2) N, mj_in (i + 3) N, mj_in (i + 4) N]) (pc' := 197) (L' := [.ref 0, .ref 1, .ref 42, .int i]) (st' := [.int (g1.2.1 0 (i + 4)), .int (g1.2.1 0 (i + 3)), .int (g1.2.1 0 (i + 2)), .int (g1.2.1 0 (i + 1)), .ref 42, .int g1.1]) (σ' := ((62, mj_KK N, (62, 12258), (600000, 7302249)), g1.2.1, mj_PP g1.2.2.1 g1.2.2.2.1 g1.2.2.2.2)) 21 rfl ⟨(hi 1 (by decide) (by decide)), (hi 2 (by decide) (by decide)), (hi 3 (by decide) (by decide)), (hi 4 (by decide) (by decide)), trivial⟩ ?_
  rw [f0]
  refine R_cL (idx := 17) (mid := 104) (kind := 0) (N := N) (M' := mj_m_X6_city) (As := [.ref 42, .int (I 0 (i + 1)), .int (I 0 (i + 2)), .int (I 0 (i + 3)), .int (I 0 (i + 4))]) (rest := [.int g1.1]) (I := g1.2.1) (P := mj_PP g1.2.2.1 g1.2.2.2.1 g1.2.2.2.2) (I' := (s_X6_city  (I 0 (i + 1)) (I 0 (i + 2)) (I 0 (i + 3)) (I 0 (i + 4)) g1.2.1).2) (P' := mj_PP g1.2.2.1 g1.2.2.2.1 g1.2.2.2.2) (v := some (.int ((s_X6_city  (I 0 (i + 1)) (I 0 (i + 2)) (I 0 (i + 3)) (I 0 (i + 4)) g1.2.1).1))) rfl rfl rfl mj_mc104 mj_dc104 rfl rfl rfl rfl rfl rfl (x_X6_city l b base D z N  (I 0 (i + 1)) (I 0 (i + 2)) (I 0 (i + 3)) (I 0 (i + 4)) g1.2.1 g1.2.2.1 g1.2.2.2.1 g1.2.2.2.2 hL) ?_
  refine R_seg (φ := []) (pc' := 200) (L' := [.ref 0, .ref 1, .ref 42, .int i]) (st' := [.int ((s_X6_city  (I 0 (i + 1)) (I 0 (i + 2)) (I 0 (i + 3)) (I 0 (i + 4)) g1.2.1).1), .int g1.1]) (σ' := ((62, mj_KK N, (62, 12258), (600000, 7302249)), (s_X6_city  (I 0 (i + 1)) (I 0 (i + 2)) (I 0 (i + 3)) (I 0 (i + 4)) g1.2.1).2, mj_PP g1.2.2.1 g1.2.2.2.1 g1.2.2.2.2)) 0 rfl trivial ?_
  refine R_br (q := (g1.1 : Int32) = (s_X6_city  (I 0 (i + 1)) (I 0 (i + 2)) (I 0 (i + 3)) (I 0 (i + 4)) g1.2.1).1) (t := 1170) (f := 203) (rest := []) rfl (fun h1 => ?_) (fun h1 => absurd (hV.1) h1)
  exact K _ _ _ _ (rq_W_of hV.2.1 hl6 hV.2.2)
set_option maxHeartbeats 8000000 in
theorem rq_law_1 (l : Launch) (b base : Nat) (D : va_G) (z : mj_K × (Int32 → Int32)) (N : Nat) {cc dd r m p R : Nat} {I : mj_I} {i : Int32} {Q : Option Value → mj_S → Prop} (hcc : (cc = 2 ∧ dd = 10) ∨ (cc = 10 ∧ dd = 2)) (hR : mj_RL cc m p R I I) (hi : ∀ t : Int32, 0 ≤ t.toInt → t.toInt ≤ 6 → mj_in (i + t) N) (K : ∀ (cc dd r : Nat) (I : mj_I), rq_W cc dd I → mj_Rn l b base D z mj_m_L_law 1170 [.ref 0, .ref 1, .ref 42, .int i] [] ((62, mj_KK N, (62, 12258), (600000, 7302249)), I, mj_PP cc dd r) (Q)) : mj_Rn l b base D z mj_m_L_law 205 [.ref 0, .ref 1, .ref 42, .int i] [] ((62, mj_KK N, (62, 12258), (600000, 7302249)), I, mj_PP cc dd r) (Q) := by
  have hc : cc = 2 ∨ cc = 10 := by omega
  obtain ⟨hm, hp3, hs5, hp5, hn, hpl, hrr, hl, hJ, hCn, hE⟩ := rq_pre5 hR
  refine R_seg (φ := [mj_in (i + 1) N, mj_in (i + 2) N]) (pc' := 216) (L' := [.ref 0, .ref 1, .ref 42, .int i]) (st' := [.int (I 0 (i + 2)), .int (I 0 (i + 1)), .ref 1]) (σ' := ((62, mj_KK N, (62, 12258), (600000, 7302249)), I, mj_PP cc dd r)) 11 rfl ⟨(hi 1 (by decide) (by decide)), (hi 2 (by decide) (by decide)), trivial⟩ ?_
  refine R_cL (idx := 18) (mid := 41) (kind := 0) (N := N) (M' := mj_m_X5_ofStreet) (As := [.ref 1, .int (I 0 (i + 1)), .int (I 0 (i + 2))]) (rest := []) (I := I) (P := mj_PP cc dd r) (I' := I) (P' := mj_PP cc dd r) (v := some (.int (s_X5_ofStreet cc  (I 0 (i + 1)) (I 0 (i + 2)) I))) rfl rfl rfl mj_mc41 mj_dc41 rfl rfl rfl rfl rfl rfl (x_X5_ofStreet l b base D z N cc hc (I 0 (i + 1)) (I 0 (i + 2)) I dd r hn) ?_
  have hR2 := hR
  have hV := rq_v_ofStreet hc hR2 (I 0 (i + 1)) (I 0 (i + 2))
  obtain ⟨hm, hp3, hs6, hp6, hS6, hP6, hR6, hL, hJ0⟩ := rq_pre6 hR2
  refine R_seg (φ := [mj_in (i + 1) N, mj_in (i + 2) N]) (pc' := 230) (L' := [.ref 0, .ref 1, .ref 42, .int i]) (st' := [.int (I 0 (i + 2)), .int (I 0 (i + 1)), .ref 42, .int (s_X5_ofStreet cc  (I 0 (i + 1)) (I 0 (i + 2)) I)]) (σ' := ((62, mj_KK N, (62, 12258), (600000, 7302249)), I, mj_PP cc dd r)) 11 rfl ⟨(hi 1 (by decide) (by decide)), (hi 2 (by decide) (by decide)), trivial⟩ ?_
  refine R_cL (idx := 22) (mid := 109) (kind := 0) (N := N) (M' := mj_m_X6_ofStreet) (As := [.ref 42, .int (I 0 (i + 1)), .int (I 0 (i + 2))]) (rest := [.int (s_X5_ofStreet cc  (I 0 (i + 1)) (I 0 (i + 2)) I)]) (I := I) (P := mj_PP cc dd r) (I' := I) (P' := mj_PP cc dd r) (v := some (.int (s_X6_ofStreet  (I 0 (i + 1)) (I 0 (i + 2)) I))) rfl rfl rfl mj_mc109 mj_dc109 rfl rfl rfl rfl rfl rfl (x_X6_ofStreet l b base D z N  (I 0 (i + 1)) (I 0 (i + 2)) I cc dd r hS6) ?_
  refine R_seg (φ := []) (pc' := 233) (L' := [.ref 0, .ref 1, .ref 42, .int i]) (st' := [.int (s_X6_ofStreet  (I 0 (i + 1)) (I 0 (i + 2)) I), .int (s_X5_ofStreet cc  (I 0 (i + 1)) (I 0 (i + 2)) I)]) (σ' := ((62, mj_KK N, (62, 12258), (600000, 7302249)), I, mj_PP cc dd r)) 0 rfl trivial ?_
  refine R_br (q := ((s_X5_ofStreet cc  (I 0 (i + 1)) (I 0 (i + 2)) I) : Int32) = (s_X6_ofStreet  (I 0 (i + 1)) (I 0 (i + 2)) I)) (t := 1170) (f := 236) (rest := []) rfl (fun h1 => ?_) (fun h1 => absurd (hV.1) h1)
  exact K _ _ _ _ ⟨hcc, m, p, R, hR⟩
set_option maxHeartbeats 8000000 in
theorem rq_law_2 (l : Launch) (b base : Nat) (D : va_G) (z : mj_K × (Int32 → Int32)) (N : Nat) {cc dd r m p R : Nat} {I : mj_I} {i : Int32} {Q : Option Value → mj_S → Prop} (hcc : (cc = 2 ∧ dd = 10) ∨ (cc = 10 ∧ dd = 2)) (hR : mj_RL cc m p R I I) (hi : ∀ t : Int32, 0 ≤ t.toInt → t.toInt ≤ 6 → mj_in (i + t) N) (K : ∀ (cc dd r : Nat) (I : mj_I), rq_W cc dd I → mj_Rn l b base D z mj_m_L_law 1170 [.ref 0, .ref 1, .ref 42, .int i] [] ((62, mj_KK N, (62, 12258), (600000, 7302249)), I, mj_PP cc dd r) (Q)) : mj_Rn l b base D z mj_m_L_law 238 [.ref 0, .ref 1, .ref 42, .int i] [] ((62, mj_KK N, (62, 12258), (600000, 7302249)), I, mj_PP cc dd r) (Q) := by
  have hc : cc = 2 ∨ cc = 10 := by omega
  obtain ⟨hm, hp3, hs5, hp5, hn, hpl, hrr, hl, hJ, hCn, hE⟩ := rq_pre5 hR
  refine R_seg (φ := [mj_in (i + 1) N, mj_in (i + 2) N]) (pc' := 249) (L' := [.ref 0, .ref 1, .ref 42, .int i]) (st' := [.int (I 0 (i + 2)), .int (I 0 (i + 1)), .ref 1]) (σ' := ((62, mj_KK N, (62, 12258), (600000, 7302249)), I, mj_PP cc dd r)) 11 rfl ⟨(hi 1 (by decide) (by decide)), (hi 2 (by decide) (by decide)), trivial⟩ ?_
  refine R_cL (idx := 23) (mid := 42) (kind := 0) (N := N) (M' := mj_m_X5_ofPlant) (As := [.ref 1, .int (I 0 (i + 1)), .int (I 0 (i + 2))]) (rest := []) (I := I) (P := mj_PP cc dd r) (I' := I) (P' := mj_PP cc dd r) (v := some (.int (s_X5_ofPlant cc  (I 0 (i + 1)) (I 0 (i + 2)) I))) rfl rfl rfl mj_mc42 mj_dc42 rfl rfl rfl rfl rfl rfl (x_X5_ofPlant l b base D z N cc hc (I 0 (i + 1)) (I 0 (i + 2)) I dd r hpl) ?_
  have hR2 := hR
  have hV := rq_v_ofPlant hc hR2 (I 0 (i + 1)) (I 0 (i + 2))
  obtain ⟨hm, hp3, hs6, hp6, hS6, hP6, hR6, hL, hJ0⟩ := rq_pre6 hR2
  refine R_seg (φ := [mj_in (i + 1) N, mj_in (i + 2) N]) (pc' := 263) (L' := [.ref 0, .ref 1, .ref 42, .int i]) (st' := [.int (I 0 (i + 2)), .int (I 0 (i + 1)), .ref 42, .int (s_X5_ofPlant cc  (I 0 (i + 1)) (I 0 (i + 2)) I)]) (σ' := ((62, mj_KK N, (62, 12258), (600000, 7302249)), I, mj_PP cc dd r)) 11 rfl ⟨(hi 1 (by decide) (by decide)), (hi 2 (by decide) (by decide)), trivial⟩ ?_
  refine R_cL (idx := 26) (mid := 110) (kind := 0) (N := N) (M' := mj_m_X6_ofPlant) (As := [.ref 42, .int (I 0 (i + 1)), .int (I 0 (i + 2))]) (rest := [.int (s_X5_ofPlant cc  (I 0 (i + 1)) (I 0 (i + 2)) I)]) (I := I) (P := mj_PP cc dd r) (I' := I) (P' := mj_PP cc dd r) (v := some (.int (s_X6_ofPlant  (I 0 (i + 1)) (I 0 (i + 2)) I))) rfl rfl rfl mj_mc110 mj_dc110 rfl rfl rfl rfl rfl rfl (x_X6_ofPlant l b base D z N  (I 0 (i + 1)) (I 0 (i + 2)) I cc dd r hP6) ?_
  refine R_seg (φ := []) (pc' := 266) (L' := [.ref 0, .ref 1, .ref 42, .int i]) (st' := [.int (s_X6_ofPlant  (I 0 (i + 1)) (I 0 (i + 2)) I), .int (s_X5_ofPlant cc  (I 0 (i + 1)) (I 0 (i + 2)) I)]) (σ' := ((62, mj_KK N, (62, 12258), (600000, 7302249)), I, mj_PP cc dd r)) 0 rfl trivial ?_
  refine R_br (q := ((s_X5_ofPlant cc  (I 0 (i + 1)) (I 0 (i + 2)) I) : Int32) = (s_X6_ofPlant  (I 0 (i + 1)) (I 0 (i + 2)) I)) (t := 1170) (f := 269) (rest := []) rfl (fun h1 => ?_) (fun h1 => absurd (hV.1) h1)
  exact K _ _ _ _ ⟨hcc, m, p, R, hR⟩
set_option maxHeartbeats 8000000 in
theorem rq_law_3 (l : Launch) (b base : Nat) (D : va_G) (z : mj_K × (Int32 → Int32)) (N : Nat) {cc dd r m p R : Nat} {I : mj_I} {i : Int32} {Q : Option Value → mj_S → Prop} (hcc : (cc = 2 ∧ dd = 10) ∨ (cc = 10 ∧ dd = 2)) (hR : mj_RL cc m p R I I) (hi : ∀ t : Int32, 0 ≤ t.toInt → t.toInt ≤ 6 → mj_in (i + t) N) (K : ∀ (cc dd r : Nat) (I : mj_I), rq_W cc dd I → mj_Rn l b base D z mj_m_L_law 1170 [.ref 0, .ref 1, .ref 42, .int i] [] ((62, mj_KK N, (62, 12258), (600000, 7302249)), I, mj_PP cc dd r) (Q)) : mj_Rn l b base D z mj_m_L_law 271 [.ref 0, .ref 1, .ref 42, .int i] [] ((62, mj_KK N, (62, 12258), (600000, 7302249)), I, mj_PP cc dd r) (Q) := by
  have hc : cc = 2 ∨ cc = 10 := by omega
  obtain ⟨hm, hp3, hs5, hp5, hn, hpl, hrr, hl, hJ, hCn, hE⟩ := rq_pre5 hR
  refine R_seg (φ := [mj_in (i + 1) N, mj_in (i + 2) N]) (pc' := 282) (L' := [.ref 0, .ref 1, .ref 42, .int i]) (st' := [.int (I 0 (i + 2)), .int (I 0 (i + 1)), .ref 1]) (σ' := ((62, mj_KK N, (62, 12258), (600000, 7302249)), I, mj_PP cc dd r)) 11 rfl ⟨(hi 1 (by decide) (by decide)), (hi 2 (by decide) (by decide)), trivial⟩ ?_
  refine R_cL (idx := 27) (mid := 43) (kind := 0) (N := N) (M' := mj_m_X5_let) (As := [.ref 1, .int (I 0 (i + 1)), .int (I 0 (i + 2))]) (rest := []) (I := I) (P := mj_PP cc dd r) (I' := (s_X5_let cc  (I 0 (i + 1)) (I 0 (i + 2)) I).2) (P' := mj_PP cc dd r) (v := some (.int ((s_X5_let cc  (I 0 (i + 1)) (I 0 (i + 2)) I).1))) rfl rfl rfl mj_mc43 mj_dc43 rfl rfl rfl rfl rfl rfl (x_X5_let l b base D z N cc hc (I 0 (i + 1)) (I 0 (i + 2)) I dd r hn) ?_
  have hh := rq_h5_let hc hR (I 0 (i + 1)) (I 0 (i + 2))
  have hR2 := mj_RL_B hh hR
  have hV := rq_v_let hc hR2 (I 0 (i + 1)) (I 0 (i + 2))
  have f0 := hh 0 (Or.inr rfl)
  have hl6 := rq_l6_let hc hR2 (I 0 (i + 1)) (I 0 (i + 2))
  obtain ⟨hm, hp3, hs6, hp6, hS6, hP6, hR6, hL, hJ0⟩ := rq_pre6 hR2
  generalize (s_X5_let cc  (I 0 (i + 1)) (I 0 (i + 2)) I) = g1 at hh hR2 hV f0 hl6 hs6 hp6 hS6 hP6 hR6 hL hJ0 ⊢
  refine R_seg (φ := [mj_in (i + 1) N, mj_in (i + 2) N]) (pc' := 296) (L' := [.ref 0, .ref 1, .ref 42, .int i]) (st' := [.int (g1.2 0 (i + 2)), .int (g1.2 0 (i + 1)), .ref 42, .int g1.1]) (σ' := ((62, mj_KK N, (62, 12258), (600000, 7302249)), g1.2, mj_PP cc dd r)) 11 rfl ⟨(hi 1 (by decide) (by decide)), (hi 2 (by decide) (by decide)), trivial⟩ ?_
  rw [f0]
  refine R_cL (idx := 30) (mid := 111) (kind := 0) (N := N) (M' := mj_m_X6_let) (As := [.ref 42, .int (I 0 (i + 1)), .int (I 0 (i + 2))]) (rest := [.int g1.1]) (I := g1.2) (P := mj_PP cc dd r) (I' := (s_X6_let  (I 0 (i + 1)) (I 0 (i + 2)) g1.2).2) (P' := mj_PP cc dd r) (v := some (.int ((s_X6_let  (I 0 (i + 1)) (I 0 (i + 2)) g1.2).1))) rfl rfl rfl mj_mc111 mj_dc111 rfl rfl rfl rfl rfl rfl (x_X6_let l b base D z N  (I 0 (i + 1)) (I 0 (i + 2)) g1.2 cc dd r hS6) ?_
  refine R_seg (φ := []) (pc' := 299) (L' := [.ref 0, .ref 1, .ref 42, .int i]) (st' := [.int ((s_X6_let  (I 0 (i + 1)) (I 0 (i + 2)) g1.2).1), .int g1.1]) (σ' := ((62, mj_KK N, (62, 12258), (600000, 7302249)), (s_X6_let  (I 0 (i + 1)) (I 0 (i + 2)) g1.2).2, mj_PP cc dd r)) 0 rfl trivial ?_
  refine R_br (q := (g1.1 : Int32) = (s_X6_let  (I 0 (i + 1)) (I 0 (i + 2)) g1.2).1) (t := 1170) (f := 302) (rest := []) rfl (fun h1 => ?_) (fun h1 => absurd (hV.1) h1)
  exact K _ _ _ _ (rq_W_of hcc hl6 hV.2)
set_option maxHeartbeats 8000000 in
theorem rq_law_4 (l : Launch) (b base : Nat) (D : va_G) (z : mj_K × (Int32 → Int32)) (N : Nat) {cc dd r m p R : Nat} {I : mj_I} {i : Int32} {Q : Option Value → mj_S → Prop} (hcc : (cc = 2 ∧ dd = 10) ∨ (cc = 10 ∧ dd = 2)) (hR : mj_RL cc m p R I I) (hi : ∀ t : Int32, 0 ≤ t.toInt → t.toInt ≤ 6 → mj_in (i + t) N) (K : ∀ (cc dd r : Nat) (I : mj_I), rq_W cc dd I → mj_Rn l b base D z mj_m_L_law 1170 [.ref 0, .ref 1, .ref 42, .int i] [] ((62, mj_KK N, (62, 12258), (600000, 7302249)), I, mj_PP cc dd r) (Q)) : mj_Rn l b base D z mj_m_L_law 304 [.ref 0, .ref 1, .ref 42, .int i] [] ((62, mj_KK N, (62, 12258), (600000, 7302249)), I, mj_PP cc dd r) (Q) := by
  have hc : cc = 2 ∨ cc = 10 := by omega
  obtain ⟨hm, hp3, hs5, hp5, hn, hpl, hrr, hl, hJ, hCn, hE⟩ := rq_pre5 hR
  refine R_seg (φ := [mj_in (i + 1) N, mj_in (i + 2) N, mj_in (i + 3) N]) (pc' := 320) (L' := [.ref 0, .ref 1, .ref 42, .int i]) (st' := [.int (I 0 (i + 3)), .int (I 0 (i + 2)), .int (I 0 (i + 1)), .ref 1]) (σ' := ((62, mj_KK N, (62, 12258), (600000, 7302249)), I, mj_PP cc dd r)) 16 rfl ⟨(hi 1 (by decide) (by decide)), (hi 2 (by decide) (by decide)), (hi 3 (by decide) (by decide)), trivial⟩ ?_
  refine R_br (q := (I 0 (i + 3) : Int32) = 0) (t := 327) (f := 323) (rest := [.int (I 0 (i + 2)), .int (I 0 (i + 1)), .ref 1]) rfl (fun h1 => ?_) (fun h1 => ?_)
  · skip
    refine R_seg (φ := []) (pc' := 328) (L' := [.ref 0, .ref 1, .ref 42, .int i]) (st' := [.int 0, .int (I 0 (i + 2)), .int (I 0 (i + 1)), .ref 1]) (σ' := ((62, mj_KK N, (62, 12258), (600000, 7302249)), I, mj_PP cc dd r)) 1 rfl trivial ?_
    refine R_cL (idx := 31) (mid := 44) (kind := 0) (N := N) (M' := mj_m_X5_corner) (As := [.ref 1, .int (I 0 (i + 1)), .int (I 0 (i + 2)), .int 0]) (rest := []) (I := I) (P := mj_PP cc dd r) (I' := (s_X5_corner cc  (I 0 (i + 1)) (I 0 (i + 2)) 0 I).2) (P' := mj_PP cc dd r) (v := some (.int ((s_X5_corner cc  (I 0 (i + 1)) (I 0 (i + 2)) 0 I).1))) rfl rfl rfl mj_mc44 mj_dc44 rfl rfl rfl rfl rfl rfl (x_X5_corner l b base D z N cc hc (I 0 (i + 1)) (I 0 (i + 2)) 0 I dd r hn) ?_
    have hh := rq_h5_corner hc hR (I 0 (i + 1)) (I 0 (i + 2)) 0
    have hR2 := mj_RL_B hh hR
    have hV := rq_v_corner hc hR2 (I 0 (i + 1)) (I 0 (i + 2)) 0 (Or.inl rfl)
    have f0 := hh 0 (Or.inr rfl)
    have hl6 := rq_l6_corner hc hR2 (I 0 (i + 1)) (I 0 (i + 2)) 0
    obtain ⟨hm, hp3, hs6, hp6, hS6, hP6, hR6, hL, hJ0⟩ := rq_pre6 hR2
    generalize (s_X5_corner cc  (I 0 (i + 1)) (I 0 (i + 2)) 0 I) = g1 at hh hR2 hV f0 hl6 hs6 hp6 hS6 hP6 hR6 hL hJ0 ⊢
    refine R_seg (φ := [mj_in (i + 1) N, mj_in (i + 2) N, mj_in (i + 3) N]) (pc' := 347) (L' := [.ref 0, .ref 1, .ref 42, .int i]) (st' := [.int (g1.2 0 (i + 3)), .int (g1.2 0 (i + 2)), .int (g1.2 0 (i + 1)), .ref 42, .int g1.1]) (σ' := ((62, mj_KK N, (62, 12258), (600000, 7302249)), g1.2, mj_PP cc dd r)) 16 rfl ⟨(hi 1 (by decide) (by decide)), (hi 2 (by decide) (by decide)), (hi 3 (by decide) (by decide)), trivial⟩ ?_
    refine R_br (q := (g1.2 0 (i + 3) : Int32) = 0) (t := 354) (f := 350) (rest := [.int (g1.2 0 (i + 2)), .int (g1.2 0 (i + 1)), .ref 42, .int g1.1]) rfl (fun h2 => ?_) (fun h2 => absurd ((congrFun f0 _).trans h1) h2)
    refine R_seg (φ := []) (pc' := 355) (L' := [.ref 0, .ref 1, .ref 42, .int i]) (st' := [.int 0, .int (g1.2 0 (i + 2)), .int (g1.2 0 (i + 1)), .ref 42, .int g1.1]) (σ' := ((62, mj_KK N, (62, 12258), (600000, 7302249)), g1.2, mj_PP cc dd r)) 1 rfl trivial ?_
    rw [f0]
    refine R_cL (idx := 35) (mid := 112) (kind := 0) (N := N) (M' := mj_m_X6_corner) (As := [.ref 42, .int (I 0 (i + 1)), .int (I 0 (i + 2)), .int 0]) (rest := [.int g1.1]) (I := g1.2) (P := mj_PP cc dd r) (I' := (s_X6_corner  (I 0 (i + 1)) (I 0 (i + 2)) 0 g1.2).2) (P' := mj_PP cc dd r) (v := some (.int ((s_X6_corner  (I 0 (i + 1)) (I 0 (i + 2)) 0 g1.2).1))) rfl rfl rfl mj_mc112 mj_dc112 rfl rfl rfl rfl rfl rfl (x_X6_corner l b base D z N  (I 0 (i + 1)) (I 0 (i + 2)) 0 g1.2 cc dd r hS6) ?_
    refine R_seg (φ := []) (pc' := 358) (L' := [.ref 0, .ref 1, .ref 42, .int i]) (st' := [.int ((s_X6_corner  (I 0 (i + 1)) (I 0 (i + 2)) 0 g1.2).1), .int g1.1]) (σ' := ((62, mj_KK N, (62, 12258), (600000, 7302249)), (s_X6_corner  (I 0 (i + 1)) (I 0 (i + 2)) 0 g1.2).2, mj_PP cc dd r)) 0 rfl trivial ?_
    refine R_br (q := (g1.1 : Int32) = (s_X6_corner  (I 0 (i + 1)) (I 0 (i + 2)) 0 g1.2).1) (t := 1170) (f := 361) (rest := []) rfl (fun h3 => ?_) (fun h3 => absurd (hV.1) h3)
    exact K _ _ _ _ (rq_W_of hcc hl6 hV.2)
  · skip
    refine R_seg (φ := []) (pc' := 328) (L' := [.ref 0, .ref 1, .ref 42, .int i]) (st' := [.int 1, .int (I 0 (i + 2)), .int (I 0 (i + 1)), .ref 1]) (σ' := ((62, mj_KK N, (62, 12258), (600000, 7302249)), I, mj_PP cc dd r)) 2 rfl trivial ?_
    refine R_cL (idx := 31) (mid := 44) (kind := 0) (N := N) (M' := mj_m_X5_corner) (As := [.ref 1, .int (I 0 (i + 1)), .int (I 0 (i + 2)), .int 1]) (rest := []) (I := I) (P := mj_PP cc dd r) (I' := (s_X5_corner cc  (I 0 (i + 1)) (I 0 (i + 2)) 1 I).2) (P' := mj_PP cc dd r) (v := some (.int ((s_X5_corner cc  (I 0 (i + 1)) (I 0 (i + 2)) 1 I).1))) rfl rfl rfl mj_mc44 mj_dc44 rfl rfl rfl rfl rfl rfl (x_X5_corner l b base D z N cc hc (I 0 (i + 1)) (I 0 (i + 2)) 1 I dd r hn) ?_
    have hh := rq_h5_corner hc hR (I 0 (i + 1)) (I 0 (i + 2)) 1
    have hR2 := mj_RL_B hh hR
    have hV := rq_v_corner hc hR2 (I 0 (i + 1)) (I 0 (i + 2)) 1 (Or.inr rfl)
    have f0 := hh 0 (Or.inr rfl)
    have hl6 := rq_l6_corner hc hR2 (I 0 (i + 1)) (I 0 (i + 2)) 1
    obtain ⟨hm, hp3, hs6, hp6, hS6, hP6, hR6, hL, hJ0⟩ := rq_pre6 hR2
    generalize (s_X5_corner cc  (I 0 (i + 1)) (I 0 (i + 2)) 1 I) = g1 at hh hR2 hV f0 hl6 hs6 hp6 hS6 hP6 hR6 hL hJ0 ⊢
    refine R_seg (φ := [mj_in (i + 1) N, mj_in (i + 2) N, mj_in (i + 3) N]) (pc' := 347) (L' := [.ref 0, .ref 1, .ref 42, .int i]) (st' := [.int (g1.2 0 (i + 3)), .int (g1.2 0 (i + 2)), .int (g1.2 0 (i + 1)), .ref 42, .int g1.1]) (σ' := ((62, mj_KK N, (62, 12258), (600000, 7302249)), g1.2, mj_PP cc dd r)) 16 rfl ⟨(hi 1 (by decide) (by decide)), (hi 2 (by decide) (by decide)), (hi 3 (by decide) (by decide)), trivial⟩ ?_
    refine R_br (q := (g1.2 0 (i + 3) : Int32) = 0) (t := 354) (f := 350) (rest := [.int (g1.2 0 (i + 2)), .int (g1.2 0 (i + 1)), .ref 42, .int g1.1]) rfl (fun h4 => absurd h4 (fun q => h1 ((congrFun f0 _).symm.trans q))) (fun h4 => ?_)
    refine R_seg (φ := []) (pc' := 355) (L' := [.ref 0, .ref 1, .ref 42, .int i]) (st' := [.int 1, .int (g1.2 0 (i + 2)), .int (g1.2 0 (i + 1)), .ref 42, .int g1.1]) (σ' := ((62, mj_KK N, (62, 12258), (600000, 7302249)), g1.2, mj_PP cc dd r)) 2 rfl trivial ?_
    rw [f0]
    refine R_cL (idx := 35) (mid := 112) (kind := 0) (N := N) (M' := mj_m_X6_corner) (As := [.ref 42, .int (I 0 (i + 1)), .int (I 0 (i + 2)), .int 1]) (rest := [.int g1.1]) (I := g1.2) (P := mj_PP cc dd r) (I' := (s_X6_corner  (I 0 (i + 1)) (I 0 (i + 2)) 1 g1.2).2) (P' := mj_PP cc dd r) (v := some (.int ((s_X6_corner  (I 0 (i + 1)) (I 0 (i + 2)) 1 g1.2).1))) rfl rfl rfl mj_mc112 mj_dc112 rfl rfl rfl rfl rfl rfl (x_X6_corner l b base D z N  (I 0 (i + 1)) (I 0 (i + 2)) 1 g1.2 cc dd r hS6) ?_
    refine R_seg (φ := []) (pc' := 358) (L' := [.ref 0, .ref 1, .ref 42, .int i]) (st' := [.int ((s_X6_corner  (I 0 (i + 1)) (I 0 (i + 2)) 1 g1.2).1), .int g1.1]) (σ' := ((62, mj_KK N, (62, 12258), (600000, 7302249)), (s_X6_corner  (I 0 (i + 1)) (I 0 (i + 2)) 1 g1.2).2, mj_PP cc dd r)) 0 rfl trivial ?_
    refine R_br (q := (g1.1 : Int32) = (s_X6_corner  (I 0 (i + 1)) (I 0 (i + 2)) 1 g1.2).1) (t := 1170) (f := 361) (rest := []) rfl (fun h5 => ?_) (fun h5 => absurd (hV.1) h5)
    exact K _ _ _ _ (rq_W_of hcc hl6 hV.2)
set_option maxHeartbeats 8000000 in
theorem rq_law_5 (l : Launch) (b base : Nat) (D : va_G) (z : mj_K × (Int32 → Int32)) (N : Nat) {cc dd r m p R : Nat} {I : mj_I} {i : Int32} {Q : Option Value → mj_S → Prop} (hcc : (cc = 2 ∧ dd = 10) ∨ (cc = 10 ∧ dd = 2)) (hR : mj_RL cc m p R I I) (hi : ∀ t : Int32, 0 ≤ t.toInt → t.toInt ≤ 6 → mj_in (i + t) N) (K : ∀ (cc dd r : Nat) (I : mj_I), rq_W cc dd I → mj_Rn l b base D z mj_m_L_law 1170 [.ref 0, .ref 1, .ref 42, .int i] [] ((62, mj_KK N, (62, 12258), (600000, 7302249)), I, mj_PP cc dd r) (Q)) : mj_Rn l b base D z mj_m_L_law 363 [.ref 0, .ref 1, .ref 42, .int i] [] ((62, mj_KK N, (62, 12258), (600000, 7302249)), I, mj_PP cc dd r) (Q) := by
  have hc : cc = 2 ∨ cc = 10 := by omega
  obtain ⟨hm, hp3, hs5, hp5, hn, hpl, hrr, hl, hJ, hCn, hE⟩ := rq_pre5 hR
  refine R_seg (φ := [mj_in (i + 1) N, mj_in (i + 2) N, mj_in (i + 3) N, mj_in (i + 4) N, mj_in (i + 5) N]) (pc' := 389) (L' := [.ref 0, .ref 1, .ref 42, .int i]) (st' := [.int (I 0 (i + 5)), .int (I 0 (i + 4)), .int (I 0 (i + 3)), .int (I 0 (i + 2)), .int (I 0 (i + 1)), .ref 1]) (σ' := ((62, mj_KK N, (62, 12258), (600000, 7302249)), I, mj_PP cc dd r)) 26 rfl ⟨(hi 1 (by decide) (by decide)), (hi 2 (by decide) (by decide)), (hi 3 (by decide) (by decide)), (hi 4 (by decide) (by decide)), (hi 5 (by decide) (by decide)), trivial⟩ ?_
  refine R_cL (idx := 36) (mid := 45) (kind := 0) (N := N) (M' := mj_m_X5_route) (As := [.ref 1, .int (I 0 (i + 1)), .int (I 0 (i + 2)), .int (I 0 (i + 3)), .int (I 0 (i + 4)), .int (I 0 (i + 5))]) (rest := []) (I := I) (P := mj_PP cc dd r) (I' := (s_X5_route cc p (I 0 (i + 1)) (I 0 (i + 2)) (I 0 (i + 3)) (I 0 (i + 4)) (I 0 (i + 5))  I).2) (P' := mj_PP cc dd r) (v := some (.int ((s_X5_route cc p (I 0 (i + 1)) (I 0 (i + 2)) (I 0 (i + 3)) (I 0 (i + 4)) (I 0 (i + 5))  I).1))) rfl rfl rfl mj_mc45 mj_dc45 rfl rfl rfl rfl rfl rfl (x_X5_route l b base D z N cc p (I 0 (i + 1)) (I 0 (i + 2)) (I 0 (i + 3)) (I 0 (i + 4)) (I 0 (i + 5)) hc I dd r hl hn hp5 hp3) ?_
  have hh := rq_h5_route hc hR (I 0 (i + 1)) (I 0 (i + 2)) (I 0 (i + 3)) (I 0 (i + 4)) (I 0 (i + 5))
  have hR2 := mj_RL_B hh hR
  have hV := rq_v_route hc hR2 (I 0 (i + 1)) (I 0 (i + 2)) (I 0 (i + 3)) (I 0 (i + 4)) (I 0 (i + 5))
  have f0 := hh 0 (Or.inr rfl)
  have hl6 := rq_l6_route hc hR2 (I 0 (i + 1)) (I 0 (i + 2)) (I 0 (i + 3)) (I 0 (i + 4)) (I 0 (i + 5))
  obtain ⟨hm, hp3, hs6, hp6, hS6, hP6, hR6, hL, hJ0⟩ := rq_pre6 hR2
  generalize (s_X5_route cc p (I 0 (i + 1)) (I 0 (i + 2)) (I 0 (i + 3)) (I 0 (i + 4)) (I 0 (i + 5))  I) = g1 at hh hR2 hV f0 hl6 hs6 hp6 hS6 hP6 hR6 hL hJ0 ⊢
  refine R_seg (φ := [mj_in (i + 1) N, mj_in (i + 2) N, mj_in (i + 3) N, mj_in (i + 4) N, mj_in (i + 5) N]) (pc' := 418) (L' := [.ref 0, .ref 1, .ref 42, .int i]) (st' := [.int (g1.2 0 (i + 5)), .int (g1.2 0 (i + 4)), .int (g1.2 0 (i + 3)), .int (g1.2 0 (i + 2)), .int (g1.2 0 (i + 1)), .ref 42, .int g1.1]) (σ' := ((62, mj_KK N, (62, 12258), (600000, 7302249)), g1.2, mj_PP cc dd r)) 26 rfl ⟨(hi 1 (by decide) (by decide)), (hi 2 (by decide) (by decide)), (hi 3 (by decide) (by decide)), (hi 4 (by decide) (by decide)), (hi 5 (by decide) (by decide)), trivial⟩ ?_
  rw [f0]
  refine R_cL (idx := 40) (mid := 120) (kind := 0) (N := N) (M' := mj_m_X6_route) (As := [.ref 42, .int (I 0 (i + 1)), .int (I 0 (i + 2)), .int (I 0 (i + 3)), .int (I 0 (i + 4)), .int (I 0 (i + 5))]) (rest := [.int g1.1]) (I := g1.2) (P := mj_PP cc dd r) (I' := (s_X6_route p (I 0 (i + 1)) (I 0 (i + 2)) (I 0 (i + 3)) (I 0 (i + 4)) (I 0 (i + 5)) g1.2).2) (P' := mj_PP cc dd r) (v := some (.int ((s_X6_route p (I 0 (i + 1)) (I 0 (i + 2)) (I 0 (i + 3)) (I 0 (i + 4)) (I 0 (i + 5)) g1.2).1))) rfl rfl rfl mj_mc120 mj_dc120 rfl rfl rfl rfl rfl rfl (x_X6_route l b base D z N p (I 0 (i + 1)) (I 0 (i + 2)) (I 0 (i + 3)) (I 0 (i + 4)) (I 0 (i + 5)) g1.2 cc dd r hS6 hp6 hp3 hL) ?_
  refine R_seg (φ := []) (pc' := 421) (L' := [.ref 0, .ref 1, .ref 42, .int i]) (st' := [.int ((s_X6_route p (I 0 (i + 1)) (I 0 (i + 2)) (I 0 (i + 3)) (I 0 (i + 4)) (I 0 (i + 5)) g1.2).1), .int g1.1]) (σ' := ((62, mj_KK N, (62, 12258), (600000, 7302249)), (s_X6_route p (I 0 (i + 1)) (I 0 (i + 2)) (I 0 (i + 3)) (I 0 (i + 4)) (I 0 (i + 5)) g1.2).2, mj_PP cc dd r)) 0 rfl trivial ?_
  refine R_br (q := (g1.1 : Int32) = (s_X6_route p (I 0 (i + 1)) (I 0 (i + 2)) (I 0 (i + 3)) (I 0 (i + 4)) (I 0 (i + 5)) g1.2).1) (t := 1170) (f := 424) (rest := []) rfl (fun h1 => ?_) (fun h1 => absurd (hV.1) h1)
  exact K _ _ _ _ (rq_W_of hcc hl6 hV.2)
set_option maxHeartbeats 8000000 in
theorem rq_law_6 (l : Launch) (b base : Nat) (D : va_G) (z : mj_K × (Int32 → Int32)) (N : Nat) {cc dd r m p R : Nat} {I : mj_I} {i : Int32} {Q : Option Value → mj_S → Prop} (hcc : (cc = 2 ∧ dd = 10) ∨ (cc = 10 ∧ dd = 2)) (hR : mj_RL cc m p R I I) (hi : ∀ t : Int32, 0 ≤ t.toInt → t.toInt ≤ 6 → mj_in (i + t) N) (K : ∀ (cc dd r : Nat) (I : mj_I), rq_W cc dd I → mj_Rn l b base D z mj_m_L_law 1170 [.ref 0, .ref 1, .ref 42, .int i] [] ((62, mj_KK N, (62, 12258), (600000, 7302249)), I, mj_PP cc dd r) (Q)) : mj_Rn l b base D z mj_m_L_law 426 [.ref 0, .ref 1, .ref 42, .int i] [] ((62, mj_KK N, (62, 12258), (600000, 7302249)), I, mj_PP cc dd r) (Q) := by
  have hc : cc = 2 ∨ cc = 10 := by omega
  obtain ⟨hm, hp3, hs5, hp5, hn, hpl, hrr, hl, hJ, hCn, hE⟩ := rq_pre5 hR
  refine R_seg (φ := [mj_in (i + 1) N, mj_in (i + 2) N, mj_in (i + 3) N]) (pc' := 442) (L' := [.ref 0, .ref 1, .ref 42, .int i]) (st' := [.int (I 0 (i + 3)), .int (I 0 (i + 2)), .int (I 0 (i + 1)), .ref 1]) (σ' := ((62, mj_KK N, (62, 12258), (600000, 7302249)), I, mj_PP cc dd r)) 16 rfl ⟨(hi 1 (by decide) (by decide)), (hi 2 (by decide) (by decide)), (hi 3 (by decide) (by decide)), trivial⟩ ?_
  refine R_cL (idx := 41) (mid := 55) (kind := 0) (N := N) (M' := mj_m_X5_quickest) (As := [.ref 1, .int (I 0 (i + 1)), .int (I 0 (i + 2)), .int (I 0 (i + 3))]) (rest := []) (I := I) (P := mj_PP cc dd r) (I' := (s_X5_quickest cc m (I 0 (i + 1)) (I 0 (i + 2)) (I 0 (i + 3))  I).2) (P' := mj_PP cc dd r) (v := some (.int ((s_X5_quickest cc m (I 0 (i + 1)) (I 0 (i + 2)) (I 0 (i + 3))  I).1))) rfl rfl rfl mj_mc55 mj_dc55 rfl rfl rfl rfl rfl rfl (x_X5_quickest l b base D z N cc m (I 0 (i + 1)) (I 0 (i + 2)) (I 0 (i + 3)) hc I dd r hm hs5 hn hE) ?_
  have hh := rq_h5_quickest hc hR (I 0 (i + 1)) (I 0 (i + 2)) (I 0 (i + 3))
  have hR2 := mj_RL_B hh hR
  have hV := rq_v_quickest hc hR2 (I 0 (i + 1)) (I 0 (i + 2)) (I 0 (i + 3))
  have f0 := hh 0 (Or.inr rfl)
  have hl6 := rq_l6_quickest hc hR2 (I 0 (i + 1)) (I 0 (i + 2)) (I 0 (i + 3))
  obtain ⟨hm, hp3, hs6, hp6, hS6, hP6, hR6, hL, hJ0⟩ := rq_pre6 hR2
  generalize (s_X5_quickest cc m (I 0 (i + 1)) (I 0 (i + 2)) (I 0 (i + 3))  I) = g1 at hh hR2 hV f0 hl6 hs6 hp6 hS6 hP6 hR6 hL hJ0 ⊢
  refine R_seg (φ := [mj_in (i + 1) N, mj_in (i + 2) N, mj_in (i + 3) N]) (pc' := 461) (L' := [.ref 0, .ref 1, .ref 42, .int i]) (st' := [.int (g1.2 0 (i + 3)), .int (g1.2 0 (i + 2)), .int (g1.2 0 (i + 1)), .ref 42, .int g1.1]) (σ' := ((62, mj_KK N, (62, 12258), (600000, 7302249)), g1.2, mj_PP cc dd r)) 16 rfl ⟨(hi 1 (by decide) (by decide)), (hi 2 (by decide) (by decide)), (hi 3 (by decide) (by decide)), trivial⟩ ?_
  rw [f0]
  refine R_cL (idx := 45) (mid := 128) (kind := 0) (N := N) (M' := mj_m_X6_quickest) (As := [.ref 42, .int (I 0 (i + 1)), .int (I 0 (i + 2)), .int (I 0 (i + 3))]) (rest := [.int g1.1]) (I := g1.2) (P := mj_PP cc dd r) (I' := (s_X6_quickest m (I 0 (i + 1)) (I 0 (i + 2)) (I 0 (i + 3)) g1.2).2) (P' := mj_PP cc dd r) (v := some (.int ((s_X6_quickest m (I 0 (i + 1)) (I 0 (i + 2)) (I 0 (i + 3)) g1.2).1))) rfl rfl rfl mj_mc128 mj_dc128 rfl rfl rfl rfl rfl rfl (x_X6_quickest l b base D z N m (I 0 (i + 1)) (I 0 (i + 2)) (I 0 (i + 3)) g1.2 cc dd r hm hs6 (rq_F hR2) (rq_qQ hc hR2 (I 0 (i + 1)) (I 0 (i + 2)))) ?_
  refine R_seg (φ := []) (pc' := 464) (L' := [.ref 0, .ref 1, .ref 42, .int i]) (st' := [.int ((s_X6_quickest m (I 0 (i + 1)) (I 0 (i + 2)) (I 0 (i + 3)) g1.2).1), .int g1.1]) (σ' := ((62, mj_KK N, (62, 12258), (600000, 7302249)), (s_X6_quickest m (I 0 (i + 1)) (I 0 (i + 2)) (I 0 (i + 3)) g1.2).2, mj_PP cc dd r)) 0 rfl trivial ?_
  refine R_br (q := (g1.1 : Int32) = (s_X6_quickest m (I 0 (i + 1)) (I 0 (i + 2)) (I 0 (i + 3)) g1.2).1) (t := 1170) (f := 467) (rest := []) rfl (fun h1 => ?_) (fun h1 => absurd (hV.1) h1)
  exact K _ _ _ _ (rq_W_of hcc hl6 hV.2)
set_option maxHeartbeats 8000000 in
theorem rq_law_7 (l : Launch) (b base : Nat) (D : va_G) (z : mj_K × (Int32 → Int32)) (N : Nat) {cc dd r m p R : Nat} {I : mj_I} {i : Int32} {Q : Option Value → mj_S → Prop} (hcc : (cc = 2 ∧ dd = 10) ∨ (cc = 10 ∧ dd = 2)) (hR : mj_RL cc m p R I I) (hi : ∀ t : Int32, 0 ≤ t.toInt → t.toInt ≤ 6 → mj_in (i + t) N) (K : ∀ (cc dd r : Nat) (I : mj_I), rq_W cc dd I → mj_Rn l b base D z mj_m_L_law 1170 [.ref 0, .ref 1, .ref 42, .int i] [] ((62, mj_KK N, (62, 12258), (600000, 7302249)), I, mj_PP cc dd r) (Q)) : mj_Rn l b base D z mj_m_L_law 469 [.ref 0, .ref 1, .ref 42, .int i] [] ((62, mj_KK N, (62, 12258), (600000, 7302249)), I, mj_PP cc dd r) (Q) := by
  have hc : cc = 2 ∨ cc = 10 := by omega
  obtain ⟨hm, hp3, hs5, hp5, hn, hpl, hrr, hl, hJ, hCn, hE⟩ := rq_pre5 hR
  refine R_seg (φ := [mj_in (i + 1) N, mj_in (i + 2) N]) (pc' := 480) (L' := [.ref 0, .ref 1, .ref 42, .int i]) (st' := [.int (I 0 (i + 2)), .int (I 0 (i + 1)), .ref 1]) (σ' := ((62, mj_KK N, (62, 12258), (600000, 7302249)), I, mj_PP cc dd r)) 11 rfl ⟨(hi 1 (by decide) (by decide)), (hi 2 (by decide) (by decide)), trivial⟩ ?_
  refine R_cL (idx := 46) (mid := 56) (kind := 0) (N := N) (M' := mj_m_X5_mild) (As := [.ref 1, .int (I 0 (i + 1)), .int (I 0 (i + 2))]) (rest := []) (I := I) (P := mj_PP cc dd r) (I' := (s_X5_mild cc m (I 0 (i + 1)) (I 0 (i + 2))  I).2) (P' := mj_PP cc dd r) (v := some (.int ((s_X5_mild cc m (I 0 (i + 1)) (I 0 (i + 2))  I).1))) rfl rfl rfl mj_mc56 mj_dc56 rfl rfl rfl rfl rfl rfl (x_X5_mild l b base D z N cc m (I 0 (i + 1)) (I 0 (i + 2)) hc I dd r hm hs5 hn) ?_
  have hh := rq_h5_mild hc hR (I 0 (i + 1)) (I 0 (i + 2))
  have hR2 := mj_RL_B hh hR
  have hV := rq_v_mild hc hR2 (I 0 (i + 1)) (I 0 (i + 2))
  have f0 := hh 0 (Or.inr rfl)
  have hl6 := rq_l6_mild hc hR2 (I 0 (i + 1)) (I 0 (i + 2))
  obtain ⟨hm, hp3, hs6, hp6, hS6, hP6, hR6, hL, hJ0⟩ := rq_pre6 hR2
  generalize (s_X5_mild cc m (I 0 (i + 1)) (I 0 (i + 2))  I) = g1 at hh hR2 hV f0 hl6 hs6 hp6 hS6 hP6 hR6 hL hJ0 ⊢
  refine R_seg (φ := [mj_in (i + 1) N, mj_in (i + 2) N]) (pc' := 494) (L' := [.ref 0, .ref 1, .ref 42, .int i]) (st' := [.int (g1.2 0 (i + 2)), .int (g1.2 0 (i + 1)), .ref 42, .int g1.1]) (σ' := ((62, mj_KK N, (62, 12258), (600000, 7302249)), g1.2, mj_PP cc dd r)) 11 rfl ⟨(hi 1 (by decide) (by decide)), (hi 2 (by decide) (by decide)), trivial⟩ ?_
  rw [f0]
  refine R_cL (idx := 49) (mid := 131) (kind := 0) (N := N) (M' := mj_m_X6_mild) (As := [.ref 42, .int (I 0 (i + 1)), .int (I 0 (i + 2))]) (rest := [.int g1.1]) (I := g1.2) (P := mj_PP cc dd r) (I' := (s_X6_mild m (I 0 (i + 1)) (I 0 (i + 2)) g1.2).2) (P' := mj_PP cc dd r) (v := some (.int ((s_X6_mild m (I 0 (i + 1)) (I 0 (i + 2)) g1.2).1))) rfl rfl rfl mj_mc131 mj_dc131 rfl rfl rfl rfl rfl rfl (x_X6_mild l b base D z N m (I 0 (i + 1)) (I 0 (i + 2)) g1.2 cc dd r hm hs6) ?_
  refine R_seg (φ := []) (pc' := 497) (L' := [.ref 0, .ref 1, .ref 42, .int i]) (st' := [.int ((s_X6_mild m (I 0 (i + 1)) (I 0 (i + 2)) g1.2).1), .int g1.1]) (σ' := ((62, mj_KK N, (62, 12258), (600000, 7302249)), (s_X6_mild m (I 0 (i + 1)) (I 0 (i + 2)) g1.2).2, mj_PP cc dd r)) 0 rfl trivial ?_
  refine R_br (q := (g1.1 : Int32) = (s_X6_mild m (I 0 (i + 1)) (I 0 (i + 2)) g1.2).1) (t := 1170) (f := 500) (rest := []) rfl (fun h1 => ?_) (fun h1 => absurd (hV.1) h1)
  exact K _ _ _ _ (rq_W_of hcc hl6 hV.2)
set_option maxHeartbeats 8000000 in
theorem rq_law_8 (l : Launch) (b base : Nat) (D : va_G) (z : mj_K × (Int32 → Int32)) (N : Nat) {cc dd r m p R : Nat} {I : mj_I} {i : Int32} {Q : Option Value → mj_S → Prop} (hcc : (cc = 2 ∧ dd = 10) ∨ (cc = 10 ∧ dd = 2)) (hR : mj_RL cc m p R I I) (hi : ∀ t : Int32, 0 ≤ t.toInt → t.toInt ≤ 6 → mj_in (i + t) N) (K : ∀ (cc dd r : Nat) (I : mj_I), rq_W cc dd I → mj_Rn l b base D z mj_m_L_law 1170 [.ref 0, .ref 1, .ref 42, .int i] [] ((62, mj_KK N, (62, 12258), (600000, 7302249)), I, mj_PP cc dd r) (Q)) : mj_Rn l b base D z mj_m_L_law 502 [.ref 0, .ref 1, .ref 42, .int i] [] ((62, mj_KK N, (62, 12258), (600000, 7302249)), I, mj_PP cc dd r) (Q) := by
  have hc : cc = 2 ∨ cc = 10 := by omega
  obtain ⟨hm, hp3, hs5, hp5, hn, hpl, hrr, hl, hJ, hCn, hE⟩ := rq_pre5 hR
  refine R_seg (φ := []) (pc' := 503) (L' := [.ref 0, .ref 1, .ref 42, .int i]) (st' := [.ref 1]) (σ' := ((62, mj_KK N, (62, 12258), (600000, 7302249)), I, mj_PP cc dd r)) 1 rfl trivial ?_
  refine R_cL (idx := 50) (mid := 57) (kind := 0) (N := N) (M' := mj_m_X5_best) (As := [.ref 1]) (rest := []) (I := I) (P := mj_PP cc dd r) (I' := (s_X5_best cc m   I).2) (P' := mj_PP cc dd r) (v := some (.int ((s_X5_best cc m   I).1))) rfl rfl rfl mj_mc57 mj_dc57 rfl rfl rfl rfl rfl rfl (x_X5_best l b base D z N cc m  hc I dd r hm hs5) ?_
  have hh := rq_h5_best hc hR 
  have hR2 := mj_RL_B hh hR
  have hV := rq_v_best hc hR2 
  have f0 := hh 0 (Or.inr rfl)
  have hl6 := rq_l6_best hc hR2 
  obtain ⟨hm, hp3, hs6, hp6, hS6, hP6, hR6, hL, hJ0⟩ := rq_pre6 hR2
  generalize (s_X5_best cc m   I) = g1 at hh hR2 hV f0 hl6 hs6 hp6 hS6 hP6 hR6 hL hJ0 ⊢
  refine R_seg (φ := []) (pc' := 507) (L' := [.ref 0, .ref 1, .ref 42, .int i]) (st' := [.ref 42, .int g1.1]) (σ' := ((62, mj_KK N, (62, 12258), (600000, 7302249)), g1.2, mj_PP cc dd r)) 1 rfl trivial ?_
  refine R_cL (idx := 54) (mid := 133) (kind := 0) (N := N) (M' := mj_m_X6_best) (As := [.ref 42]) (rest := [.int g1.1]) (I := g1.2) (P := mj_PP cc dd r) (I' := (s_X6_best m  g1.2).2) (P' := mj_PP cc dd r) (v := some (.int ((s_X6_best m  g1.2).1))) rfl rfl rfl mj_mc133 mj_dc133 rfl rfl rfl rfl rfl rfl (x_X6_best l b base D z N m  g1.2 cc dd r hm hs6) ?_
  refine R_seg (φ := []) (pc' := 510) (L' := [.ref 0, .ref 1, .ref 42, .int i]) (st' := [.int ((s_X6_best m  g1.2).1), .int g1.1]) (σ' := ((62, mj_KK N, (62, 12258), (600000, 7302249)), (s_X6_best m  g1.2).2, mj_PP cc dd r)) 0 rfl trivial ?_
  refine R_br (q := (g1.1 : Int32) = (s_X6_best m  g1.2).1) (t := 1170) (f := 513) (rest := []) rfl (fun h1 => ?_) (fun h1 => absurd (hV.1) h1)
  exact K _ _ _ _ (rq_W_of hcc hl6 hV.2)
set_option maxHeartbeats 8000000 in
theorem rq_law_9 (l : Launch) (b base : Nat) (D : va_G) (z : mj_K × (Int32 → Int32)) (N : Nat) {cc dd r m p R : Nat} {I : mj_I} {i : Int32} {Q : Option Value → mj_S → Prop} (hcc : (cc = 2 ∧ dd = 10) ∨ (cc = 10 ∧ dd = 2)) (hR : mj_RL cc m p R I I) (hi : ∀ t : Int32, 0 ≤ t.toInt → t.toInt ≤ 6 → mj_in (i + t) N) (K : ∀ (cc dd r : Nat) (I : mj_I), rq_W cc dd I → mj_Rn l b base D z mj_m_L_law 1170 [.ref 0, .ref 1, .ref 42, .int i] [] ((62, mj_KK N, (62, 12258), (600000, 7302249)), I, mj_PP cc dd r) (Q)) : mj_Rn l b base D z mj_m_L_law 515 [.ref 0, .ref 1, .ref 42, .int i] [] ((62, mj_KK N, (62, 12258), (600000, 7302249)), I, mj_PP cc dd r) (Q) := by
  have hc : cc = 2 ∨ cc = 10 := by omega
  obtain ⟨hm, hp3, hs5, hp5, hn, hpl, hrr, hl, hJ, hCn, hE⟩ := rq_pre5 hR
  refine R_seg (φ := [mj_in (i + 1) N, mj_in (i + 2) N]) (pc' := 526) (L' := [.ref 0, .ref 1, .ref 42, .int i]) (st' := [.int (I 0 (i + 2)), .int (I 0 (i + 1)), .ref 1]) (σ' := ((62, mj_KK N, (62, 12258), (600000, 7302249)), I, mj_PP cc dd r)) 11 rfl ⟨(hi 1 (by decide) (by decide)), (hi 2 (by decide) (by decide)), trivial⟩ ?_
  refine R_cL (idx := 55) (mid := 61) (kind := 0) (N := N) (M' := mj_m_X5_reading) (As := [.ref 1, .int (I 0 (i + 1)), .int (I 0 (i + 2))]) (rest := []) (I := I) (P := mj_PP cc dd r) (I' := (s_X5_reading cc  (I 0 (i + 1)) (I 0 (i + 2)) I).2) (P' := mj_PP cc dd r) (v := some (.int ((s_X5_reading cc  (I 0 (i + 1)) (I 0 (i + 2)) I).1))) rfl rfl rfl mj_mc61 mj_dc61 rfl rfl rfl rfl rfl rfl (x_X5_reading l b base D z N cc hc (I 0 (i + 1)) (I 0 (i + 2)) I dd r hrr) ?_
  have hh := rq_h5_reading hc hR (I 0 (i + 1)) (I 0 (i + 2))
  have hR2 := mj_RL_B hh hR
  have hV := rq_v_reading hc hR2 (I 0 (i + 1)) (I 0 (i + 2))
  have f0 := hh 0 (Or.inr rfl)
  have hl6 := rq_l6_reading hc hR2 (I 0 (i + 1)) (I 0 (i + 2))
  obtain ⟨hm, hp3, hs6, hp6, hS6, hP6, hR6, hL, hJ0⟩ := rq_pre6 hR2
  generalize (s_X5_reading cc  (I 0 (i + 1)) (I 0 (i + 2)) I) = g1 at hh hR2 hV f0 hl6 hs6 hp6 hS6 hP6 hR6 hL hJ0 ⊢
  refine R_seg (φ := [mj_in (i + 1) N, mj_in (i + 2) N]) (pc' := 540) (L' := [.ref 0, .ref 1, .ref 42, .int i]) (st' := [.int (g1.2 0 (i + 2)), .int (g1.2 0 (i + 1)), .ref 42, .int g1.1]) (σ' := ((62, mj_KK N, (62, 12258), (600000, 7302249)), g1.2, mj_PP cc dd r)) 11 rfl ⟨(hi 1 (by decide) (by decide)), (hi 2 (by decide) (by decide)), trivial⟩ ?_
  rw [f0]
  refine R_cL (idx := 58) (mid := 134) (kind := 0) (N := N) (M' := mj_m_X6_reading) (As := [.ref 42, .int (I 0 (i + 1)), .int (I 0 (i + 2))]) (rest := [.int g1.1]) (I := g1.2) (P := mj_PP cc dd r) (I' := (s_X6_reading  (I 0 (i + 1)) (I 0 (i + 2)) g1.2).2) (P' := mj_PP cc dd r) (v := some (.int ((s_X6_reading  (I 0 (i + 1)) (I 0 (i + 2)) g1.2).1))) rfl rfl rfl mj_mc134 mj_dc134 rfl rfl rfl rfl rfl rfl (x_X6_reading l b base D z N  (I 0 (i + 1)) (I 0 (i + 2)) g1.2 cc dd r hR6) ?_
  refine R_seg (φ := []) (pc' := 543) (L' := [.ref 0, .ref 1, .ref 42, .int i]) (st' := [.int ((s_X6_reading  (I 0 (i + 1)) (I 0 (i + 2)) g1.2).1), .int g1.1]) (σ' := ((62, mj_KK N, (62, 12258), (600000, 7302249)), (s_X6_reading  (I 0 (i + 1)) (I 0 (i + 2)) g1.2).2, mj_PP cc dd r)) 0 rfl trivial ?_
  refine R_br (q := (g1.1 : Int32) = (s_X6_reading  (I 0 (i + 1)) (I 0 (i + 2)) g1.2).1) (t := 1170) (f := 546) (rest := []) rfl (fun h1 => ?_) (fun h1 => absurd (hV.1) h1)
  exact K _ _ _ _ (rq_W_of hcc hl6 hV.2)
set_option maxHeartbeats 8000000 in
theorem rq_law_10 (l : Launch) (b base : Nat) (D : va_G) (z : mj_K × (Int32 → Int32)) (N : Nat) {cc dd r m p R : Nat} {I : mj_I} {i : Int32} {Q : Option Value → mj_S → Prop} (hcc : (cc = 2 ∧ dd = 10) ∨ (cc = 10 ∧ dd = 2)) (hR : mj_RL cc m p R I I) (hi : ∀ t : Int32, 0 ≤ t.toInt → t.toInt ≤ 6 → mj_in (i + t) N) (K : ∀ (cc dd r : Nat) (I : mj_I), rq_W cc dd I → mj_Rn l b base D z mj_m_L_law 1170 [.ref 0, .ref 1, .ref 42, .int i] [] ((62, mj_KK N, (62, 12258), (600000, 7302249)), I, mj_PP cc dd r) (Q)) : mj_Rn l b base D z mj_m_L_law 548 [.ref 0, .ref 1, .ref 42, .int i] [] ((62, mj_KK N, (62, 12258), (600000, 7302249)), I, mj_PP cc dd r) (Q) := by
  have hc : cc = 2 ∨ cc = 10 := by omega
  obtain ⟨hm, hp3, hs5, hp5, hn, hpl, hrr, hl, hJ, hCn, hE⟩ := rq_pre5 hR
  refine R_seg (φ := [mj_in (i + 1) N]) (pc' := 554) (L' := [.ref 0, .ref 1, .ref 42, .int i]) (st' := [.int (I 0 (i + 1)), .ref 1]) (σ' := ((62, mj_KK N, (62, 12258), (600000, 7302249)), I, mj_PP cc dd r)) 6 rfl ⟨(hi 1 (by decide) (by decide)), trivial⟩ ?_
  refine R_cL (idx := 59) (mid := 62) (kind := 0) (N := N) (M' := mj_m_X5_back) (As := [.ref 1, .int (I 0 (i + 1))]) (rest := []) (I := I) (P := mj_PP cc dd r) (I' := (s_X5_back (I 0 (i + 1)) I).2) (P' := mj_PP cc dd r) (v := some (.int ((s_X5_back (I 0 (i + 1)) I).1))) rfl rfl rfl mj_mc62 mj_dc62 rfl rfl rfl rfl rfl rfl (x_X5_back l b base D z N (I 0 (i + 1)) I cc dd r ) ?_
  have hh := rq_h5_back hc hR (I 0 (i + 1))
  have hR2 := mj_RL_B hh hR
  have hV := rq_v_back hc hR2 (I 0 (i + 1))
  have f0 := hh 0 (Or.inr rfl)
  have hl6 := rq_l6_back hc hR2 (I 0 (i + 1))
  obtain ⟨hm, hp3, hs6, hp6, hS6, hP6, hR6, hL, hJ0⟩ := rq_pre6 hR2
  generalize (s_X5_back (I 0 (i + 1)) I) = g1 at hh hR2 hV f0 hl6 hs6 hp6 hS6 hP6 hR6 hL hJ0 ⊢
  refine R_seg (φ := [mj_in (i + 1) N]) (pc' := 563) (L' := [.ref 0, .ref 1, .ref 42, .int i]) (st' := [.int (g1.2 0 (i + 1)), .ref 42, .int g1.1]) (σ' := ((62, mj_KK N, (62, 12258), (600000, 7302249)), g1.2, mj_PP cc dd r)) 6 rfl ⟨(hi 1 (by decide) (by decide)), trivial⟩ ?_
  rw [f0]
  refine R_cL (idx := 63) (mid := 135) (kind := 0) (N := N) (M' := mj_m_X6_back) (As := [.ref 42, .int (I 0 (i + 1))]) (rest := [.int g1.1]) (I := g1.2) (P := mj_PP cc dd r) (I' := (s_X6_back  (I 0 (i + 1)) g1.2).2) (P' := mj_PP cc dd r) (v := some (.int ((s_X6_back  (I 0 (i + 1)) g1.2).1))) rfl rfl rfl mj_mc135 mj_dc135 rfl rfl rfl rfl rfl rfl (x_X6_back l b base D z N  (I 0 (i + 1)) g1.2 cc dd r ) ?_
  refine R_seg (φ := []) (pc' := 566) (L' := [.ref 0, .ref 1, .ref 42, .int i]) (st' := [.int ((s_X6_back  (I 0 (i + 1)) g1.2).1), .int g1.1]) (σ' := ((62, mj_KK N, (62, 12258), (600000, 7302249)), (s_X6_back  (I 0 (i + 1)) g1.2).2, mj_PP cc dd r)) 0 rfl trivial ?_
  refine R_br (q := (g1.1 : Int32) = (s_X6_back  (I 0 (i + 1)) g1.2).1) (t := 1170) (f := 569) (rest := []) rfl (fun h1 => ?_) (fun h1 => absurd (hV.1) h1)
  exact K _ _ _ _ (rq_W_of hcc hl6 hV.2)
set_option maxHeartbeats 8000000 in
theorem rq_law_11 (l : Launch) (b base : Nat) (D : va_G) (z : mj_K × (Int32 → Int32)) (N : Nat) {cc dd r m p R : Nat} {I : mj_I} {i : Int32} {Q : Option Value → mj_S → Prop} (hcc : (cc = 2 ∧ dd = 10) ∨ (cc = 10 ∧ dd = 2)) (hR : mj_RL cc m p R I I) (hi : ∀ t : Int32, 0 ≤ t.toInt → t.toInt ≤ 6 → mj_in (i + t) N) (K : ∀ (cc dd r : Nat) (I : mj_I), rq_W cc dd I → mj_Rn l b base D z mj_m_L_law 1170 [.ref 0, .ref 1, .ref 42, .int i] [] ((62, mj_KK N, (62, 12258), (600000, 7302249)), I, mj_PP cc dd r) (Q)) : mj_Rn l b base D z mj_m_L_law 571 [.ref 0, .ref 1, .ref 42, .int i] [] ((62, mj_KK N, (62, 12258), (600000, 7302249)), I, mj_PP cc dd r) (Q) := by
  have hc : cc = 2 ∨ cc = 10 := by omega
  obtain ⟨hm, hp3, hs5, hp5, hn, hpl, hrr, hl, hJ, hCn, hE⟩ := rq_pre5 hR
  refine R_seg (φ := [mj_in (i + 1) N, mj_in (i + 2) N, mj_in (i + 3) N, mj_in (i + 4) N, mj_in (i + 5) N]) (pc' := 597) (L' := [.ref 0, .ref 1, .ref 42, .int i]) (st' := [.int (I 0 (i + 5)), .int (I 0 (i + 4)), .int (I 0 (i + 3)), .int (I 0 (i + 2)), .int (I 0 (i + 1)), .ref 1]) (σ' := ((62, mj_KK N, (62, 12258), (600000, 7302249)), I, mj_PP cc dd r)) 26 rfl ⟨(hi 1 (by decide) (by decide)), (hi 2 (by decide) (by decide)), (hi 3 (by decide) (by decide)), (hi 4 (by decide) (by decide)), (hi 5 (by decide) (by decide)), trivial⟩ ?_
  refine R_cL (idx := 64) (mid := 63) (kind := 0) (N := N) (M' := mj_m_X5_seasons) (As := [.ref 1, .int (I 0 (i + 1)), .int (I 0 (i + 2)), .int (I 0 (i + 3)), .int (I 0 (i + 4)), .int (I 0 (i + 5))]) (rest := []) (I := I) (P := mj_PP cc dd r) (I' := (s_X5_seasons cc p R (I 0 (i + 1)) (I 0 (i + 2)) (I 0 (i + 3)) (I 0 (i + 4)) (I 0 (i + 5))  I).2) (P' := mj_PP cc dd r) (v := some (.int ((s_X5_seasons cc p R (I 0 (i + 1)) (I 0 (i + 2)) (I 0 (i + 3)) (I 0 (i + 4)) (I 0 (i + 5))  I).1))) rfl rfl rfl mj_mc63 mj_dc63 rfl rfl rfl rfl rfl rfl (x_X5_seasons l b base D z N cc p R (I 0 (i + 1)) (I 0 (i + 2)) (I 0 (i + 3)) (I 0 (i + 4)) (I 0 (i + 5)) hc I dd r hl hn hJ) ?_
  have hh := rq_h5_seasons hc hR (I 0 (i + 1)) (I 0 (i + 2)) (I 0 (i + 3)) (I 0 (i + 4)) (I 0 (i + 5))
  have hR2 := mj_RL_B hh hR
  have hV := rq_v_seasons hc hR2 (I 0 (i + 1)) (I 0 (i + 2)) (I 0 (i + 3)) (I 0 (i + 4)) (I 0 (i + 5))
  have f0 := hh 0 (Or.inr rfl)
  have hl6 := rq_l6_seasons hc hR2 (I 0 (i + 1)) (I 0 (i + 2)) (I 0 (i + 3)) (I 0 (i + 4)) (I 0 (i + 5))
  obtain ⟨hm, hp3, hs6, hp6, hS6, hP6, hR6, hL, hJ0⟩ := rq_pre6 hR2
  generalize (s_X5_seasons cc p R (I 0 (i + 1)) (I 0 (i + 2)) (I 0 (i + 3)) (I 0 (i + 4)) (I 0 (i + 5))  I) = g1 at hh hR2 hV f0 hl6 hs6 hp6 hS6 hP6 hR6 hL hJ0 ⊢
  refine R_seg (φ := [mj_in (i + 1) N, mj_in (i + 2) N, mj_in (i + 3) N, mj_in (i + 4) N, mj_in (i + 5) N]) (pc' := 626) (L' := [.ref 0, .ref 1, .ref 42, .int i]) (st' := [.int (g1.2 0 (i + 5)), .int (g1.2 0 (i + 4)), .int (g1.2 0 (i + 3)), .int (g1.2 0 (i + 2)), .int (g1.2 0 (i + 1)), .ref 42, .int g1.1]) (σ' := ((62, mj_KK N, (62, 12258), (600000, 7302249)), g1.2, mj_PP cc dd r)) 26 rfl ⟨(hi 1 (by decide) (by decide)), (hi 2 (by decide) (by decide)), (hi 3 (by decide) (by decide)), (hi 4 (by decide) (by decide)), (hi 5 (by decide) (by decide)), trivial⟩ ?_
  rw [f0]
  refine R_cL (idx := 67) (mid := 138) (kind := 0) (N := N) (M' := mj_m_X6_seasons) (As := [.ref 42, .int (I 0 (i + 1)), .int (I 0 (i + 2)), .int (I 0 (i + 3)), .int (I 0 (i + 4)), .int (I 0 (i + 5))]) (rest := [.int g1.1]) (I := g1.2) (P := mj_PP cc dd r) (I' := (s_X6_seasons p R (I 0 (i + 1)) (I 0 (i + 2)) (I 0 (i + 3)) (I 0 (i + 4)) (I 0 (i + 5)) g1.2).2) (P' := mj_PP cc dd r) (v := some (.int ((s_X6_seasons p R (I 0 (i + 1)) (I 0 (i + 2)) (I 0 (i + 3)) (I 0 (i + 4)) (I 0 (i + 5)) g1.2).1))) rfl rfl rfl mj_mc138 mj_dc138 rfl rfl rfl rfl rfl rfl (x_X6_seasons l b base D z N p R (I 0 (i + 1)) (I 0 (i + 2)) (I 0 (i + 3)) (I 0 (i + 4)) (I 0 (i + 5)) g1.2 cc dd r hL hJ0) ?_
  refine R_seg (φ := []) (pc' := 629) (L' := [.ref 0, .ref 1, .ref 42, .int i]) (st' := [.int ((s_X6_seasons p R (I 0 (i + 1)) (I 0 (i + 2)) (I 0 (i + 3)) (I 0 (i + 4)) (I 0 (i + 5)) g1.2).1), .int g1.1]) (σ' := ((62, mj_KK N, (62, 12258), (600000, 7302249)), (s_X6_seasons p R (I 0 (i + 1)) (I 0 (i + 2)) (I 0 (i + 3)) (I 0 (i + 4)) (I 0 (i + 5)) g1.2).2, mj_PP cc dd r)) 0 rfl trivial ?_
  refine R_br (q := (g1.1 : Int32) = (s_X6_seasons p R (I 0 (i + 1)) (I 0 (i + 2)) (I 0 (i + 3)) (I 0 (i + 4)) (I 0 (i + 5)) g1.2).1) (t := 1170) (f := 632) (rest := []) rfl (fun h1 => ?_) (fun h1 => absurd (hV.1) h1)
  exact K _ _ _ _ (rq_W_of hcc hl6 hV.2)
set_option maxHeartbeats 8000000 in
theorem rq_law_12 (l : Launch) (b base : Nat) (D : va_G) (z : mj_K × (Int32 → Int32)) (N : Nat) {cc dd r m p R : Nat} {I : mj_I} {i : Int32} {Q : Option Value → mj_S → Prop} (hcc : (cc = 2 ∧ dd = 10) ∨ (cc = 10 ∧ dd = 2)) (hR : mj_RL cc m p R I I) (hi : ∀ t : Int32, 0 ≤ t.toInt → t.toInt ≤ 6 → mj_in (i + t) N) (K : ∀ (cc dd r : Nat) (I : mj_I), rq_W cc dd I → mj_Rn l b base D z mj_m_L_law 1170 [.ref 0, .ref 1, .ref 42, .int i] [] ((62, mj_KK N, (62, 12258), (600000, 7302249)), I, mj_PP cc dd r) (Q)) : mj_Rn l b base D z mj_m_L_law 634 [.ref 0, .ref 1, .ref 42, .int i] [] ((62, mj_KK N, (62, 12258), (600000, 7302249)), I, mj_PP cc dd r) (Q) := by
  have hc : cc = 2 ∨ cc = 10 := by omega
  obtain ⟨hm, hp3, hs5, hp5, hn, hpl, hrr, hl, hJ, hCn, hE⟩ := rq_pre5 hR
  refine R_seg (φ := [mj_in (i + 1) N, mj_in (i + 2) N, mj_in (i + 3) N, mj_in (i + 4) N, mj_in (i + 5) N]) (pc' := 660) (L' := [.ref 0, .ref 1, .ref 42, .int i]) (st' := [.int (I 0 (i + 5)), .int (I 0 (i + 4)), .int (I 0 (i + 3)), .int (I 0 (i + 2)), .int (I 0 (i + 1)), .ref 1]) (σ' := ((62, mj_KK N, (62, 12258), (600000, 7302249)), I, mj_PP cc dd r)) 26 rfl ⟨(hi 1 (by decide) (by decide)), (hi 2 (by decide) (by decide)), (hi 3 (by decide) (by decide)), (hi 4 (by decide) (by decide)), (hi 5 (by decide) (by decide)), trivial⟩ ?_
  refine R_cL (idx := 68) (mid := 64) (kind := 0) (N := N) (M' := mj_m_X5_kinds) (As := [.ref 1, .int (I 0 (i + 1)), .int (I 0 (i + 2)), .int (I 0 (i + 3)), .int (I 0 (i + 4)), .int (I 0 (i + 5))]) (rest := []) (I := I) (P := mj_PP cc dd r) (I' := (s_X5_kinds cc p R (I 0 (i + 1)) (I 0 (i + 2)) (I 0 (i + 3)) (I 0 (i + 4)) (I 0 (i + 5))  I).2) (P' := mj_PP cc dd r) (v := some (.int ((s_X5_kinds cc p R (I 0 (i + 1)) (I 0 (i + 2)) (I 0 (i + 3)) (I 0 (i + 4)) (I 0 (i + 5))  I).1))) rfl rfl rfl mj_mc64 mj_dc64 rfl rfl rfl rfl rfl rfl (x_X5_kinds l b base D z N cc p R (I 0 (i + 1)) (I 0 (i + 2)) (I 0 (i + 3)) (I 0 (i + 4)) (I 0 (i + 5)) hc I dd r hl hn hpl hJ) ?_
  have hh := rq_h5_kinds hc hR (I 0 (i + 1)) (I 0 (i + 2)) (I 0 (i + 3)) (I 0 (i + 4)) (I 0 (i + 5))
  have hR2 := mj_RL_B hh hR
  have hV := rq_v_kinds hc hR2 (I 0 (i + 1)) (I 0 (i + 2)) (I 0 (i + 3)) (I 0 (i + 4)) (I 0 (i + 5))
  have f0 := hh 0 (Or.inr rfl)
  have hl6 := rq_l6_kinds hc hR2 (I 0 (i + 1)) (I 0 (i + 2)) (I 0 (i + 3)) (I 0 (i + 4)) (I 0 (i + 5))
  obtain ⟨hm, hp3, hs6, hp6, hS6, hP6, hR6, hL, hJ0⟩ := rq_pre6 hR2
  generalize (s_X5_kinds cc p R (I 0 (i + 1)) (I 0 (i + 2)) (I 0 (i + 3)) (I 0 (i + 4)) (I 0 (i + 5))  I) = g1 at hh hR2 hV f0 hl6 hs6 hp6 hS6 hP6 hR6 hL hJ0 ⊢
  refine R_seg (φ := [mj_in (i + 1) N, mj_in (i + 2) N, mj_in (i + 3) N, mj_in (i + 4) N, mj_in (i + 5) N]) (pc' := 689) (L' := [.ref 0, .ref 1, .ref 42, .int i]) (st' := [.int (g1.2 0 (i + 5)), .int (g1.2 0 (i + 4)), .int (g1.2 0 (i + 3)), .int (g1.2 0 (i + 2)), .int (g1.2 0 (i + 1)), .ref 42, .int g1.1]) (σ' := ((62, mj_KK N, (62, 12258), (600000, 7302249)), g1.2, mj_PP cc dd r)) 26 rfl ⟨(hi 1 (by decide) (by decide)), (hi 2 (by decide) (by decide)), (hi 3 (by decide) (by decide)), (hi 4 (by decide) (by decide)), (hi 5 (by decide) (by decide)), trivial⟩ ?_
  rw [f0]
  refine R_cL (idx := 71) (mid := 139) (kind := 0) (N := N) (M' := mj_m_X6_kinds) (As := [.ref 42, .int (I 0 (i + 1)), .int (I 0 (i + 2)), .int (I 0 (i + 3)), .int (I 0 (i + 4)), .int (I 0 (i + 5))]) (rest := [.int g1.1]) (I := g1.2) (P := mj_PP cc dd r) (I' := (s_X6_kinds p R (I 0 (i + 1)) (I 0 (i + 2)) (I 0 (i + 3)) (I 0 (i + 4)) (I 0 (i + 5)) g1.2).2) (P' := mj_PP cc dd r) (v := some (.int ((s_X6_kinds p R (I 0 (i + 1)) (I 0 (i + 2)) (I 0 (i + 3)) (I 0 (i + 4)) (I 0 (i + 5)) g1.2).1))) rfl rfl rfl mj_mc139 mj_dc139 rfl rfl rfl rfl rfl rfl (x_X6_kinds l b base D z N p R (I 0 (i + 1)) (I 0 (i + 2)) (I 0 (i + 3)) (I 0 (i + 4)) (I 0 (i + 5)) g1.2 cc dd r hL hJ0) ?_
  refine R_seg (φ := []) (pc' := 692) (L' := [.ref 0, .ref 1, .ref 42, .int i]) (st' := [.int ((s_X6_kinds p R (I 0 (i + 1)) (I 0 (i + 2)) (I 0 (i + 3)) (I 0 (i + 4)) (I 0 (i + 5)) g1.2).1), .int g1.1]) (σ' := ((62, mj_KK N, (62, 12258), (600000, 7302249)), (s_X6_kinds p R (I 0 (i + 1)) (I 0 (i + 2)) (I 0 (i + 3)) (I 0 (i + 4)) (I 0 (i + 5)) g1.2).2, mj_PP cc dd r)) 0 rfl trivial ?_
  refine R_br (q := (g1.1 : Int32) = (s_X6_kinds p R (I 0 (i + 1)) (I 0 (i + 2)) (I 0 (i + 3)) (I 0 (i + 4)) (I 0 (i + 5)) g1.2).1) (t := 1170) (f := 695) (rest := []) rfl (fun h1 => ?_) (fun h1 => absurd (hV.1) h1)
  exact K _ _ _ _ (rq_W_of hcc hl6 hV.2)
set_option maxHeartbeats 8000000 in
theorem rq_law_13 (l : Launch) (b base : Nat) (D : va_G) (z : mj_K × (Int32 → Int32)) (N : Nat) {cc dd r m p R : Nat} {I : mj_I} {i : Int32} {Q : Option Value → mj_S → Prop} (hcc : (cc = 2 ∧ dd = 10) ∨ (cc = 10 ∧ dd = 2)) (hR : mj_RL cc m p R I I) (hi : ∀ t : Int32, 0 ≤ t.toInt → t.toInt ≤ 6 → mj_in (i + t) N) (K : ∀ (cc dd r : Nat) (I : mj_I), rq_W cc dd I → mj_Rn l b base D z mj_m_L_law 1170 [.ref 0, .ref 1, .ref 42, .int i] [] ((62, mj_KK N, (62, 12258), (600000, 7302249)), I, mj_PP cc dd r) (Q)) : mj_Rn l b base D z mj_m_L_law 697 [.ref 0, .ref 1, .ref 42, .int i] [] ((62, mj_KK N, (62, 12258), (600000, 7302249)), I, mj_PP cc dd r) (Q) := by
  have hc : cc = 2 ∨ cc = 10 := by omega
  obtain ⟨hm, hp3, hs5, hp5, hn, hpl, hrr, hl, hJ, hCn, hE⟩ := rq_pre5 hR
  refine R_seg (φ := [mj_in (i + 1) N, mj_in (i + 2) N, mj_in (i + 3) N, mj_in (i + 4) N, mj_in (i + 5) N]) (pc' := 728) (L' := [.ref 0, .ref 1, .ref 42, .int i]) (st' := [.int (i + 6), .ref 0, .int (I 0 (i + 5)), .int (I 0 (i + 4)), .int (I 0 (i + 3)), .int (I 0 (i + 2)), .int (I 0 (i + 1)), .ref 1]) (σ' := ((62, mj_KK N, (62, 12258), (600000, 7302249)), I, mj_PP cc dd r)) 30 rfl ⟨(hi 1 (by decide) (by decide)), (hi 2 (by decide) (by decide)), (hi 3 (by decide) (by decide)), (hi 4 (by decide) (by decide)), (hi 5 (by decide) (by decide)), trivial⟩ ?_
  refine R_seg (φ := [mj_in (i + 6) N]) (pc' := 729) (L' := [.ref 0, .ref 1, .ref 42, .int i]) (st' := [.int (I 0 (i + 6)), .int (I 0 (i + 5)), .int (I 0 (i + 4)), .int (I 0 (i + 3)), .int (I 0 (i + 2)), .int (I 0 (i + 1)), .ref 1]) (σ' := ((62, mj_KK N, (62, 12258), (600000, 7302249)), I, mj_PP cc dd r)) 1 rfl ⟨(hi 6 (by decide) (by decide)), trivial⟩ ?_
  refine R_cL (idx := 72) (mid := 65) (kind := 0) (N := N) (M' := mj_m_X5_wishes) (As := [.ref 1, .int (I 0 (i + 1)), .int (I 0 (i + 2)), .int (I 0 (i + 3)), .int (I 0 (i + 4)), .int (I 0 (i + 5)), .int (I 0 (i + 6))]) (rest := []) (I := I) (P := mj_PP cc dd r) (I' := (s_X5_wishes cc p R (I 0 (i + 1)) (I 0 (i + 2)) (I 0 (i + 3)) (I 0 (i + 4)) (I 0 (i + 5)) (I 0 (i + 6))  I).2) (P' := mj_PP cc dd r) (v := some (.int ((s_X5_wishes cc p R (I 0 (i + 1)) (I 0 (i + 2)) (I 0 (i + 3)) (I 0 (i + 4)) (I 0 (i + 5)) (I 0 (i + 6))  I).1))) rfl rfl rfl mj_mc65 mj_dc65 rfl rfl rfl rfl rfl rfl (x_X5_wishes l b base D z N cc p R (I 0 (i + 1)) (I 0 (i + 2)) (I 0 (i + 3)) (I 0 (i + 4)) (I 0 (i + 5)) (I 0 (i + 6)) hc I dd r hl hn hpl hJ) ?_
  have hh := rq_h5_wishes hc hR (I 0 (i + 1)) (I 0 (i + 2)) (I 0 (i + 3)) (I 0 (i + 4)) (I 0 (i + 5)) (I 0 (i + 6))
  have hR2 := mj_RL_B hh hR
  have hV := rq_v_wishes hc hR2 (I 0 (i + 1)) (I 0 (i + 2)) (I 0 (i + 3)) (I 0 (i + 4)) (I 0 (i + 5)) (I 0 (i + 6))
  have f0 := hh 0 (Or.inr rfl)
  have hl6 := rq_l6_wishes hc hR2 (I 0 (i + 1)) (I 0 (i + 2)) (I 0 (i + 3)) (I 0 (i + 4)) (I 0 (i + 5)) (I 0 (i + 6))
  obtain ⟨hm, hp3, hs6, hp6, hS6, hP6, hR6, hL, hJ0⟩ := rq_pre6 hR2
  generalize (s_X5_wishes cc p R (I 0 (i + 1)) (I 0 (i + 2)) (I 0 (i + 3)) (I 0 (i + 4)) (I 0 (i + 5)) (I 0 (i + 6))  I) = g1 at hh hR2 hV f0 hl6 hs6 hp6 hS6 hP6 hR6 hL hJ0 ⊢
  refine R_seg (φ := [mj_in (i + 1) N, mj_in (i + 2) N, mj_in (i + 3) N, mj_in (i + 4) N, mj_in (i + 5) N]) (pc' := 763) (L' := [.ref 0, .ref 1, .ref 42, .int i]) (st' := [.int (i + 6), .ref 0, .int (g1.2 0 (i + 5)), .int (g1.2 0 (i + 4)), .int (g1.2 0 (i + 3)), .int (g1.2 0 (i + 2)), .int (g1.2 0 (i + 1)), .ref 42, .int g1.1]) (σ' := ((62, mj_KK N, (62, 12258), (600000, 7302249)), g1.2, mj_PP cc dd r)) 30 rfl ⟨(hi 1 (by decide) (by decide)), (hi 2 (by decide) (by decide)), (hi 3 (by decide) (by decide)), (hi 4 (by decide) (by decide)), (hi 5 (by decide) (by decide)), trivial⟩ ?_
  refine R_seg (φ := [mj_in (i + 6) N]) (pc' := 764) (L' := [.ref 0, .ref 1, .ref 42, .int i]) (st' := [.int (g1.2 0 (i + 6)), .int (g1.2 0 (i + 5)), .int (g1.2 0 (i + 4)), .int (g1.2 0 (i + 3)), .int (g1.2 0 (i + 2)), .int (g1.2 0 (i + 1)), .ref 42, .int g1.1]) (σ' := ((62, mj_KK N, (62, 12258), (600000, 7302249)), g1.2, mj_PP cc dd r)) 1 rfl ⟨(hi 6 (by decide) (by decide)), trivial⟩ ?_
  rw [f0]
  refine R_cL (idx := 76) (mid := 140) (kind := 0) (N := N) (M' := mj_m_X6_wishes) (As := [.ref 42, .int (I 0 (i + 1)), .int (I 0 (i + 2)), .int (I 0 (i + 3)), .int (I 0 (i + 4)), .int (I 0 (i + 5)), .int (I 0 (i + 6))]) (rest := [.int g1.1]) (I := g1.2) (P := mj_PP cc dd r) (I' := (s_X6_wishes p R (I 0 (i + 1)) (I 0 (i + 2)) (I 0 (i + 3)) (I 0 (i + 4)) (I 0 (i + 5)) (I 0 (i + 6)) g1.2).2) (P' := mj_PP cc dd r) (v := some (.int ((s_X6_wishes p R (I 0 (i + 1)) (I 0 (i + 2)) (I 0 (i + 3)) (I 0 (i + 4)) (I 0 (i + 5)) (I 0 (i + 6)) g1.2).1))) rfl rfl rfl mj_mc140 mj_dc140 rfl rfl rfl rfl rfl rfl (x_X6_wishes l b base D z N p R (I 0 (i + 1)) (I 0 (i + 2)) (I 0 (i + 3)) (I 0 (i + 4)) (I 0 (i + 5)) (I 0 (i + 6)) g1.2 cc dd r hL hJ0) ?_
  refine R_seg (φ := []) (pc' := 767) (L' := [.ref 0, .ref 1, .ref 42, .int i]) (st' := [.int ((s_X6_wishes p R (I 0 (i + 1)) (I 0 (i + 2)) (I 0 (i + 3)) (I 0 (i + 4)) (I 0 (i + 5)) (I 0 (i + 6)) g1.2).1), .int g1.1]) (σ' := ((62, mj_KK N, (62, 12258), (600000, 7302249)), (s_X6_wishes p R (I 0 (i + 1)) (I 0 (i + 2)) (I 0 (i + 3)) (I 0 (i + 4)) (I 0 (i + 5)) (I 0 (i + 6)) g1.2).2, mj_PP cc dd r)) 0 rfl trivial ?_
  refine R_br (q := (g1.1 : Int32) = (s_X6_wishes p R (I 0 (i + 1)) (I 0 (i + 2)) (I 0 (i + 3)) (I 0 (i + 4)) (I 0 (i + 5)) (I 0 (i + 6)) g1.2).1) (t := 1170) (f := 770) (rest := []) rfl (fun h1 => ?_) (fun h1 => absurd (hV.1) h1)
  exact K _ _ _ _ (rq_W_of hcc hl6 hV.2)
set_option maxHeartbeats 8000000 in
theorem rq_law_14 (l : Launch) (b base : Nat) (D : va_G) (z : mj_K × (Int32 → Int32)) (N : Nat) {cc dd r m p R : Nat} {I : mj_I} {i : Int32} {Q : Option Value → mj_S → Prop} (hcc : (cc = 2 ∧ dd = 10) ∨ (cc = 10 ∧ dd = 2)) (hR : mj_RL cc m p R I I) (hi : ∀ t : Int32, 0 ≤ t.toInt → t.toInt ≤ 6 → mj_in (i + t) N) (K : ∀ (cc dd r : Nat) (I : mj_I), rq_W cc dd I → mj_Rn l b base D z mj_m_L_law 1170 [.ref 0, .ref 1, .ref 42, .int i] [] ((62, mj_KK N, (62, 12258), (600000, 7302249)), I, mj_PP cc dd r) (Q)) : mj_Rn l b base D z mj_m_L_law 772 [.ref 0, .ref 1, .ref 42, .int i] [] ((62, mj_KK N, (62, 12258), (600000, 7302249)), I, mj_PP cc dd r) (Q) := by
  have hc : cc = 2 ∨ cc = 10 := by omega
  obtain ⟨hm, hp3, hs5, hp5, hn, hpl, hrr, hl, hJ, hCn, hE⟩ := rq_pre5 hR
  refine R_seg (φ := [mj_in (i + 1) N, mj_in (i + 2) N, mj_in (i + 3) N, mj_in (i + 4) N]) (pc' := 793) (L' := [.ref 0, .ref 1, .ref 42, .int i]) (st' := [.int (I 0 (i + 4)), .int (I 0 (i + 3)), .int (I 0 (i + 2)), .int (I 0 (i + 1)), .ref 1]) (σ' := ((62, mj_KK N, (62, 12258), (600000, 7302249)), I, mj_PP cc dd r)) 21 rfl ⟨(hi 1 (by decide) (by decide)), (hi 2 (by decide) (by decide)), (hi 3 (by decide) (by decide)), (hi 4 (by decide) (by decide)), trivial⟩ ?_
  refine R_cL (idx := 77) (mid := 66) (kind := 0) (N := N) (M' := mj_m_X5_odds) (As := [.ref 1, .int (I 0 (i + 1)), .int (I 0 (i + 2)), .int (I 0 (i + 3)), .int (I 0 (i + 4))]) (rest := []) (I := I) (P := mj_PP cc dd r) (I' := (s_X5_odds cc m (I 0 (i + 1)) (I 0 (i + 2)) (I 0 (i + 3)) (I 0 (i + 4))  I).2) (P' := mj_PP cc dd r) (v := some (.long ((s_X5_odds cc m (I 0 (i + 1)) (I 0 (i + 2)) (I 0 (i + 3)) (I 0 (i + 4))  I).1))) rfl rfl rfl mj_mc66 mj_dc66 rfl rfl rfl rfl rfl rfl (x_X5_odds l b base D z N cc m (I 0 (i + 1)) (I 0 (i + 2)) (I 0 (i + 3)) (I 0 (i + 4)) hc I dd r hm hs5 hn hpl) ?_
  have hh := rq_h5_odds hc hR (I 0 (i + 1)) (I 0 (i + 2)) (I 0 (i + 3)) (I 0 (i + 4))
  have hR2 := mj_RL_B hh hR
  have hV := rq_v_odds hc hR2 (I 0 (i + 1)) (I 0 (i + 2)) (I 0 (i + 3)) (I 0 (i + 4))
  have f0 := hh 0 (Or.inr rfl)
  have hl6 := rq_l6_odds hc hR2 (I 0 (i + 1)) (I 0 (i + 2)) (I 0 (i + 3)) (I 0 (i + 4))
  obtain ⟨hm, hp3, hs6, hp6, hS6, hP6, hR6, hL, hJ0⟩ := rq_pre6 hR2
  generalize (s_X5_odds cc m (I 0 (i + 1)) (I 0 (i + 2)) (I 0 (i + 3)) (I 0 (i + 4))  I) = g1 at hh hR2 hV f0 hl6 hs6 hp6 hS6 hP6 hR6 hL hJ0 ⊢
  refine R_seg (φ := [mj_in (i + 1) N, mj_in (i + 2) N, mj_in (i + 3) N, mj_in (i + 4) N]) (pc' := 817) (L' := [.ref 0, .ref 1, .ref 42, .int i]) (st' := [.int (g1.2 0 (i + 4)), .int (g1.2 0 (i + 3)), .int (g1.2 0 (i + 2)), .int (g1.2 0 (i + 1)), .ref 42, .long g1.1]) (σ' := ((62, mj_KK N, (62, 12258), (600000, 7302249)), g1.2, mj_PP cc dd r)) 21 rfl ⟨(hi 1 (by decide) (by decide)), (hi 2 (by decide) (by decide)), (hi 3 (by decide) (by decide)), (hi 4 (by decide) (by decide)), trivial⟩ ?_
  rw [f0]
  refine R_cL (idx := 81) (mid := 143) (kind := 0) (N := N) (M' := mj_m_X6_odds) (As := [.ref 42, .int (I 0 (i + 1)), .int (I 0 (i + 2)), .int (I 0 (i + 3)), .int (I 0 (i + 4))]) (rest := [.long g1.1]) (I := g1.2) (P := mj_PP cc dd r) (I' := (s_X6_odds m 100000 (I 0 (i + 1)) (I 0 (i + 2)) (I 0 (i + 3)) (I 0 (i + 4)) g1.2).2) (P' := mj_PP cc dd r) (v := some (.long ((s_X6_odds m 100000 (I 0 (i + 1)) (I 0 (i + 2)) (I 0 (i + 3)) (I 0 (i + 4)) g1.2).1))) rfl rfl rfl mj_mc143 mj_dc143 rfl rfl rfl rfl rfl rfl (x_X6_odds l b base D z N m 100000 (I 0 (i + 1)) (I 0 (i + 2)) (I 0 (i + 3)) (I 0 (i + 4)) g1.2 cc dd r hm hs6 hP6 (rq_oO hR2 (I 0 (i + 1)) (I 0 (i + 2)) (I 0 (i + 3)))) ?_
  refine R_seg (φ := []) (pc' := 821) (L' := [.ref 0, .ref 1, .ref 42, .int i]) (st' := [.int (lg_cmp g1.1 ((s_X6_odds m 100000 (I 0 (i + 1)) (I 0 (i + 2)) (I 0 (i + 3)) (I 0 (i + 4)) g1.2).1))]) (σ' := ((62, mj_KK N, (62, 12258), (600000, 7302249)), (s_X6_odds m 100000 (I 0 (i + 1)) (I 0 (i + 2)) (I 0 (i + 3)) (I 0 (i + 4)) g1.2).2, mj_PP cc dd r)) 1 rfl trivial ?_
  refine R_br (q := (lg_cmp g1.1 ((s_X6_odds m 100000 (I 0 (i + 1)) (I 0 (i + 2)) (I 0 (i + 3)) (I 0 (i + 4)) g1.2).1) : Int32) = 0) (t := 1170) (f := 824) (rest := []) rfl (fun h1 => ?_) (fun h1 => absurd ((lg_cmp_eq _ _).mpr hV.1) h1)
  exact K _ _ _ _ (rq_W_of hcc hl6 hV.2)
set_option maxHeartbeats 8000000 in
theorem rq_law_15 (l : Launch) (b base : Nat) (D : va_G) (z : mj_K × (Int32 → Int32)) (N : Nat) {cc dd r m p R : Nat} {I : mj_I} {i : Int32} {Q : Option Value → mj_S → Prop} (hcc : (cc = 2 ∧ dd = 10) ∨ (cc = 10 ∧ dd = 2)) (hR : mj_RL cc m p R I I) (hi : ∀ t : Int32, 0 ≤ t.toInt → t.toInt ≤ 6 → mj_in (i + t) N) (K : ∀ (cc dd r : Nat) (I : mj_I), rq_W cc dd I → mj_Rn l b base D z mj_m_L_law 1170 [.ref 0, .ref 1, .ref 42, .int i] [] ((62, mj_KK N, (62, 12258), (600000, 7302249)), I, mj_PP cc dd r) (Q)) : mj_Rn l b base D z mj_m_L_law 826 [.ref 0, .ref 1, .ref 42, .int i] [] ((62, mj_KK N, (62, 12258), (600000, 7302249)), I, mj_PP cc dd r) (Q) := by
  have hc : cc = 2 ∨ cc = 10 := by omega
  obtain ⟨hm, hp3, hs5, hp5, hn, hpl, hrr, hl, hJ, hCn, hE⟩ := rq_pre5 hR
  refine R_seg (φ := [mj_in (i + 1) N, mj_in (i + 2) N, mj_in (i + 3) N]) (pc' := 842) (L' := [.ref 0, .ref 1, .ref 42, .int i]) (st' := [.int (I 0 (i + 3)), .int (I 0 (i + 2)), .int (I 0 (i + 1)), .ref 1]) (σ' := ((62, mj_KK N, (62, 12258), (600000, 7302249)), I, mj_PP cc dd r)) 16 rfl ⟨(hi 1 (by decide) (by decide)), (hi 2 (by decide) (by decide)), (hi 3 (by decide) (by decide)), trivial⟩ ?_
  refine R_cL (idx := 82) (mid := 71) (kind := 0) (N := N) (M' := mj_m_X5_sheet) (As := [.ref 1, .int (I 0 (i + 1)), .int (I 0 (i + 2)), .int (I 0 (i + 3))]) (rest := []) (I := I) (P := mj_PP cc dd r) (I' := (s_X5_sheet (I 0 (i + 1)) (I 0 (i + 2)) (I 0 (i + 3)) I).2) (P' := mj_PP cc dd r) (v := some (.int ((s_X5_sheet (I 0 (i + 1)) (I 0 (i + 2)) (I 0 (i + 3)) I).1))) rfl rfl rfl mj_mc71 mj_dc71 rfl rfl rfl rfl rfl rfl (x_X5_sheet l b base D z N (I 0 (i + 1)) (I 0 (i + 2)) (I 0 (i + 3)) I cc dd r ) ?_
  have hh := rq_h5_sheet hc hR (I 0 (i + 1)) (I 0 (i + 2)) (I 0 (i + 3))
  have hR2 := mj_RL_B hh hR
  have hV := rq_v_sheet hc hR2 (I 0 (i + 1)) (I 0 (i + 2)) (I 0 (i + 3))
  have f0 := hh 0 (Or.inr rfl)
  have hl6 := rq_l6_sheet hc hR2 (I 0 (i + 1)) (I 0 (i + 2)) (I 0 (i + 3))
  obtain ⟨hm, hp3, hs6, hp6, hS6, hP6, hR6, hL, hJ0⟩ := rq_pre6 hR2
  generalize (s_X5_sheet (I 0 (i + 1)) (I 0 (i + 2)) (I 0 (i + 3)) I) = g1 at hh hR2 hV f0 hl6 hs6 hp6 hS6 hP6 hR6 hL hJ0 ⊢
  refine R_seg (φ := [mj_in (i + 1) N, mj_in (i + 2) N, mj_in (i + 3) N]) (pc' := 861) (L' := [.ref 0, .ref 1, .ref 42, .int i]) (st' := [.int (g1.2 0 (i + 3)), .int (g1.2 0 (i + 2)), .int (g1.2 0 (i + 1)), .ref 42, .int g1.1]) (σ' := ((62, mj_KK N, (62, 12258), (600000, 7302249)), g1.2, mj_PP cc dd r)) 16 rfl ⟨(hi 1 (by decide) (by decide)), (hi 2 (by decide) (by decide)), (hi 3 (by decide) (by decide)), trivial⟩ ?_
  rw [f0]
  refine R_cL (idx := 85) (mid := 144) (kind := 0) (N := N) (M' := mj_m_X6_sheet) (As := [.ref 42, .int (I 0 (i + 1)), .int (I 0 (i + 2)), .int (I 0 (i + 3))]) (rest := [.int g1.1]) (I := g1.2) (P := mj_PP cc dd r) (I' := (s_X6_sheet  (I 0 (i + 1)) (I 0 (i + 2)) (I 0 (i + 3)) g1.2).2) (P' := mj_PP cc dd r) (v := some (.int ((s_X6_sheet  (I 0 (i + 1)) (I 0 (i + 2)) (I 0 (i + 3)) g1.2).1))) rfl rfl rfl mj_mc144 mj_dc144 rfl rfl rfl rfl rfl rfl (x_X6_sheet l b base D z N  (I 0 (i + 1)) (I 0 (i + 2)) (I 0 (i + 3)) g1.2 cc dd r ) ?_
  refine R_seg (φ := []) (pc' := 864) (L' := [.ref 0, .ref 1, .ref 42, .int i]) (st' := [.int ((s_X6_sheet  (I 0 (i + 1)) (I 0 (i + 2)) (I 0 (i + 3)) g1.2).1), .int g1.1]) (σ' := ((62, mj_KK N, (62, 12258), (600000, 7302249)), (s_X6_sheet  (I 0 (i + 1)) (I 0 (i + 2)) (I 0 (i + 3)) g1.2).2, mj_PP cc dd r)) 0 rfl trivial ?_
  refine R_br (q := (g1.1 : Int32) = (s_X6_sheet  (I 0 (i + 1)) (I 0 (i + 2)) (I 0 (i + 3)) g1.2).1) (t := 1170) (f := 867) (rest := []) rfl (fun h1 => ?_) (fun h1 => absurd (hV.1) h1)
  exact K _ _ _ _ (rq_W_of hcc hl6 hV.2)
set_option maxHeartbeats 8000000 in
theorem rq_law_16 (l : Launch) (b base : Nat) (D : va_G) (z : mj_K × (Int32 → Int32)) (N : Nat) {cc dd r m p R : Nat} {I : mj_I} {i : Int32} {Q : Option Value → mj_S → Prop} (hcc : (cc = 2 ∧ dd = 10) ∨ (cc = 10 ∧ dd = 2)) (hR : mj_RL cc m p R I I) (hi : ∀ t : Int32, 0 ≤ t.toInt → t.toInt ≤ 6 → mj_in (i + t) N) (K : ∀ (cc dd r : Nat) (I : mj_I), rq_W cc dd I → mj_Rn l b base D z mj_m_L_law 1170 [.ref 0, .ref 1, .ref 42, .int i] [] ((62, mj_KK N, (62, 12258), (600000, 7302249)), I, mj_PP cc dd r) (Q)) : mj_Rn l b base D z mj_m_L_law 869 [.ref 0, .ref 1, .ref 42, .int i] [] ((62, mj_KK N, (62, 12258), (600000, 7302249)), I, mj_PP cc dd r) (Q) := by
  have hc : cc = 2 ∨ cc = 10 := by omega
  obtain ⟨hm, hp3, hs5, hp5, hn, hpl, hrr, hl, hJ, hCn, hE⟩ := rq_pre5 hR
  refine R_seg (φ := [mj_in (i + 1) N]) (pc' := 875) (L' := [.ref 0, .ref 1, .ref 42, .int i]) (st' := [.int (I 0 (i + 1)), .ref 1]) (σ' := ((62, mj_KK N, (62, 12258), (600000, 7302249)), I, mj_PP cc dd r)) 6 rfl ⟨(hi 1 (by decide) (by decide)), trivial⟩ ?_
  refine R_cL (idx := 86) (mid := 72) (kind := 0) (N := N) (M' := mj_m_X5_lose) (As := [.ref 1, .int (I 0 (i + 1))]) (rest := []) (I := I) (P := mj_PP cc dd r) (I' := (s_X5_lose (I 0 (i + 1)) I).2) (P' := mj_PP cc dd r) (v := some (.int ((s_X5_lose (I 0 (i + 1)) I).1))) rfl rfl rfl mj_mc72 mj_dc72 rfl rfl rfl rfl rfl rfl (x_X5_lose l b base D z N (I 0 (i + 1)) I cc dd r ) ?_
  have hh := rq_h5_lose hc hR (I 0 (i + 1))
  have hR2 := mj_RL_B hh hR
  have hV := rq_v_lose hc hR2 (I 0 (i + 1))
  have f0 := hh 0 (Or.inr rfl)
  have hl6 := rq_l6_lose hc hR2 (I 0 (i + 1))
  obtain ⟨hm, hp3, hs6, hp6, hS6, hP6, hR6, hL, hJ0⟩ := rq_pre6 hR2
  generalize (s_X5_lose (I 0 (i + 1)) I) = g1 at hh hR2 hV f0 hl6 hs6 hp6 hS6 hP6 hR6 hL hJ0 ⊢
  refine R_seg (φ := [mj_in (i + 1) N]) (pc' := 884) (L' := [.ref 0, .ref 1, .ref 42, .int i]) (st' := [.int (g1.2 0 (i + 1)), .ref 42, .int g1.1]) (σ' := ((62, mj_KK N, (62, 12258), (600000, 7302249)), g1.2, mj_PP cc dd r)) 6 rfl ⟨(hi 1 (by decide) (by decide)), trivial⟩ ?_
  rw [f0]
  refine R_cL (idx := 89) (mid := 145) (kind := 0) (N := N) (M' := mj_m_X6_lose) (As := [.ref 42, .int (I 0 (i + 1))]) (rest := [.int g1.1]) (I := g1.2) (P := mj_PP cc dd r) (I' := (s_X6_lose  (I 0 (i + 1)) g1.2).2) (P' := mj_PP cc dd r) (v := some (.int ((s_X6_lose  (I 0 (i + 1)) g1.2).1))) rfl rfl rfl mj_mc145 mj_dc145 rfl rfl rfl rfl rfl rfl (x_X6_lose l b base D z N  (I 0 (i + 1)) g1.2 cc dd r ) ?_
  refine R_seg (φ := []) (pc' := 887) (L' := [.ref 0, .ref 1, .ref 42, .int i]) (st' := [.int ((s_X6_lose  (I 0 (i + 1)) g1.2).1), .int g1.1]) (σ' := ((62, mj_KK N, (62, 12258), (600000, 7302249)), (s_X6_lose  (I 0 (i + 1)) g1.2).2, mj_PP cc dd r)) 0 rfl trivial ?_
  refine R_br (q := (g1.1 : Int32) = (s_X6_lose  (I 0 (i + 1)) g1.2).1) (t := 1170) (f := 890) (rest := []) rfl (fun h1 => ?_) (fun h1 => absurd (hV.1) h1)
  exact K _ _ _ _ (rq_W_of hcc hl6 hV.2)
set_option maxHeartbeats 8000000 in
theorem rq_law_17 (l : Launch) (b base : Nat) (D : va_G) (z : mj_K × (Int32 → Int32)) (N : Nat) {cc dd r m p R : Nat} {I : mj_I} {i : Int32} {Q : Option Value → mj_S → Prop} (hcc : (cc = 2 ∧ dd = 10) ∨ (cc = 10 ∧ dd = 2)) (hR : mj_RL cc m p R I I) (hi : ∀ t : Int32, 0 ≤ t.toInt → t.toInt ≤ 6 → mj_in (i + t) N) (K : ∀ (cc dd r : Nat) (I : mj_I), rq_W cc dd I → mj_Rn l b base D z mj_m_L_law 1170 [.ref 0, .ref 1, .ref 42, .int i] [] ((62, mj_KK N, (62, 12258), (600000, 7302249)), I, mj_PP cc dd r) (Q)) : mj_Rn l b base D z mj_m_L_law 892 [.ref 0, .ref 1, .ref 42, .int i] [] ((62, mj_KK N, (62, 12258), (600000, 7302249)), I, mj_PP cc dd r) (Q) := by
  have hc : cc = 2 ∨ cc = 10 := by omega
  obtain ⟨hm, hp3, hs5, hp5, hn, hpl, hrr, hl, hJ, hCn, hE⟩ := rq_pre5 hR
  refine R_seg (φ := [mj_in (i + 1) N, mj_in (i + 2) N, mj_in (i + 3) N]) (pc' := 908) (L' := [.ref 0, .ref 1, .ref 42, .int i]) (st' := [.int (I 0 (i + 3)), .int (I 0 (i + 2)), .int (I 0 (i + 1)), .ref 1]) (σ' := ((62, mj_KK N, (62, 12258), (600000, 7302249)), I, mj_PP cc dd r)) 16 rfl ⟨(hi 1 (by decide) (by decide)), (hi 2 (by decide) (by decide)), (hi 3 (by decide) (by decide)), trivial⟩ ?_
  refine R_cL (idx := 90) (mid := 73) (kind := 0) (N := N) (M' := mj_m_X5_put) (As := [.ref 1, .int (I 0 (i + 1)), .int (I 0 (i + 2)), .int (I 0 (i + 3))]) (rest := []) (I := I) (P := mj_PP cc dd r) (I' := (s_X5_put (I 0 (i + 1)) (I 0 (i + 2)) (I 0 (i + 3)) I).2) (P' := mj_PP cc dd r) (v := some (.int ((s_X5_put (I 0 (i + 1)) (I 0 (i + 2)) (I 0 (i + 3)) I).1))) rfl rfl rfl mj_mc73 mj_dc73 rfl rfl rfl rfl rfl rfl (x_X5_put l b base D z N (I 0 (i + 1)) (I 0 (i + 2)) (I 0 (i + 3)) I cc dd r hl) ?_
  have hh := rq_h5_put hc hR (I 0 (i + 1)) (I 0 (i + 2)) (I 0 (i + 3))
  have hR2 := mj_RL_B hh hR
  have hV := rq_v_put hc hR2 (I 0 (i + 1)) (I 0 (i + 2)) (I 0 (i + 3))
  have f0 := hh 0 (Or.inr rfl)
  have hl6 := rq_l6_put hc hR2 (I 0 (i + 1)) (I 0 (i + 2)) (I 0 (i + 3))
  obtain ⟨hm, hp3, hs6, hp6, hS6, hP6, hR6, hL, hJ0⟩ := rq_pre6 hR2
  generalize (s_X5_put (I 0 (i + 1)) (I 0 (i + 2)) (I 0 (i + 3)) I) = g1 at hh hR2 hV f0 hl6 hs6 hp6 hS6 hP6 hR6 hL hJ0 ⊢
  refine R_seg (φ := [mj_in (i + 1) N, mj_in (i + 2) N, mj_in (i + 3) N]) (pc' := 927) (L' := [.ref 0, .ref 1, .ref 42, .int i]) (st' := [.int (g1.2 0 (i + 3)), .int (g1.2 0 (i + 2)), .int (g1.2 0 (i + 1)), .ref 42, .int g1.1]) (σ' := ((62, mj_KK N, (62, 12258), (600000, 7302249)), g1.2, mj_PP cc dd r)) 16 rfl ⟨(hi 1 (by decide) (by decide)), (hi 2 (by decide) (by decide)), (hi 3 (by decide) (by decide)), trivial⟩ ?_
  rw [f0]
  refine R_cL (idx := 93) (mid := 146) (kind := 0) (N := N) (M' := mj_m_X6_put) (As := [.ref 42, .int (I 0 (i + 1)), .int (I 0 (i + 2)), .int (I 0 (i + 3))]) (rest := [.int g1.1]) (I := g1.2) (P := mj_PP cc dd r) (I' := (s_X6_put  (I 0 (i + 1)) (I 0 (i + 2)) (I 0 (i + 3)) g1.2).2) (P' := mj_PP cc dd r) (v := some (.int ((s_X6_put  (I 0 (i + 1)) (I 0 (i + 2)) (I 0 (i + 3)) g1.2).1))) rfl rfl rfl mj_mc146 mj_dc146 rfl rfl rfl rfl rfl rfl (x_X6_put l b base D z N  (I 0 (i + 1)) (I 0 (i + 2)) (I 0 (i + 3)) g1.2 cc dd r hL) ?_
  refine R_seg (φ := []) (pc' := 930) (L' := [.ref 0, .ref 1, .ref 42, .int i]) (st' := [.int ((s_X6_put  (I 0 (i + 1)) (I 0 (i + 2)) (I 0 (i + 3)) g1.2).1), .int g1.1]) (σ' := ((62, mj_KK N, (62, 12258), (600000, 7302249)), (s_X6_put  (I 0 (i + 1)) (I 0 (i + 2)) (I 0 (i + 3)) g1.2).2, mj_PP cc dd r)) 0 rfl trivial ?_
  refine R_br (q := (g1.1 : Int32) = (s_X6_put  (I 0 (i + 1)) (I 0 (i + 2)) (I 0 (i + 3)) g1.2).1) (t := 1170) (f := 933) (rest := []) rfl (fun h1 => ?_) (fun h1 => absurd (hV.1) h1)
  exact K _ _ _ _ (rq_W_of hcc hl6 hV.2)
set_option maxHeartbeats 8000000 in
theorem rq_law_18 (l : Launch) (b base : Nat) (D : va_G) (z : mj_K × (Int32 → Int32)) (N : Nat) {cc dd r m p R : Nat} {I : mj_I} {i : Int32} {Q : Option Value → mj_S → Prop} (hcc : (cc = 2 ∧ dd = 10) ∨ (cc = 10 ∧ dd = 2)) (hR : mj_RL cc m p R I I) (hi : ∀ t : Int32, 0 ≤ t.toInt → t.toInt ≤ 6 → mj_in (i + t) N) (K : ∀ (cc dd r : Nat) (I : mj_I), rq_W cc dd I → mj_Rn l b base D z mj_m_L_law 1170 [.ref 0, .ref 1, .ref 42, .int i] [] ((62, mj_KK N, (62, 12258), (600000, 7302249)), I, mj_PP cc dd r) (Q)) : mj_Rn l b base D z mj_m_L_law 935 [.ref 0, .ref 1, .ref 42, .int i] [] ((62, mj_KK N, (62, 12258), (600000, 7302249)), I, mj_PP cc dd r) (Q) := by
  have hc : cc = 2 ∨ cc = 10 := by omega
  obtain ⟨hm, hp3, hs5, hp5, hn, hpl, hrr, hl, hJ, hCn, hE⟩ := rq_pre5 hR
  refine R_seg (φ := [mj_in (i + 1) N, mj_in (i + 2) N, mj_in (i + 3) N]) (pc' := 951) (L' := [.ref 0, .ref 1, .ref 42, .int i]) (st' := [.int (I 0 (i + 3)), .int (I 0 (i + 2)), .int (I 0 (i + 1)), .ref 1]) (σ' := ((62, mj_KK N, (62, 12258), (600000, 7302249)), I, mj_PP cc dd r)) 16 rfl ⟨(hi 1 (by decide) (by decide)), (hi 2 (by decide) (by decide)), (hi 3 (by decide) (by decide)), trivial⟩ ?_
  refine R_cL (idx := 94) (mid := 74) (kind := 0) (N := N) (M' := mj_m_X5_cell) (As := [.ref 1, .int (I 0 (i + 1)), .int (I 0 (i + 2)), .int (I 0 (i + 3))]) (rest := []) (I := I) (P := mj_PP cc dd r) (I' := (s_X5_cell (I 0 (i + 1)) (I 0 (i + 2)) (I 0 (i + 3)) I).2) (P' := mj_PP cc dd r) (v := some (.long ((s_X5_cell (I 0 (i + 1)) (I 0 (i + 2)) (I 0 (i + 3)) I).1))) rfl rfl rfl mj_mc74 mj_dc74 rfl rfl rfl rfl rfl rfl (x_X5_cell l b base D z N (I 0 (i + 1)) (I 0 (i + 2)) (I 0 (i + 3)) I cc dd r hl) ?_
  have hh := rq_h5_cell hc hR (I 0 (i + 1)) (I 0 (i + 2)) (I 0 (i + 3))
  have hR2 := mj_RL_B hh hR
  have hV := rq_v_cell hc hR2 (I 0 (i + 1)) (I 0 (i + 2)) (I 0 (i + 3))
  have f0 := hh 0 (Or.inr rfl)
  have hl6 := rq_l6_cell hc hR2 (I 0 (i + 1)) (I 0 (i + 2)) (I 0 (i + 3))
  obtain ⟨hm, hp3, hs6, hp6, hS6, hP6, hR6, hL, hJ0⟩ := rq_pre6 hR2
  generalize (s_X5_cell (I 0 (i + 1)) (I 0 (i + 2)) (I 0 (i + 3)) I) = g1 at hh hR2 hV f0 hl6 hs6 hp6 hS6 hP6 hR6 hL hJ0 ⊢
  refine R_seg (φ := [mj_in (i + 1) N, mj_in (i + 2) N, mj_in (i + 3) N]) (pc' := 970) (L' := [.ref 0, .ref 1, .ref 42, .int i]) (st' := [.int (g1.2 0 (i + 3)), .int (g1.2 0 (i + 2)), .int (g1.2 0 (i + 1)), .ref 42, .long g1.1]) (σ' := ((62, mj_KK N, (62, 12258), (600000, 7302249)), g1.2, mj_PP cc dd r)) 16 rfl ⟨(hi 1 (by decide) (by decide)), (hi 2 (by decide) (by decide)), (hi 3 (by decide) (by decide)), trivial⟩ ?_
  rw [f0]
  refine R_cL (idx := 98) (mid := 147) (kind := 0) (N := N) (M' := mj_m_X6_cell) (As := [.ref 42, .int (I 0 (i + 1)), .int (I 0 (i + 2)), .int (I 0 (i + 3))]) (rest := [.long g1.1]) (I := g1.2) (P := mj_PP cc dd r) (I' := (s_X6_cell  (I 0 (i + 1)) (I 0 (i + 2)) (I 0 (i + 3)) g1.2).2) (P' := mj_PP cc dd r) (v := some (.long ((s_X6_cell  (I 0 (i + 1)) (I 0 (i + 2)) (I 0 (i + 3)) g1.2).1))) rfl rfl rfl mj_mc147 mj_dc147 rfl rfl rfl rfl rfl rfl (x_X6_cell l b base D z N  (I 0 (i + 1)) (I 0 (i + 2)) (I 0 (i + 3)) g1.2 cc dd r hL) ?_
  refine R_seg (φ := []) (pc' := 974) (L' := [.ref 0, .ref 1, .ref 42, .int i]) (st' := [.int (lg_cmp g1.1 ((s_X6_cell  (I 0 (i + 1)) (I 0 (i + 2)) (I 0 (i + 3)) g1.2).1))]) (σ' := ((62, mj_KK N, (62, 12258), (600000, 7302249)), (s_X6_cell  (I 0 (i + 1)) (I 0 (i + 2)) (I 0 (i + 3)) g1.2).2, mj_PP cc dd r)) 1 rfl trivial ?_
  refine R_br (q := (lg_cmp g1.1 ((s_X6_cell  (I 0 (i + 1)) (I 0 (i + 2)) (I 0 (i + 3)) g1.2).1) : Int32) = 0) (t := 1170) (f := 977) (rest := []) rfl (fun h1 => ?_) (fun h1 => absurd ((lg_cmp_eq _ _).mpr hV.1) h1)
  exact K _ _ _ _ (rq_W_of hcc hl6 hV.2)
set_option maxHeartbeats 8000000 in
theorem rq_law_19 (l : Launch) (b base : Nat) (D : va_G) (z : mj_K × (Int32 → Int32)) (N : Nat) {cc dd r m p R : Nat} {I : mj_I} {i : Int32} {Q : Option Value → mj_S → Prop} (hcc : (cc = 2 ∧ dd = 10) ∨ (cc = 10 ∧ dd = 2)) (hR : mj_RL cc m p R I I) (hi : ∀ t : Int32, 0 ≤ t.toInt → t.toInt ≤ 6 → mj_in (i + t) N) (K : ∀ (cc dd r : Nat) (I : mj_I), rq_W cc dd I → mj_Rn l b base D z mj_m_L_law 1170 [.ref 0, .ref 1, .ref 42, .int i] [] ((62, mj_KK N, (62, 12258), (600000, 7302249)), I, mj_PP cc dd r) (Q)) : mj_Rn l b base D z mj_m_L_law 979 [.ref 0, .ref 1, .ref 42, .int i] [] ((62, mj_KK N, (62, 12258), (600000, 7302249)), I, mj_PP cc dd r) (Q) := by
  have hc : cc = 2 ∨ cc = 10 := by omega
  obtain ⟨hm, hp3, hs5, hp5, hn, hpl, hrr, hl, hJ, hCn, hE⟩ := rq_pre5 hR
  refine R_seg (φ := [mj_in (i + 1) N, mj_in (i + 2) N, mj_in (i + 3) N, mj_in (i + 4) N, mj_in (i + 5) N]) (pc' := 1005) (L' := [.ref 0, .ref 1, .ref 42, .int i]) (st' := [.int (I 0 (i + 5)), .int (I 0 (i + 4)), .int (I 0 (i + 3)), .int (I 0 (i + 2)), .int (I 0 (i + 1)), .ref 1]) (σ' := ((62, mj_KK N, (62, 12258), (600000, 7302249)), I, mj_PP cc dd r)) 26 rfl ⟨(hi 1 (by decide) (by decide)), (hi 2 (by decide) (by decide)), (hi 3 (by decide) (by decide)), (hi 4 (by decide) (by decide)), (hi 5 (by decide) (by decide)), trivial⟩ ?_
  refine R_cL (idx := 99) (mid := 75) (kind := 0) (N := N) (M' := mj_m_X5_copy) (As := [.ref 1, .int (I 0 (i + 1)), .int (I 0 (i + 2)), .int (I 0 (i + 3)), .int (I 0 (i + 4)), .int (I 0 (i + 5))]) (rest := []) (I := I) (P := mj_PP cc dd r) (I' := (s_X5_copy (I 0 (i + 1)) (I 0 (i + 2)) (I 0 (i + 3)) (I 0 (i + 4)) (I 0 (i + 5)) I).2) (P' := mj_PP cc dd r) (v := some (.int ((s_X5_copy (I 0 (i + 1)) (I 0 (i + 2)) (I 0 (i + 3)) (I 0 (i + 4)) (I 0 (i + 5)) I).1))) rfl rfl rfl mj_mc75 mj_dc75 rfl rfl rfl rfl rfl rfl (x_X5_copy l b base D z N (I 0 (i + 1)) (I 0 (i + 2)) (I 0 (i + 3)) (I 0 (i + 4)) (I 0 (i + 5)) I cc dd r hl) ?_
  have hh := rq_h5_copy hc hR (I 0 (i + 1)) (I 0 (i + 2)) (I 0 (i + 3)) (I 0 (i + 4)) (I 0 (i + 5))
  have hR2 := mj_RL_B hh hR
  have hV := rq_v_copy hc hR2 (I 0 (i + 1)) (I 0 (i + 2)) (I 0 (i + 3)) (I 0 (i + 4)) (I 0 (i + 5))
  have f0 := hh 0 (Or.inr rfl)
  have hl6 := rq_l6_copy hc hR2 (I 0 (i + 1)) (I 0 (i + 2)) (I 0 (i + 3)) (I 0 (i + 4)) (I 0 (i + 5))
  obtain ⟨hm, hp3, hs6, hp6, hS6, hP6, hR6, hL, hJ0⟩ := rq_pre6 hR2
  generalize (s_X5_copy (I 0 (i + 1)) (I 0 (i + 2)) (I 0 (i + 3)) (I 0 (i + 4)) (I 0 (i + 5)) I) = g1 at hh hR2 hV f0 hl6 hs6 hp6 hS6 hP6 hR6 hL hJ0 ⊢
  refine R_seg (φ := [mj_in (i + 1) N, mj_in (i + 2) N, mj_in (i + 3) N, mj_in (i + 4) N, mj_in (i + 5) N]) (pc' := 1034) (L' := [.ref 0, .ref 1, .ref 42, .int i]) (st' := [.int (g1.2 0 (i + 5)), .int (g1.2 0 (i + 4)), .int (g1.2 0 (i + 3)), .int (g1.2 0 (i + 2)), .int (g1.2 0 (i + 1)), .ref 42, .int g1.1]) (σ' := ((62, mj_KK N, (62, 12258), (600000, 7302249)), g1.2, mj_PP cc dd r)) 26 rfl ⟨(hi 1 (by decide) (by decide)), (hi 2 (by decide) (by decide)), (hi 3 (by decide) (by decide)), (hi 4 (by decide) (by decide)), (hi 5 (by decide) (by decide)), trivial⟩ ?_
  rw [f0]
  refine R_cL (idx := 102) (mid := 148) (kind := 0) (N := N) (M' := mj_m_X6_copy) (As := [.ref 42, .int (I 0 (i + 1)), .int (I 0 (i + 2)), .int (I 0 (i + 3)), .int (I 0 (i + 4)), .int (I 0 (i + 5))]) (rest := [.int g1.1]) (I := g1.2) (P := mj_PP cc dd r) (I' := (s_X6_copy  (I 0 (i + 1)) (I 0 (i + 2)) (I 0 (i + 3)) (I 0 (i + 4)) (I 0 (i + 5)) g1.2).2) (P' := mj_PP cc dd r) (v := some (.int ((s_X6_copy  (I 0 (i + 1)) (I 0 (i + 2)) (I 0 (i + 3)) (I 0 (i + 4)) (I 0 (i + 5)) g1.2).1))) rfl rfl rfl mj_mc148 mj_dc148 rfl rfl rfl rfl rfl rfl (x_X6_copy l b base D z N  (I 0 (i + 1)) (I 0 (i + 2)) (I 0 (i + 3)) (I 0 (i + 4)) (I 0 (i + 5)) g1.2 cc dd r hL) ?_
  refine R_seg (φ := []) (pc' := 1037) (L' := [.ref 0, .ref 1, .ref 42, .int i]) (st' := [.int ((s_X6_copy  (I 0 (i + 1)) (I 0 (i + 2)) (I 0 (i + 3)) (I 0 (i + 4)) (I 0 (i + 5)) g1.2).1), .int g1.1]) (σ' := ((62, mj_KK N, (62, 12258), (600000, 7302249)), (s_X6_copy  (I 0 (i + 1)) (I 0 (i + 2)) (I 0 (i + 3)) (I 0 (i + 4)) (I 0 (i + 5)) g1.2).2, mj_PP cc dd r)) 0 rfl trivial ?_
  refine R_br (q := (g1.1 : Int32) = (s_X6_copy  (I 0 (i + 1)) (I 0 (i + 2)) (I 0 (i + 3)) (I 0 (i + 4)) (I 0 (i + 5)) g1.2).1) (t := 1170) (f := 1040) (rest := []) rfl (fun h1 => ?_) (fun h1 => absurd (hV.1) h1)
  exact K _ _ _ _ (rq_W_of hcc hl6 hV.2)
set_option maxHeartbeats 8000000 in
theorem rq_law_20 (l : Launch) (b base : Nat) (D : va_G) (z : mj_K × (Int32 → Int32)) (N : Nat) {cc dd r m p R : Nat} {I : mj_I} {i : Int32} {Q : Option Value → mj_S → Prop} (hcc : (cc = 2 ∧ dd = 10) ∨ (cc = 10 ∧ dd = 2)) (hR : mj_RL cc m p R I I) (hi : ∀ t : Int32, 0 ≤ t.toInt → t.toInt ≤ 6 → mj_in (i + t) N) (K : ∀ (cc dd r : Nat) (I : mj_I), rq_W cc dd I → mj_Rn l b base D z mj_m_L_law 1170 [.ref 0, .ref 1, .ref 42, .int i] [] ((62, mj_KK N, (62, 12258), (600000, 7302249)), I, mj_PP cc dd r) (Q)) : mj_Rn l b base D z mj_m_L_law 1042 [.ref 0, .ref 1, .ref 42, .int i] [] ((62, mj_KK N, (62, 12258), (600000, 7302249)), I, mj_PP cc dd r) (Q) := by
  have hc : cc = 2 ∨ cc = 10 := by omega
  obtain ⟨hm, hp3, hs5, hp5, hn, hpl, hrr, hl, hJ, hCn, hE⟩ := rq_pre5 hR
  refine R_seg (φ := [mj_in (i + 1) N]) (pc' := 1048) (L' := [.ref 0, .ref 1, .ref 42, .int i]) (st' := [.int (I 0 (i + 1)), .ref 1]) (σ' := ((62, mj_KK N, (62, 12258), (600000, 7302249)), I, mj_PP cc dd r)) 6 rfl ⟨(hi 1 (by decide) (by decide)), trivial⟩ ?_
  refine R_cL (idx := 103) (mid := 76) (kind := 0) (N := N) (M' := mj_m_X5_tell) (As := [.ref 1, .int (I 0 (i + 1))]) (rest := []) (I := I) (P := mj_PP cc dd r) (I' := (s_X5_tell cc  (I 0 (i + 1)) I).2) (P' := mj_PP cc dd r) (v := some (.int ((s_X5_tell cc  (I 0 (i + 1)) I).1))) rfl rfl rfl mj_mc76 mj_dc76 rfl rfl rfl rfl rfl rfl (x_X5_tell l b base D z N cc hc (I 0 (i + 1)) I dd r hpl) ?_
  have hh := rq_h5_tell hc hR (I 0 (i + 1))
  have hR2 := mj_RL_B hh hR
  have hV := rq_v_tell hc hR2 (I 0 (i + 1))
  have f0 := hh 0 (Or.inr rfl)
  have hl6 := rq_l6_tell hc hR2 (I 0 (i + 1))
  obtain ⟨hm, hp3, hs6, hp6, hS6, hP6, hR6, hL, hJ0⟩ := rq_pre6 hR2
  generalize (s_X5_tell cc  (I 0 (i + 1)) I) = g1 at hh hR2 hV f0 hl6 hs6 hp6 hS6 hP6 hR6 hL hJ0 ⊢
  refine R_seg (φ := [mj_in (i + 1) N]) (pc' := 1057) (L' := [.ref 0, .ref 1, .ref 42, .int i]) (st' := [.int (g1.2 0 (i + 1)), .ref 42, .int g1.1]) (σ' := ((62, mj_KK N, (62, 12258), (600000, 7302249)), g1.2, mj_PP cc dd r)) 6 rfl ⟨(hi 1 (by decide) (by decide)), trivial⟩ ?_
  rw [f0]
  refine R_cL (idx := 106) (mid := 150) (kind := 0) (N := N) (M' := mj_m_X6_tell) (As := [.ref 42, .int (I 0 (i + 1))]) (rest := [.int g1.1]) (I := g1.2) (P := mj_PP cc dd r) (I' := (s_X6_tell  (I 0 (i + 1)) g1.2).2) (P' := mj_PP cc dd r) (v := some (.int ((s_X6_tell  (I 0 (i + 1)) g1.2).1))) rfl rfl rfl mj_mc150 mj_dc150 rfl rfl rfl rfl rfl rfl (x_X6_tell l b base D z N  (I 0 (i + 1)) g1.2 cc dd r hP6) ?_
  refine R_seg (φ := []) (pc' := 1060) (L' := [.ref 0, .ref 1, .ref 42, .int i]) (st' := [.int ((s_X6_tell  (I 0 (i + 1)) g1.2).1), .int g1.1]) (σ' := ((62, mj_KK N, (62, 12258), (600000, 7302249)), (s_X6_tell  (I 0 (i + 1)) g1.2).2, mj_PP cc dd r)) 0 rfl trivial ?_
  refine R_br (q := (g1.1 : Int32) = (s_X6_tell  (I 0 (i + 1)) g1.2).1) (t := 1170) (f := 1063) (rest := []) rfl (fun h1 => ?_) (fun h1 => absurd (hV.1) h1)
  exact K _ _ _ _ (rq_W_of hcc hl6 hV.2)
set_option maxHeartbeats 8000000 in
theorem rq_law_21 (l : Launch) (b base : Nat) (D : va_G) (z : mj_K × (Int32 → Int32)) (N : Nat) {cc dd r m p R : Nat} {I : mj_I} {i : Int32} {Q : Option Value → mj_S → Prop} (hcc : (cc = 2 ∧ dd = 10) ∨ (cc = 10 ∧ dd = 2)) (hR : mj_RL cc m p R I I) (hi : ∀ t : Int32, 0 ≤ t.toInt → t.toInt ≤ 6 → mj_in (i + t) N) (K : ∀ (cc dd r : Nat) (I : mj_I), rq_W cc dd I → mj_Rn l b base D z mj_m_L_law 1170 [.ref 0, .ref 1, .ref 42, .int i] [] ((62, mj_KK N, (62, 12258), (600000, 7302249)), I, mj_PP cc dd r) (Q)) : mj_Rn l b base D z mj_m_L_law 1065 [.ref 0, .ref 1, .ref 42, .int i] [] ((62, mj_KK N, (62, 12258), (600000, 7302249)), I, mj_PP cc dd r) (Q) := by
  have hc : cc = 2 ∨ cc = 10 := by omega
  obtain ⟨hm, hp3, hs5, hp5, hn, hpl, hrr, hl, hJ, hCn, hE⟩ := rq_pre5 hR
  refine R_seg (φ := [mj_in (i + 1) N]) (pc' := 1071) (L' := [.ref 0, .ref 1, .ref 42, .int i]) (st' := [.int (I 0 (i + 1)), .ref 1]) (σ' := ((62, mj_KK N, (62, 12258), (600000, 7302249)), I, mj_PP cc dd r)) 6 rfl ⟨(hi 1 (by decide) (by decide)), trivial⟩ ?_
  refine R_cL (idx := 107) (mid := 77) (kind := 0) (N := N) (M' := mj_m_X5_label) (As := [.ref 1, .int (I 0 (i + 1))]) (rest := []) (I := I) (P := mj_PP cc dd r) (I' := (s_X5_label cc  (I 0 (i + 1)) I).2) (P' := mj_PP cc dd r) (v := some (.int ((s_X5_label cc  (I 0 (i + 1)) I).1))) rfl rfl rfl mj_mc77 mj_dc77 rfl rfl rfl rfl rfl rfl (x_X5_label l b base D z N cc hc (I 0 (i + 1)) I dd r hpl) ?_
  have hh := rq_h5_label hc hR (I 0 (i + 1))
  have hR2 := mj_RL_B hh hR
  have hV := rq_v_label hc hR2 (I 0 (i + 1))
  have f0 := hh 0 (Or.inr rfl)
  have hl6 := rq_l6_label hc hR2 (I 0 (i + 1))
  obtain ⟨hm, hp3, hs6, hp6, hS6, hP6, hR6, hL, hJ0⟩ := rq_pre6 hR2
  generalize (s_X5_label cc  (I 0 (i + 1)) I) = g1 at hh hR2 hV f0 hl6 hs6 hp6 hS6 hP6 hR6 hL hJ0 ⊢
  refine R_seg (φ := [mj_in (i + 1) N]) (pc' := 1080) (L' := [.ref 0, .ref 1, .ref 42, .int i]) (st' := [.int (g1.2 0 (i + 1)), .ref 42, .int g1.1]) (σ' := ((62, mj_KK N, (62, 12258), (600000, 7302249)), g1.2, mj_PP cc dd r)) 6 rfl ⟨(hi 1 (by decide) (by decide)), trivial⟩ ?_
  rw [f0]
  refine R_cL (idx := 110) (mid := 151) (kind := 0) (N := N) (M' := mj_m_X6_label) (As := [.ref 42, .int (I 0 (i + 1))]) (rest := [.int g1.1]) (I := g1.2) (P := mj_PP cc dd r) (I' := (s_X6_label  (I 0 (i + 1)) g1.2).2) (P' := mj_PP cc dd r) (v := some (.int ((s_X6_label  (I 0 (i + 1)) g1.2).1))) rfl rfl rfl mj_mc151 mj_dc151 rfl rfl rfl rfl rfl rfl (x_X6_label l b base D z N  (I 0 (i + 1)) g1.2 cc dd r hP6) ?_
  refine R_seg (φ := []) (pc' := 1083) (L' := [.ref 0, .ref 1, .ref 42, .int i]) (st' := [.int ((s_X6_label  (I 0 (i + 1)) g1.2).1), .int g1.1]) (σ' := ((62, mj_KK N, (62, 12258), (600000, 7302249)), (s_X6_label  (I 0 (i + 1)) g1.2).2, mj_PP cc dd r)) 0 rfl trivial ?_
  refine R_br (q := (g1.1 : Int32) = (s_X6_label  (I 0 (i + 1)) g1.2).1) (t := 1170) (f := 1086) (rest := []) rfl (fun h1 => ?_) (fun h1 => absurd (hV.1) h1)
  exact K _ _ _ _ (rq_W_of hcc hl6 hV.2)
set_option maxHeartbeats 8000000 in
theorem rq_law_22 (l : Launch) (b base : Nat) (D : va_G) (z : mj_K × (Int32 → Int32)) (N : Nat) {cc dd r m p R : Nat} {I : mj_I} {i : Int32} {Q : Option Value → mj_S → Prop} (hcc : (cc = 2 ∧ dd = 10) ∨ (cc = 10 ∧ dd = 2)) (hR : mj_RL cc m p R I I) (hi : ∀ t : Int32, 0 ≤ t.toInt → t.toInt ≤ 6 → mj_in (i + t) N) (K : ∀ (cc dd r : Nat) (I : mj_I), rq_W cc dd I → mj_Rn l b base D z mj_m_L_law 1170 [.ref 0, .ref 1, .ref 42, .int i] [] ((62, mj_KK N, (62, 12258), (600000, 7302249)), I, mj_PP cc dd r) (Q)) : mj_Rn l b base D z mj_m_L_law 1088 [.ref 0, .ref 1, .ref 42, .int i] [] ((62, mj_KK N, (62, 12258), (600000, 7302249)), I, mj_PP cc dd r) (Q) := by
  have hc : cc = 2 ∨ cc = 10 := by omega
  obtain ⟨hm, hp3, hs5, hp5, hn, hpl, hrr, hl, hJ, hCn, hE⟩ := rq_pre5 hR
  refine R_seg (φ := [mj_in (i + 1) N, mj_in (i + 2) N]) (pc' := 1099) (L' := [.ref 0, .ref 1, .ref 42, .int i]) (st' := [.int (I 0 (i + 2)), .int (I 0 (i + 1)), .ref 1]) (σ' := ((62, mj_KK N, (62, 12258), (600000, 7302249)), I, mj_PP cc dd r)) 11 rfl ⟨(hi 1 (by decide) (by decide)), (hi 2 (by decide) (by decide)), trivial⟩ ?_
  refine R_cL (idx := 111) (mid := 78) (kind := 0) (N := N) (M' := mj_m_X5_as) (As := [.ref 1, .int (I 0 (i + 1)), .int (I 0 (i + 2))]) (rest := []) (I := I) (P := mj_PP cc dd r) (I' := (s_X5_as cc  (I 0 (i + 1)) (I 0 (i + 2)) I).2) (P' := mj_PP cc dd r) (v := some (.int ((s_X5_as cc  (I 0 (i + 1)) (I 0 (i + 2)) I).1))) rfl rfl rfl mj_mc78 mj_dc78 rfl rfl rfl rfl rfl rfl (x_X5_as l b base D z N cc hc (I 0 (i + 1)) (I 0 (i + 2)) I dd r hpl) ?_
  have hh := rq_h5_as hc hR (I 0 (i + 1)) (I 0 (i + 2))
  have hR2 := mj_RL_B hh hR
  have hV := rq_v_as hc hR2 (I 0 (i + 1)) (I 0 (i + 2))
  have f0 := hh 0 (Or.inr rfl)
  have hl6 := rq_l6_as hc hR2 (I 0 (i + 1)) (I 0 (i + 2))
  obtain ⟨hm, hp3, hs6, hp6, hS6, hP6, hR6, hL, hJ0⟩ := rq_pre6 hR2
  generalize (s_X5_as cc  (I 0 (i + 1)) (I 0 (i + 2)) I) = g1 at hh hR2 hV f0 hl6 hs6 hp6 hS6 hP6 hR6 hL hJ0 ⊢
  refine R_seg (φ := [mj_in (i + 1) N, mj_in (i + 2) N]) (pc' := 1113) (L' := [.ref 0, .ref 1, .ref 42, .int i]) (st' := [.int (g1.2 0 (i + 2)), .int (g1.2 0 (i + 1)), .ref 42, .int g1.1]) (σ' := ((62, mj_KK N, (62, 12258), (600000, 7302249)), g1.2, mj_PP cc dd r)) 11 rfl ⟨(hi 1 (by decide) (by decide)), (hi 2 (by decide) (by decide)), trivial⟩ ?_
  rw [f0]
  refine R_cL (idx := 114) (mid := 152) (kind := 0) (N := N) (M' := mj_m_X6_as) (As := [.ref 42, .int (I 0 (i + 1)), .int (I 0 (i + 2))]) (rest := [.int g1.1]) (I := g1.2) (P := mj_PP cc dd r) (I' := (s_X6_as  (I 0 (i + 1)) (I 0 (i + 2)) g1.2).2) (P' := mj_PP cc dd r) (v := some (.int ((s_X6_as  (I 0 (i + 1)) (I 0 (i + 2)) g1.2).1))) rfl rfl rfl mj_mc152 mj_dc152 rfl rfl rfl rfl rfl rfl (x_X6_as l b base D z N  (I 0 (i + 1)) (I 0 (i + 2)) g1.2 cc dd r hP6) ?_
  refine R_seg (φ := []) (pc' := 1116) (L' := [.ref 0, .ref 1, .ref 42, .int i]) (st' := [.int ((s_X6_as  (I 0 (i + 1)) (I 0 (i + 2)) g1.2).1), .int g1.1]) (σ' := ((62, mj_KK N, (62, 12258), (600000, 7302249)), (s_X6_as  (I 0 (i + 1)) (I 0 (i + 2)) g1.2).2, mj_PP cc dd r)) 0 rfl trivial ?_
  refine R_br (q := (g1.1 : Int32) = (s_X6_as  (I 0 (i + 1)) (I 0 (i + 2)) g1.2).1) (t := 1170) (f := 1119) (rest := []) rfl (fun h1 => ?_) (fun h1 => absurd (hV.1) h1)
  exact K _ _ _ _ (rq_W_of hcc hl6 hV.2)
set_option maxHeartbeats 8000000 in
theorem rq_law_23 (l : Launch) (b base : Nat) (D : va_G) (z : mj_K × (Int32 → Int32)) (N : Nat) {cc dd r m p R : Nat} {I : mj_I} {i : Int32} {Q : Option Value → mj_S → Prop} (hcc : (cc = 2 ∧ dd = 10) ∨ (cc = 10 ∧ dd = 2)) (hR : mj_RL cc m p R I I) (hi : ∀ t : Int32, 0 ≤ t.toInt → t.toInt ≤ 6 → mj_in (i + t) N) (K : ∀ (cc dd r : Nat) (I : mj_I), rq_W cc dd I → mj_Rn l b base D z mj_m_L_law 1170 [.ref 0, .ref 1, .ref 42, .int i] [] ((62, mj_KK N, (62, 12258), (600000, 7302249)), I, mj_PP cc dd r) (Q)) : mj_Rn l b base D z mj_m_L_law 1121 [.ref 0, .ref 1, .ref 42, .int i] [] ((62, mj_KK N, (62, 12258), (600000, 7302249)), I, mj_PP cc dd r) (Q) := by
  have hc : cc = 2 ∨ cc = 10 := by omega
  obtain ⟨hm, hp3, hs5, hp5, hn, hpl, hrr, hl, hJ, hCn, hE⟩ := rq_pre5 hR
  refine R_seg (φ := []) (pc' := 1122) (L' := [.ref 0, .ref 1, .ref 42, .int i]) (st' := [.ref 1]) (σ' := ((62, mj_KK N, (62, 12258), (600000, 7302249)), I, mj_PP cc dd r)) 1 rfl trivial ?_
  refine R_cL (idx := 115) (mid := 79) (kind := 0) (N := N) (M' := mj_m_X5_trace) (As := [.ref 1]) (rest := []) (I := I) (P := mj_PP cc dd r) (I' := I) (P' := mj_PP cc dd r) (v := some (.int (s_X5_trace  I))) rfl rfl rfl mj_mc79 mj_dc79 rfl rfl rfl rfl rfl rfl (x_X5_trace l b base D z N  I cc dd r ) ?_
  have hR2 := hR
  have hV := rq_v_trace hc hR2 
  obtain ⟨hm, hp3, hs6, hp6, hS6, hP6, hR6, hL, hJ0⟩ := rq_pre6 hR2
  refine R_seg (φ := []) (pc' := 1126) (L' := [.ref 0, .ref 1, .ref 42, .int i]) (st' := [.ref 42, .int (s_X5_trace  I)]) (σ' := ((62, mj_KK N, (62, 12258), (600000, 7302249)), I, mj_PP cc dd r)) 1 rfl trivial ?_
  refine R_cL (idx := 118) (mid := 153) (kind := 0) (N := N) (M' := mj_m_X6_trace) (As := [.ref 42]) (rest := [.int (s_X5_trace  I)]) (I := I) (P := mj_PP cc dd r) (I' := I) (P' := mj_PP cc dd r) (v := some (.int (s_X6_trace   I))) rfl rfl rfl mj_mc153 mj_dc153 rfl rfl rfl rfl rfl rfl (x_X6_trace l b base D z N   I cc dd r ) ?_
  refine R_seg (φ := []) (pc' := 1129) (L' := [.ref 0, .ref 1, .ref 42, .int i]) (st' := [.int (s_X6_trace   I), .int (s_X5_trace  I)]) (σ' := ((62, mj_KK N, (62, 12258), (600000, 7302249)), I, mj_PP cc dd r)) 0 rfl trivial ?_
  refine R_br (q := ((s_X5_trace  I) : Int32) = (s_X6_trace   I)) (t := 1170) (f := 1132) (rest := []) rfl (fun h1 => ?_) (fun h1 => absurd (hV.1) h1)
  exact K _ _ _ _ ⟨hcc, m, p, R, hR⟩
set_option maxHeartbeats 8000000 in
theorem rq_law_24 (l : Launch) (b base : Nat) (D : va_G) (z : mj_K × (Int32 → Int32)) (N : Nat) {cc dd r m p R : Nat} {I : mj_I} {i : Int32} {Q : Option Value → mj_S → Prop} (hcc : (cc = 2 ∧ dd = 10) ∨ (cc = 10 ∧ dd = 2)) (hR : mj_RL cc m p R I I) (hi : ∀ t : Int32, 0 ≤ t.toInt → t.toInt ≤ 6 → mj_in (i + t) N) (K : ∀ (cc dd r : Nat) (I : mj_I), rq_W cc dd I → mj_Rn l b base D z mj_m_L_law 1170 [.ref 0, .ref 1, .ref 42, .int i] [] ((62, mj_KK N, (62, 12258), (600000, 7302249)), I, mj_PP cc dd r) (Q)) : mj_Rn l b base D z mj_m_L_law 1134 [.ref 0, .ref 1, .ref 42, .int i] [] ((62, mj_KK N, (62, 12258), (600000, 7302249)), I, mj_PP cc dd r) (Q) := by
  have hc : cc = 2 ∨ cc = 10 := by omega
  obtain ⟨hm, hp3, hs5, hp5, hn, hpl, hrr, hl, hJ, hCn, hE⟩ := rq_pre5 hR
  refine R_seg (φ := []) (pc' := 1135) (L' := [.ref 0, .ref 1, .ref 42, .int i]) (st' := [.ref 1]) (σ' := ((62, mj_KK N, (62, 12258), (600000, 7302249)), I, mj_PP cc dd r)) 1 rfl trivial ?_
  refine R_cL (idx := 119) (mid := 80) (kind := 0) (N := N) (M' := mj_m_X5_fault) (As := [.ref 1]) (rest := []) (I := I) (P := mj_PP cc dd r) (I' := I) (P' := mj_PP cc dd r) (v := some (.int (s_X5_fault  I))) rfl rfl rfl mj_mc80 mj_dc80 rfl rfl rfl rfl rfl rfl (x_X5_fault l b base D z N  I cc dd r ) ?_
  have hR2 := hR
  have hV := rq_v_fault hc hR2 
  obtain ⟨hm, hp3, hs6, hp6, hS6, hP6, hR6, hL, hJ0⟩ := rq_pre6 hR2
  refine R_seg (φ := []) (pc' := 1139) (L' := [.ref 0, .ref 1, .ref 42, .int i]) (st' := [.ref 42, .int (s_X5_fault  I)]) (σ' := ((62, mj_KK N, (62, 12258), (600000, 7302249)), I, mj_PP cc dd r)) 1 rfl trivial ?_
  refine R_cL (idx := 122) (mid := 154) (kind := 0) (N := N) (M' := mj_m_X6_fault) (As := [.ref 42]) (rest := [.int (s_X5_fault  I)]) (I := I) (P := mj_PP cc dd r) (I' := I) (P' := mj_PP cc dd r) (v := some (.int (s_X6_fault   I))) rfl rfl rfl mj_mc154 mj_dc154 rfl rfl rfl rfl rfl rfl (x_X6_fault l b base D z N   I cc dd r ) ?_
  refine R_seg (φ := []) (pc' := 1142) (L' := [.ref 0, .ref 1, .ref 42, .int i]) (st' := [.int (s_X6_fault   I), .int (s_X5_fault  I)]) (σ' := ((62, mj_KK N, (62, 12258), (600000, 7302249)), I, mj_PP cc dd r)) 0 rfl trivial ?_
  refine R_br (q := ((s_X5_fault  I) : Int32) = (s_X6_fault   I)) (t := 1170) (f := 1145) (rest := []) rfl (fun h1 => ?_) (fun h1 => absurd (hV.1) h1)
  exact K _ _ _ _ ⟨hcc, m, p, R, hR⟩
set_option maxHeartbeats 8000000 in
theorem rq_law_25 (l : Launch) (b base : Nat) (D : va_G) (z : mj_K × (Int32 → Int32)) (N : Nat) {cc dd r m p R : Nat} {I : mj_I} {i : Int32} {Q : Option Value → mj_S → Prop} (hcc : (cc = 2 ∧ dd = 10) ∨ (cc = 10 ∧ dd = 2)) (hR : mj_RL cc m p R I I) (hi : ∀ t : Int32, 0 ≤ t.toInt → t.toInt ≤ 6 → mj_in (i + t) N) (K : ∀ (cc dd r : Nat) (I : mj_I), rq_W cc dd I → mj_Rn l b base D z mj_m_L_law 1170 [.ref 0, .ref 1, .ref 42, .int i] [] ((62, mj_KK N, (62, 12258), (600000, 7302249)), I, mj_PP cc dd r) (Q)) : mj_Rn l b base D z mj_m_L_law 1147 [.ref 0, .ref 1, .ref 42, .int i] [] ((62, mj_KK N, (62, 12258), (600000, 7302249)), I, mj_PP cc dd r) (Q) := by
  have hc : cc = 2 ∨ cc = 10 := by omega
  obtain ⟨hm, hp3, hs5, hp5, hn, hpl, hrr, hl, hJ, hCn, hE⟩ := rq_pre5 hR
  refine R_seg (φ := [mj_in (i + 1) N]) (pc' := 1153) (L' := [.ref 0, .ref 1, .ref 42, .int i]) (st' := [.int (I 0 (i + 1)), .ref 1]) (σ' := ((62, mj_KK N, (62, 12258), (600000, 7302249)), I, mj_PP cc dd r)) 6 rfl ⟨(hi 1 (by decide) (by decide)), trivial⟩ ?_
  refine R_cL (idx := 123) (mid := 81) (kind := 0) (N := N) (M' := mj_m_X5_many) (As := [.ref 1, .int (I 0 (i + 1))]) (rest := []) (I := I) (P := mj_PP cc dd r) (I' := I) (P' := mj_PP cc dd r) (v := some (.int (s_X5_many cc m (I 0 (i + 1))  I))) rfl rfl rfl mj_mc81 mj_dc81 rfl rfl rfl rfl rfl rfl (x_X5_many l b base D z N cc m (I 0 (i + 1)) hc I dd r hm hs5 hCn) ?_
  have hR2 := hR
  have hV := rq_v_many hc hR2 (I 0 (i + 1))
  have hl6 := rq_l6_many hc hR2 (I 0 (i + 1))
  obtain ⟨hm, hp3, hs6, hp6, hS6, hP6, hR6, hL, hJ0⟩ := rq_pre6 hR2
  refine R_seg (φ := [mj_in (i + 1) N]) (pc' := 1162) (L' := [.ref 0, .ref 1, .ref 42, .int i]) (st' := [.int (I 0 (i + 1)), .ref 42, .int (s_X5_many cc m (I 0 (i + 1))  I)]) (σ' := ((62, mj_KK N, (62, 12258), (600000, 7302249)), I, mj_PP cc dd r)) 6 rfl ⟨(hi 1 (by decide) (by decide)), trivial⟩ ?_
  refine R_cL (idx := 126) (mid := 156) (kind := 0) (N := N) (M' := mj_m_X6_many) (As := [.ref 42, .int (I 0 (i + 1))]) (rest := [.int (s_X5_many cc m (I 0 (i + 1))  I)]) (I := I) (P := mj_PP cc dd r) (I' := (s_X6_many m (I 0 (i + 1)) I).2) (P' := mj_PP cc dd r) (v := some (.int ((s_X6_many m (I 0 (i + 1)) I).1))) rfl rfl rfl mj_mc156 mj_dc156 rfl rfl rfl rfl rfl rfl (x_X6_many l b base D z N m (I 0 (i + 1)) I cc dd r hm hs6) ?_
  refine R_seg (φ := []) (pc' := 1165) (L' := [.ref 0, .ref 1, .ref 42, .int i]) (st' := [.int ((s_X6_many m (I 0 (i + 1)) I).1), .int (s_X5_many cc m (I 0 (i + 1))  I)]) (σ' := ((62, mj_KK N, (62, 12258), (600000, 7302249)), (s_X6_many m (I 0 (i + 1)) I).2, mj_PP cc dd r)) 0 rfl trivial ?_
  refine R_br (q := ((s_X5_many cc m (I 0 (i + 1))  I) : Int32) = (s_X6_many m (I 0 (i + 1)) I).1) (t := 1170) (f := 1168) (rest := []) rfl (fun h1 => ?_) (fun h1 => absurd (hV.1) h1)
  exact K _ _ _ _ (rq_W_of hcc hl6 hV.2)
