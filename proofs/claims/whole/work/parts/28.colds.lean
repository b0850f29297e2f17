/-! the class: colds -/
def s_X5_sc (cc : Nat) (a : Int32) (m : Nat) : Nat → Nat → mj_I → mj_I
  | 0, j, I => I
  | k + 1, j, I => if sp_cor (I (cc + 2)) a (nI j) then (s_X5_sc cc a m k (j + 1)  (mj_upI I 31 (nI j) (mj_min (I 31 (nI j)) ((I 31 a) + (sp_cold (I (cc + 1)) a (nI j)))))) else (s_X5_sc cc a m k (j + 1)  I)
set_option maxHeartbeats 8000000 in
theorem x_X5_sc (l : Launch) (b base : Nat) (D : va_G) (z : mj_K × (Int32 → Int32)) (N : Nat) (cc : Nat) (a : Int32) (m : Nat) (hcc : cc = 2 ∨ cc = 10) (d r : Nat) (hm : m ≤ 6) (ha : mj_in a 6) : ∀ (k j : Nat) (I : mj_I), k = m - j → 0 ≤ j → j ≤ m + 1 → I cc 0 = nI m → mj_Rn l b base D z mj_m_X5_spreadColdsByCorners 15 [.ref 1, .int a, .int (nI j)] [] (mj_KS N, I, mj_PP cc d r) (mj_E N none (s_X5_sc cc a m k j  I) (mj_PP cc d r)) := by
  rcases hcc with rfl | rfl
  · skip
    intro k
    induction k with
    | zero =>
      intro j I hk hlo hj hs
      refine R_seg (φ := []) (pc' := 23) (L' := [.ref 1, .int a, .int (nI j)]) (st' := [.int (I 2 0), .int (nI j)]) (σ' := (mj_KS N, I, mj_PP (2) d r)) 4 rfl trivial ?_
      refine R_br (q := (nI j : Int32) < I 2 0) (t := 26) (f := 75) (rest := []) rfl (fun h1 => absurd h1 (by rw [hs]; exact nI_nlt (by omega) (by omega))) (fun h1 => ?_)
      exact R_rv rfl rfl (mj_leaf (by simp only [s_X5_sc, Bool.false_eq_true, ↓reduceIte, Nat.reduceAdd, Nat.reduceMul, mj_tn0, mj_tn1, mj_tn2, mj_tn3]) (by simp only [s_X5_sc, Bool.false_eq_true, ↓reduceIte, Nat.reduceAdd, Nat.reduceMul, mj_tn0, mj_tn1, mj_tn2, mj_tn3]))
    | succ k ih =>
      intro j I hk hlo hj hs
      have hjm : j < m := by omega
      have hin : mj_in (nI j) 6 := mj_in_nI (by omega) (by omega)
      refine R_seg (φ := []) (pc' := 23) (L' := [.ref 1, .int a, .int (nI j)]) (st' := [.int (I 2 0), .int (nI j)]) (σ' := (mj_KS N, I, mj_PP (2) d r)) 4 rfl trivial ?_
      refine R_br (q := (nI j : Int32) < I 2 0) (t := 26) (f := 75) (rest := []) rfl (fun h1 => ?_) (fun h1 => absurd (by rw [hs]; exact nI_lt hjm (by omega)) h1)
      refine R_seg (φ := []) (pc' := 32) (L' := [.ref 1, .int a, .int (nI j)]) (st' := [.int (nI j), .int a, .ref 2]) (σ' := (mj_KS N, I, mj_PP (2) d r)) 4 rfl trivial ?_
      refine R_ce (idx := 129) (mid := 9) (kind := 3) (N := N) (M' := mj_m_X1_hasCorner) (As := [.ref 2, .int a, .int (nI j)]) (rest := []) (I := I) (P := mj_PP (2) d r) (I' := I) (P' := mj_PP (2) d r) (v := some (.int (bI (sp_cor (I 4) a (nI j))))) rfl rfl rfl mj_mc9 mj_dc9 rfl rfl rfl rfl rfl rfl (x_hasCorner l b base D z N 2 (by decide) a (nI j) I (2) d r ha) ?_
      refine R_seg (φ := []) (pc' := 35) (L' := [.ref 1, .int a, .int (nI j)]) (st' := [.int (bI (sp_cor (I 4) a (nI j)))]) (σ' := (mj_KS N, I, mj_PP (2) d r)) 0 rfl trivial ?_
      refine R_br (q := (bI (sp_cor (I 4) a (nI j)) : Int32) = 0) (t := 69) (f := 38) (rest := []) rfl (fun h2 => ?_) (fun h2 => ?_)
      · skip
        replace h2 := bI_0.mp h2
        refine R_seg (φ := []) (pc' := 15) (L' := [.ref 1, .int a, .int ((nI j) + 1)]) (st' := []) (σ' := (mj_KS N, I, mj_PP (2) d r)) 2 rfl trivial ?_
        rw [nI_1 j]
        rw [show s_X5_sc 2 a m (k + 1) j  I = s_X5_sc 2 a m k (j + 1)  I from by simp only [s_X5_sc, h2, Bool.false_eq_true, ↓reduceIte, Nat.reduceAdd, Nat.reduceMul, mj_tn0, mj_tn1, mj_tn2, mj_tn3]]
        exact ih (j + 1)  I (by omega) (by omega) (by omega) (hs)
      · skip
        replace h2 := bI_1 h2
        refine R_seg (φ := [mj_in (nI j) 6, mj_in a 6]) (pc' := 61) (L' := [.ref 1, .int a, .int (nI j)]) (st' := [.int (nI j), .int a, .ref 2, .int (I 31 a), .int (I 31 (nI j)), .int (nI j), .ref 31]) (σ' := (mj_KS N, I, mj_PP (2) d r)) 15 rfl ⟨hin, ha, trivial⟩ ?_
        refine R_ce (idx := 172) (mid := 13) (kind := 3) (N := N) (M' := mj_m_X1_coldsOfStep) (As := [.ref 2, .int a, .int (nI j)]) (rest := [.int (I 31 a), .int (I 31 (nI j)), .int (nI j), .ref 31]) (I := I) (P := mj_PP (2) d r) (I' := I) (P' := mj_PP (2) d r) (v := some (.int (sp_cold (I 3) a (nI j)))) rfl rfl rfl mj_mc13 mj_dc13 rfl rfl rfl rfl rfl rfl (x_coldsOfStep l b base D z N 2 (by decide) a (nI j) I (2) d r ha hin) ?_
        refine R_seg (φ := [mj_in (nI j) 6]) (pc' := 15) (L' := [.ref 1, .int a, .int ((nI j) + 1)]) (st' := []) (σ' := (mj_KS N, (mj_upI I 31 (nI j) (mj_min (I 31 (nI j)) ((I 31 a) + (sp_cold (I 3) a (nI j))))), mj_PP (2) d r)) 5 rfl ⟨hin, trivial⟩ ?_
        rw [nI_1 j]
        rw [show s_X5_sc 2 a m (k + 1) j  I = s_X5_sc 2 a m k (j + 1)  (mj_upI I 31 (nI j) (mj_min (I 31 (nI j)) ((I 31 a) + (sp_cold (I 3) a (nI j))))) from by simp only [s_X5_sc, h2, Bool.false_eq_true, ↓reduceIte, Nat.reduceAdd, Nat.reduceMul, mj_tn0, mj_tn1, mj_tn2, mj_tn3]]
        exact ih (j + 1)  (mj_upI I 31 (nI j) (mj_min (I 31 (nI j)) ((I 31 a) + (sp_cold (I 3) a (nI j))))) (by omega) (by omega) (by omega) ((congrFun (mj_upI_ne (by decide)) _).trans hs)
  · skip
    intro k
    induction k with
    | zero =>
      intro j I hk hlo hj hs
      refine R_seg (φ := []) (pc' := 23) (L' := [.ref 1, .int a, .int (nI j)]) (st' := [.int (I 10 0), .int (nI j)]) (σ' := (mj_KS N, I, mj_PP (10) d r)) 4 rfl trivial ?_
      refine R_br (q := (nI j : Int32) < I 10 0) (t := 26) (f := 75) (rest := []) rfl (fun h1 => absurd h1 (by rw [hs]; exact nI_nlt (by omega) (by omega))) (fun h1 => ?_)
      exact R_rv rfl rfl (mj_leaf (by simp only [s_X5_sc, Bool.false_eq_true, ↓reduceIte, Nat.reduceAdd, Nat.reduceMul, mj_tn0, mj_tn1, mj_tn2, mj_tn3]) (by simp only [s_X5_sc, Bool.false_eq_true, ↓reduceIte, Nat.reduceAdd, Nat.reduceMul, mj_tn0, mj_tn1, mj_tn2, mj_tn3]))
    | succ k ih =>
      intro j I hk hlo hj hs
      have hjm : j < m := by omega
      have hin : mj_in (nI j) 6 := mj_in_nI (by omega) (by omega)
      refine R_seg (φ := []) (pc' := 23) (L' := [.ref 1, .int a, .int (nI j)]) (st' := [.int (I 10 0), .int (nI j)]) (σ' := (mj_KS N, I, mj_PP (10) d r)) 4 rfl trivial ?_
      refine R_br (q := (nI j : Int32) < I 10 0) (t := 26) (f := 75) (rest := []) rfl (fun h1 => ?_) (fun h1 => absurd (by rw [hs]; exact nI_lt hjm (by omega)) h1)
      refine R_seg (φ := []) (pc' := 32) (L' := [.ref 1, .int a, .int (nI j)]) (st' := [.int (nI j), .int a, .ref 10]) (σ' := (mj_KS N, I, mj_PP (10) d r)) 4 rfl trivial ?_
      refine R_ce (idx := 129) (mid := 9) (kind := 3) (N := N) (M' := mj_m_X1_hasCorner) (As := [.ref 10, .int a, .int (nI j)]) (rest := []) (I := I) (P := mj_PP (10) d r) (I' := I) (P' := mj_PP (10) d r) (v := some (.int (bI (sp_cor (I 12) a (nI j))))) rfl rfl rfl mj_mc9 mj_dc9 rfl rfl rfl rfl rfl rfl (x_hasCorner l b base D z N 10 (by decide) a (nI j) I (10) d r ha) ?_
      refine R_seg (φ := []) (pc' := 35) (L' := [.ref 1, .int a, .int (nI j)]) (st' := [.int (bI (sp_cor (I 12) a (nI j)))]) (σ' := (mj_KS N, I, mj_PP (10) d r)) 0 rfl trivial ?_
      refine R_br (q := (bI (sp_cor (I 12) a (nI j)) : Int32) = 0) (t := 69) (f := 38) (rest := []) rfl (fun h2 => ?_) (fun h2 => ?_)
      · skip
        replace h2 := bI_0.mp h2
        refine R_seg (φ := []) (pc' := 15) (L' := [.ref 1, .int a, .int ((nI j) + 1)]) (st' := []) (σ' := (mj_KS N, I, mj_PP (10) d r)) 2 rfl trivial ?_
        rw [nI_1 j]
        rw [show s_X5_sc 10 a m (k + 1) j  I = s_X5_sc 10 a m k (j + 1)  I from by simp only [s_X5_sc, h2, Bool.false_eq_true, ↓reduceIte, Nat.reduceAdd, Nat.reduceMul, mj_tn0, mj_tn1, mj_tn2, mj_tn3]]
        exact ih (j + 1)  I (by omega) (by omega) (by omega) (hs)
      · skip
        replace h2 := bI_1 h2
        refine R_seg (φ := [mj_in (nI j) 6, mj_in a 6]) (pc' := 61) (L' := [.ref 1, .int a, .int (nI j)]) (st' := [.int (nI j), .int a, .ref 10, .int (I 31 a), .int (I 31 (nI j)), .int (nI j), .ref 31]) (σ' := (mj_KS N, I, mj_PP (10) d r)) 15 rfl ⟨hin, ha, trivial⟩ ?_
        refine R_ce (idx := 172) (mid := 13) (kind := 3) (N := N) (M' := mj_m_X1_coldsOfStep) (As := [.ref 10, .int a, .int (nI j)]) (rest := [.int (I 31 a), .int (I 31 (nI j)), .int (nI j), .ref 31]) (I := I) (P := mj_PP (10) d r) (I' := I) (P' := mj_PP (10) d r) (v := some (.int (sp_cold (I 11) a (nI j)))) rfl rfl rfl mj_mc13 mj_dc13 rfl rfl rfl rfl rfl rfl (x_coldsOfStep l b base D z N 10 (by decide) a (nI j) I (10) d r ha hin) ?_
        refine R_seg (φ := [mj_in (nI j) 6]) (pc' := 15) (L' := [.ref 1, .int a, .int ((nI j) + 1)]) (st' := []) (σ' := (mj_KS N, (mj_upI I 31 (nI j) (mj_min (I 31 (nI j)) ((I 31 a) + (sp_cold (I 11) a (nI j))))), mj_PP (10) d r)) 5 rfl ⟨hin, trivial⟩ ?_
        rw [nI_1 j]
        rw [show s_X5_sc 10 a m (k + 1) j  I = s_X5_sc 10 a m k (j + 1)  (mj_upI I 31 (nI j) (mj_min (I 31 (nI j)) ((I 31 a) + (sp_cold (I 11) a (nI j))))) from by simp only [s_X5_sc, h2, Bool.false_eq_true, ↓reduceIte, Nat.reduceAdd, Nat.reduceMul, mj_tn0, mj_tn1, mj_tn2, mj_tn3]]
        exact ih (j + 1)  (mj_upI I 31 (nI j) (mj_min (I 31 (nI j)) ((I 31 a) + (sp_cold (I 11) a (nI j))))) (by omega) (by omega) (by omega) ((congrFun (mj_upI_ne (by decide)) _).trans hs)
def s_X5_spreadColdsByCorners (cc : Nat) (a : Int32) (m : Nat) (I : mj_I) : mj_I := if (I 31 a : Int32) = 1000 then I else (s_X5_sc (cc) a m m 0  I)
set_option maxHeartbeats 8000000 in
theorem x_X5_spreadColdsByCorners (l : Launch) (b base : Nat) (D : va_G) (z : mj_K × (Int32 → Int32)) (N : Nat) (cc : Nat) (a : Int32) (m : Nat) (hcc : cc = 2 ∨ cc = 10) (I : mj_I) (d r : Nat) (hm : m ≤ 6) (ha : mj_in a 6) (hs : I cc 0 = nI m) : mj_Rn l b base D z mj_m_X5_spreadColdsByCorners 0 [.ref 1, .int a, mj_mk] [] (mj_KS N, I, mj_PP cc d r) (mj_E N none (s_X5_spreadColdsByCorners cc a m I) (mj_PP cc d r)) := by
  rcases hcc with rfl | rfl
  · skip
    refine R_seg (φ := [mj_in a 6]) (pc' := 9) (L' := [.ref 1, .int a, mj_mk]) (st' := [.int 1000, .int (I 31 a)]) (σ' := (mj_KS N, I, mj_PP (2) d r)) 5 rfl ⟨ha, trivial⟩ ?_
    refine R_br (q := (I 31 a : Int32) = 1000) (t := 12) (f := 13) (rest := []) rfl (fun h1 => ?_) (fun h1 => ?_)
    · skip
      exact R_rv rfl rfl (mj_leaf (by simp only [s_X5_spreadColdsByCorners, if_pos h1, Bool.false_eq_true, ↓reduceIte, Nat.reduceAdd, Nat.reduceMul, mj_tn0, mj_tn1, mj_tn2, mj_tn3]) (by simp only [s_X5_spreadColdsByCorners, if_pos h1, Bool.false_eq_true, ↓reduceIte, Nat.reduceAdd, Nat.reduceMul, mj_tn0, mj_tn1, mj_tn2, mj_tn3]))
    · skip
      refine R_seg (φ := []) (pc' := 15) (L' := [.ref 1, .int a, .int 0]) (st' := []) (σ' := (mj_KS N, I, mj_PP (2) d r)) 2 rfl trivial ?_
      simp only [s_X5_spreadColdsByCorners, if_neg h1, Bool.false_eq_true, ↓reduceIte, Nat.reduceAdd, Nat.reduceMul, mj_tn0, mj_tn1, mj_tn2, mj_tn3]
      exact x_X5_sc l b base D z N (2) a m (by decide) d r hm ha m 0  I (by omega) (by omega) (by omega) hs
  · skip
    refine R_seg (φ := [mj_in a 6]) (pc' := 9) (L' := [.ref 1, .int a, mj_mk]) (st' := [.int 1000, .int (I 31 a)]) (σ' := (mj_KS N, I, mj_PP (10) d r)) 5 rfl ⟨ha, trivial⟩ ?_
    refine R_br (q := (I 31 a : Int32) = 1000) (t := 12) (f := 13) (rest := []) rfl (fun h1 => ?_) (fun h1 => ?_)
    · skip
      exact R_rv rfl rfl (mj_leaf (by simp only [s_X5_spreadColdsByCorners, if_pos h1, Bool.false_eq_true, ↓reduceIte, Nat.reduceAdd, Nat.reduceMul, mj_tn0, mj_tn1, mj_tn2, mj_tn3]) (by simp only [s_X5_spreadColdsByCorners, if_pos h1, Bool.false_eq_true, ↓reduceIte, Nat.reduceAdd, Nat.reduceMul, mj_tn0, mj_tn1, mj_tn2, mj_tn3]))
    · skip
      refine R_seg (φ := []) (pc' := 15) (L' := [.ref 1, .int a, .int 0]) (st' := []) (σ' := (mj_KS N, I, mj_PP (10) d r)) 2 rfl trivial ?_
      simp only [s_X5_spreadColdsByCorners, if_neg h1, Bool.false_eq_true, ↓reduceIte, Nat.reduceAdd, Nat.reduceMul, mj_tn0, mj_tn1, mj_tn2, mj_tn3]
      exact x_X5_sc l b base D z N (10) a m (by decide) d r hm ha m 0  I (by omega) (by omega) (by omega) hs
theorem mj_sc_l (cc : Nat) (a : Int32) (m : Nat) (x : Nat) (hx : x ≠ 31) : ∀ (k j : Nat) (I : mj_I), s_X5_sc cc a m k j I x = I x := by
  intro k
  induction k with
  | zero => intro j I; rfl
  | succ k ih =>
    intro j I
    rw [s_X5_sc]
    split
    · rw [ih, mj_upI_ne hx]
    · rw [ih]
theorem mj_sc_fr (cc : Nat) (a : Int32) (m : Nat) (I : mj_I) (x : Nat) (hx : x ≠ 31) : s_X5_spreadColdsByCorners cc a m I x = I x := by
  unfold s_X5_spreadColdsByCorners
  split
  · rfl
  · exact mj_sc_l cc a m x hx m 0 I
def s_X5_s1 (cc : Nat) (m : Nat) (a : Int32) (q : Int32) : Nat → Nat → mj_I → mj_I
  | 0, j, I => I
  | k + 1, j, I => s_X5_s1 cc m a q k (j + 1)  (s_X5_spreadColdsByCorners (cc) (nI j) m I)
set_option maxHeartbeats 8000000 in
theorem x_X5_s1 (l : Launch) (b base : Nat) (D : va_G) (z : mj_K × (Int32 → Int32)) (N : Nat) (cc : Nat) (m : Nat) (a : Int32) (q : Int32) (hcc : cc = 2 ∨ cc = 10) (d r : Nat) (Q : Option Value → mj_S → Prop) (hm : m ≤ 6) : ∀ (k j : Nat) (I : mj_I), k = m - j → 0 ≤ j → j ≤ m + 1 → I cc 0 = nI m → (∀ w_3 : Value, mj_Rn l b base D z mj_m_X5_spreadColds 54 [.ref 1, .int a, .int q, w_3] [] (mj_KS N, (s_X5_s1 cc m a q k j  I), mj_PP cc d r) (Q)) → mj_Rn l b base D z mj_m_X5_spreadColds 32 [.ref 1, .int a, .int q, .int (nI j)] [] (mj_KS N, I, mj_PP cc d r) (Q) := by
  rcases hcc with rfl | rfl
  · skip
    intro k
    induction k with
    | zero =>
      intro j I hk hlo hj hs K
      refine R_seg (φ := []) (pc' := 40) (L' := [.ref 1, .int a, .int q, .int (nI j)]) (st' := [.int (I 2 0), .int (nI j)]) (σ' := (mj_KS N, I, mj_PP (2) d r)) 4 rfl trivial ?_
      refine R_br (q := (nI j : Int32) < I 2 0) (t := 43) (f := 54) (rest := []) rfl (fun h1 => absurd h1 (by rw [hs]; exact nI_nlt (by omega) (by omega))) (fun h1 => ?_)
      exact K (.int (nI j))
    | succ k ih =>
      intro j I hk hlo hj hs K
      have hjm : j < m := by omega
      have hin : mj_in (nI j) 6 := mj_in_nI (by omega) (by omega)
      refine R_seg (φ := []) (pc' := 40) (L' := [.ref 1, .int a, .int q, .int (nI j)]) (st' := [.int (I 2 0), .int (nI j)]) (σ' := (mj_KS N, I, mj_PP (2) d r)) 4 rfl trivial ?_
      refine R_br (q := (nI j : Int32) < I 2 0) (t := 43) (f := 54) (rest := []) rfl (fun h1 => ?_) (fun h1 => absurd (by rw [hs]; exact nI_lt hjm (by omega)) h1)
      refine R_seg (φ := []) (pc' := 45) (L' := [.ref 1, .int a, .int q, .int (nI j)]) (st' := [.int (nI j), .ref 1]) (σ' := (mj_KS N, I, mj_PP (2) d r)) 2 rfl trivial ?_
      refine R_ce (idx := 203) (mid := 60) (kind := 0) (N := N) (M' := mj_m_X5_spreadColdsByCorners) (As := [.ref 1, .int (nI j)]) (rest := []) (I := I) (P := mj_PP (2) d r) (I' := (s_X5_spreadColdsByCorners (2) (nI j) m I)) (P' := mj_PP (2) d r) (v := none) rfl rfl rfl mj_mc60 mj_dc60 rfl rfl rfl rfl rfl rfl (x_X5_spreadColdsByCorners l b base D z N (2) (nI j) m (by decide) I d r hm hin hs) ?_
      refine R_seg (φ := []) (pc' := 32) (L' := [.ref 1, .int a, .int q, .int ((nI j) + 1)]) (st' := []) (σ' := (mj_KS N, (s_X5_spreadColdsByCorners (2) (nI j) m I), mj_PP (2) d r)) 2 rfl trivial ?_
      rw [nI_1 j]
      rw [show s_X5_s1 2 m a q (k + 1) j  I = s_X5_s1 2 m a q k (j + 1)  (s_X5_spreadColdsByCorners (2) (nI j) m I) from by simp only [s_X5_s1, Bool.false_eq_true, ↓reduceIte, Nat.reduceAdd, Nat.reduceMul, mj_tn0, mj_tn1, mj_tn2, mj_tn3]] at K
      exact ih (j + 1)  (s_X5_spreadColdsByCorners (2) (nI j) m I) (by omega) (by omega) (by omega) ((congrFun (mj_sc_fr _ _ _ _ _ (by decide)) _).trans hs) K
  · skip
    intro k
    induction k with
    | zero =>
      intro j I hk hlo hj hs K
      refine R_seg (φ := []) (pc' := 40) (L' := [.ref 1, .int a, .int q, .int (nI j)]) (st' := [.int (I 10 0), .int (nI j)]) (σ' := (mj_KS N, I, mj_PP (10) d r)) 4 rfl trivial ?_
      refine R_br (q := (nI j : Int32) < I 10 0) (t := 43) (f := 54) (rest := []) rfl (fun h1 => absurd h1 (by rw [hs]; exact nI_nlt (by omega) (by omega))) (fun h1 => ?_)
      exact K (.int (nI j))
    | succ k ih =>
      intro j I hk hlo hj hs K
      have hjm : j < m := by omega
      have hin : mj_in (nI j) 6 := mj_in_nI (by omega) (by omega)
      refine R_seg (φ := []) (pc' := 40) (L' := [.ref 1, .int a, .int q, .int (nI j)]) (st' := [.int (I 10 0), .int (nI j)]) (σ' := (mj_KS N, I, mj_PP (10) d r)) 4 rfl trivial ?_
      refine R_br (q := (nI j : Int32) < I 10 0) (t := 43) (f := 54) (rest := []) rfl (fun h1 => ?_) (fun h1 => absurd (by rw [hs]; exact nI_lt hjm (by omega)) h1)
      refine R_seg (φ := []) (pc' := 45) (L' := [.ref 1, .int a, .int q, .int (nI j)]) (st' := [.int (nI j), .ref 1]) (σ' := (mj_KS N, I, mj_PP (10) d r)) 2 rfl trivial ?_
      refine R_ce (idx := 203) (mid := 60) (kind := 0) (N := N) (M' := mj_m_X5_spreadColdsByCorners) (As := [.ref 1, .int (nI j)]) (rest := []) (I := I) (P := mj_PP (10) d r) (I' := (s_X5_spreadColdsByCorners (10) (nI j) m I)) (P' := mj_PP (10) d r) (v := none) rfl rfl rfl mj_mc60 mj_dc60 rfl rfl rfl rfl rfl rfl (x_X5_spreadColdsByCorners l b base D z N (10) (nI j) m (by decide) I d r hm hin hs) ?_
      refine R_seg (φ := []) (pc' := 32) (L' := [.ref 1, .int a, .int q, .int ((nI j) + 1)]) (st' := []) (σ' := (mj_KS N, (s_X5_spreadColdsByCorners (10) (nI j) m I), mj_PP (10) d r)) 2 rfl trivial ?_
      rw [nI_1 j]
      rw [show s_X5_s1 10 m a q (k + 1) j  I = s_X5_s1 10 m a q k (j + 1)  (s_X5_spreadColdsByCorners (10) (nI j) m I) from by simp only [s_X5_s1, Bool.false_eq_true, ↓reduceIte, Nat.reduceAdd, Nat.reduceMul, mj_tn0, mj_tn1, mj_tn2, mj_tn3]] at K
      exact ih (j + 1)  (s_X5_spreadColdsByCorners (10) (nI j) m I) (by omega) (by omega) (by omega) ((congrFun (mj_sc_fr _ _ _ _ _ (by decide)) _).trans hs) K
theorem mj_s1_fr (cc m : Nat) (a q : Int32) (x : Nat) (hx : x ≠ 31) : ∀ (k j : Nat) (I : mj_I), s_X5_s1 cc m a q k j I x = I x := by
  intro k
  induction k with
  | zero => intro j I; rfl
  | succ k ih =>
    intro j I
    rw [s_X5_s1, ih, mj_sc_fr _ _ _ _ _ hx]
def s_X5_s2 (cc : Nat) (m : Nat) (a : Int32) : Nat → Nat → mj_I → mj_I
  | 0, j, I => I
  | k + 1, j, I => s_X5_s2 cc m a k (j + 1)  (s_X5_s1 (cc) m a (nI j) m 0  I)
set_option maxHeartbeats 8000000 in
theorem x_X5_s2 (l : Launch) (b base : Nat) (D : va_G) (z : mj_K × (Int32 → Int32)) (N : Nat) (cc : Nat) (m : Nat) (a : Int32) (hcc : cc = 2 ∨ cc = 10) (d r : Nat) (hm : m ≤ 6) : ∀ (k j : Nat) (w3 : Value) (I : mj_I), k = m - j → 1 ≤ j → j ≤ m + 1 → I cc 0 = nI m → mj_Rn l b base D z mj_m_X5_spreadColds 19 [.ref 1, .int a, .int (nI j), w3] [] (mj_KS N, I, mj_PP cc d r) (mj_E N none (s_X5_s2 cc m a k j  I) (mj_PP cc d r)) := by
  rcases hcc with rfl | rfl
  · skip
    intro k
    induction k with
    | zero =>
      intro j w3 I hk hlo hj hs
      refine R_seg (φ := []) (pc' := 27) (L' := [.ref 1, .int a, .int (nI j), w3]) (st' := [.int (I 2 0), .int (nI j)]) (σ' := (mj_KS N, I, mj_PP (2) d r)) 4 rfl trivial ?_
      refine R_br (q := (nI j : Int32) < I 2 0) (t := 30) (f := 60) (rest := []) rfl (fun h1 => absurd h1 (by rw [hs]; exact nI_nlt (by omega) (by omega))) (fun h1 => ?_)
      exact R_rv rfl rfl (mj_leaf (by simp only [s_X5_s2, Bool.false_eq_true, ↓reduceIte, Nat.reduceAdd, Nat.reduceMul, mj_tn0, mj_tn1, mj_tn2, mj_tn3]) (by simp only [s_X5_s2, Bool.false_eq_true, ↓reduceIte, Nat.reduceAdd, Nat.reduceMul, mj_tn0, mj_tn1, mj_tn2, mj_tn3]))
    | succ k ih =>
      intro j w3 I hk hlo hj hs
      have hjm : j < m := by omega
      refine R_seg (φ := []) (pc' := 27) (L' := [.ref 1, .int a, .int (nI j), w3]) (st' := [.int (I 2 0), .int (nI j)]) (σ' := (mj_KS N, I, mj_PP (2) d r)) 4 rfl trivial ?_
      refine R_br (q := (nI j : Int32) < I 2 0) (t := 30) (f := 60) (rest := []) rfl (fun h1 => ?_) (fun h1 => absurd (by rw [hs]; exact nI_lt hjm (by omega)) h1)
      refine R_seg (φ := []) (pc' := 32) (L' := [.ref 1, .int a, .int (nI j), .int 0]) (st' := []) (σ' := (mj_KS N, I, mj_PP (2) d r)) 2 rfl trivial ?_
      refine x_X5_s1 l b base D z N (2) m a (nI j) (by decide) d r _ hm m 0  I (by omega) (by omega) (by omega) hs ?_
      intro w_3
      refine R_seg (φ := []) (pc' := 19) (L' := [.ref 1, .int a, .int ((nI j) + 1), w_3]) (st' := []) (σ' := (mj_KS N, (s_X5_s1 (2) m a (nI j) m 0  I), mj_PP (2) d r)) 2 rfl trivial ?_
      rw [nI_1 j]
      rw [show s_X5_s2 2 m a (k + 1) j  I = s_X5_s2 2 m a k (j + 1)  (s_X5_s1 (2) m a (nI j) m 0  I) from by simp only [s_X5_s2, Bool.false_eq_true, ↓reduceIte, Nat.reduceAdd, Nat.reduceMul, mj_tn0, mj_tn1, mj_tn2, mj_tn3]]
      exact ih (j + 1)  w_3 (s_X5_s1 (2) m a (nI j) m 0  I) (by omega) (by omega) (by omega) ((congrFun (mj_s1_fr _ _ _ _ _ (by decide) _ _ _) _).trans hs)
  · skip
    intro k
    induction k with
    | zero =>
      intro j w3 I hk hlo hj hs
      refine R_seg (φ := []) (pc' := 27) (L' := [.ref 1, .int a, .int (nI j), w3]) (st' := [.int (I 10 0), .int (nI j)]) (σ' := (mj_KS N, I, mj_PP (10) d r)) 4 rfl trivial ?_
      refine R_br (q := (nI j : Int32) < I 10 0) (t := 30) (f := 60) (rest := []) rfl (fun h1 => absurd h1 (by rw [hs]; exact nI_nlt (by omega) (by omega))) (fun h1 => ?_)
      exact R_rv rfl rfl (mj_leaf (by simp only [s_X5_s2, Bool.false_eq_true, ↓reduceIte, Nat.reduceAdd, Nat.reduceMul, mj_tn0, mj_tn1, mj_tn2, mj_tn3]) (by simp only [s_X5_s2, Bool.false_eq_true, ↓reduceIte, Nat.reduceAdd, Nat.reduceMul, mj_tn0, mj_tn1, mj_tn2, mj_tn3]))
    | succ k ih =>
      intro j w3 I hk hlo hj hs
      have hjm : j < m := by omega
      refine R_seg (φ := []) (pc' := 27) (L' := [.ref 1, .int a, .int (nI j), w3]) (st' := [.int (I 10 0), .int (nI j)]) (σ' := (mj_KS N, I, mj_PP (10) d r)) 4 rfl trivial ?_
      refine R_br (q := (nI j : Int32) < I 10 0) (t := 30) (f := 60) (rest := []) rfl (fun h1 => ?_) (fun h1 => absurd (by rw [hs]; exact nI_lt hjm (by omega)) h1)
      refine R_seg (φ := []) (pc' := 32) (L' := [.ref 1, .int a, .int (nI j), .int 0]) (st' := []) (σ' := (mj_KS N, I, mj_PP (10) d r)) 2 rfl trivial ?_
      refine x_X5_s1 l b base D z N (10) m a (nI j) (by decide) d r _ hm m 0  I (by omega) (by omega) (by omega) hs ?_
      intro w_3
      refine R_seg (φ := []) (pc' := 19) (L' := [.ref 1, .int a, .int ((nI j) + 1), w_3]) (st' := []) (σ' := (mj_KS N, (s_X5_s1 (10) m a (nI j) m 0  I), mj_PP (10) d r)) 2 rfl trivial ?_
      rw [nI_1 j]
      rw [show s_X5_s2 10 m a (k + 1) j  I = s_X5_s2 10 m a k (j + 1)  (s_X5_s1 (10) m a (nI j) m 0  I) from by simp only [s_X5_s2, Bool.false_eq_true, ↓reduceIte, Nat.reduceAdd, Nat.reduceMul, mj_tn0, mj_tn1, mj_tn2, mj_tn3]]
      exact ih (j + 1)  w_3 (s_X5_s1 (10) m a (nI j) m 0  I) (by omega) (by omega) (by omega) ((congrFun (mj_s1_fr _ _ _ _ _ (by decide) _ _ _) _).trans hs)
theorem mj_fil_ne {I : mj_I} {A n x : Nat} {v : Int32} (h : x ≠ A) : mj_fil I A n v x = I x := by
  unfold mj_fil
  rw [mj_rwI_ne h]
def s_X5_spreadColds (cc : Nat) (m : Nat) (a : Int32) (I : mj_I) : mj_I := s_X5_s2 (cc) m a (m - 1) 1  (mj_upI (mj_fil I 31 6 1000) 31 a 0)
set_option maxHeartbeats 8000000 in
theorem x_X5_spreadColds (l : Launch) (b base : Nat) (D : va_G) (z : mj_K × (Int32 → Int32)) (N : Nat) (cc : Nat) (m : Nat) (a : Int32) (hcc : cc = 2 ∨ cc = 10) (I : mj_I) (d r : Nat) (hm : m ≤ 6) (ha : mj_in a 6) (hs : I cc 0 = nI m) : mj_Rn l b base D z mj_m_X5_spreadColds 0 [.ref 1, .int a, mj_mk, mj_mk] [] (mj_KS N, I, mj_PP cc d r) (mj_E N none (s_X5_spreadColds cc m a I) (mj_PP cc d r)) := by
  rcases hcc with rfl | rfl
  · skip
    refine R_seg (φ := []) (pc' := 7) (L' := [.ref 1, .int a, mj_mk, mj_mk]) (st' := [.int 1000, .ref 31]) (σ' := (mj_KS N, I, mj_PP (2) d r)) 3 rfl trivial ?_
    refine R_ce (idx := 197) (mid := 161) (kind := 1) (N := N) (M' := mj_m_J7_fill_53178) (As := [.ref 31, .int 1000]) (rest := []) (I := I) (P := mj_PP (2) d r) (I' := mj_fil I 31 6 1000) (P' := mj_PP (2) d r) (v := none) rfl rfl rfl mj_mc161 mj_dc161 rfl rfl rfl rfl rfl rfl (x_fill_31 l b base D z N I 1000 (2) d r) ?_
    refine R_seg (φ := [mj_in a 6]) (pc' := 19) (L' := [.ref 1, .int a, .int 1, mj_mk]) (st' := []) (σ' := (mj_KS N, (mj_upI (mj_fil I 31 6 1000) 31 a 0), mj_PP (2) d r)) 7 rfl ⟨ha, trivial⟩ ?_
    exact x_X5_s2 l b base D z N (2) m a (by decide) d r hm (m - 1) 1  mj_mk (mj_upI (mj_fil I 31 6 1000) 31 a 0) (by omega) (by omega) (by omega) ((congrFun ((mj_upI_ne (by decide)).trans (mj_fil_ne (by decide))) _).trans hs)
  · skip
    refine R_seg (φ := []) (pc' := 7) (L' := [.ref 1, .int a, mj_mk, mj_mk]) (st' := [.int 1000, .ref 31]) (σ' := (mj_KS N, I, mj_PP (10) d r)) 3 rfl trivial ?_
    refine R_ce (idx := 197) (mid := 161) (kind := 1) (N := N) (M' := mj_m_J7_fill_53178) (As := [.ref 31, .int 1000]) (rest := []) (I := I) (P := mj_PP (10) d r) (I' := mj_fil I 31 6 1000) (P' := mj_PP (10) d r) (v := none) rfl rfl rfl mj_mc161 mj_dc161 rfl rfl rfl rfl rfl rfl (x_fill_31 l b base D z N I 1000 (10) d r) ?_
    refine R_seg (φ := [mj_in a 6]) (pc' := 19) (L' := [.ref 1, .int a, .int 1, mj_mk]) (st' := []) (σ' := (mj_KS N, (mj_upI (mj_fil I 31 6 1000) 31 a 0), mj_PP (10) d r)) 7 rfl ⟨ha, trivial⟩ ?_
    exact x_X5_s2 l b base D z N (10) m a (by decide) d r hm (m - 1) 1  mj_mk (mj_upI (mj_fil I 31 6 1000) 31 a 0) (by omega) (by omega) (by omega) ((congrFun ((mj_upI_ne (by decide)).trans (mj_fil_ne (by decide))) _).trans hs)
theorem mj_s2_fr (cc m : Nat) (a : Int32) (x : Nat) (hx : x ≠ 31) : ∀ (k j : Nat) (I : mj_I), s_X5_s2 cc m a k j I x = I x := by
  intro k
  induction k with
  | zero => intro j I; rfl
  | succ k ih =>
    intro j I
    rw [s_X5_s2, ih, mj_s1_fr _ _ _ _ _ hx]
theorem mj_sp_fr (cc m : Nat) (a : Int32) (I : mj_I) (x : Nat) (hx : x ≠ 31) : s_X5_spreadColds cc m a I x = I x := by
  unfold s_X5_spreadColds
  rw [mj_s2_fr _ _ _ _ hx, mj_upI_ne hx, mj_fil_ne hx]
def s_X5_mc (cc : Nat) (m : Nat) (a : Int32) (I : mj_I) : Nat → Nat → Int32 → Int32
  | 0, j, g => g
  | k + 1, j, g => s_X5_mc cc m a I k (j + 1) (mj_max g (I 31 (nI j)))
set_option maxHeartbeats 8000000 in
theorem x_X5_mc (l : Launch) (b base : Nat) (D : va_G) (z : mj_K × (Int32 → Int32)) (N : Nat) (cc : Nat) (m : Nat) (a : Int32) (hcc : cc = 2 ∨ cc = 10) (I : mj_I) (d r : Nat) (hm : m ≤ 6) (hs : I cc 0 = nI m) : ∀ (k j : Nat) (g : Int32), k = m - j → 0 ≤ j → j ≤ m + 1 → mj_Rn l b base D z mj_m_X5_mostColds 9 [.ref 1, .int a, .int g, .int (nI j)] [] (mj_KS N, I, mj_PP cc d r) (mj_E N (some (.int (s_X5_mc cc m a I k j g))) I (mj_PP cc d r)) := by
  rcases hcc with rfl | rfl
  · skip
    intro k
    induction k with
    | zero =>
      intro j g hk hlo hj
      refine R_seg (φ := []) (pc' := 17) (L' := [.ref 1, .int a, .int g, .int (nI j)]) (st' := [.int (I 2 0), .int (nI j)]) (σ' := (mj_KS N, I, mj_PP (2) d r)) 4 rfl trivial ?_
      refine R_br (q := (nI j : Int32) < I 2 0) (t := 20) (f := 37) (rest := []) rfl (fun h1 => absurd h1 (by rw [hs]; exact nI_nlt (by omega) (by omega))) (fun h1 => ?_)
      refine R_seg (φ := []) (pc' := 38) (L' := [.ref 1, .int a, .int g, .int (nI j)]) (st' := [.int g]) (σ' := (mj_KS N, I, mj_PP (2) d r)) 1 rfl trivial ?_
      exact R_ri rfl rfl (mj_leaf (by simp only [s_X5_mc, Bool.false_eq_true, ↓reduceIte, Nat.reduceAdd, Nat.reduceMul, mj_tn0, mj_tn1, mj_tn2, mj_tn3]) (by simp only [s_X5_mc, Bool.false_eq_true, ↓reduceIte, Nat.reduceAdd, Nat.reduceMul, mj_tn0, mj_tn1, mj_tn2, mj_tn3]))
    | succ k ih =>
      intro j g hk hlo hj
      have hjm : j < m := by omega
      have hin : mj_in (nI j) 6 := mj_in_nI (by omega) (by omega)
      refine R_seg (φ := []) (pc' := 17) (L' := [.ref 1, .int a, .int g, .int (nI j)]) (st' := [.int (I 2 0), .int (nI j)]) (σ' := (mj_KS N, I, mj_PP (2) d r)) 4 rfl trivial ?_
      refine R_br (q := (nI j : Int32) < I 2 0) (t := 20) (f := 37) (rest := []) rfl (fun h1 => ?_) (fun h1 => absurd (by rw [hs]; exact nI_lt hjm (by omega)) h1)
      refine R_seg (φ := [mj_in (nI j) 6]) (pc' := 9) (L' := [.ref 1, .int a, .int (mj_max g (I 31 (nI j))), .int ((nI j) + 1)]) (st' := []) (σ' := (mj_KS N, I, mj_PP (2) d r)) 9 rfl ⟨hin, trivial⟩ ?_
      rw [nI_1 j]
      rw [show s_X5_mc 2 m a I (k + 1) j g = s_X5_mc 2 m a I k (j + 1) (mj_max g (I 31 (nI j))) from by simp only [s_X5_mc, Bool.false_eq_true, ↓reduceIte, Nat.reduceAdd, Nat.reduceMul, mj_tn0, mj_tn1, mj_tn2, mj_tn3]]
      exact ih (j + 1) (mj_max g (I 31 (nI j))) (by omega) (by omega) (by omega)
  · skip
    intro k
    induction k with
    | zero =>
      intro j g hk hlo hj
      refine R_seg (φ := []) (pc' := 17) (L' := [.ref 1, .int a, .int g, .int (nI j)]) (st' := [.int (I 10 0), .int (nI j)]) (σ' := (mj_KS N, I, mj_PP (10) d r)) 4 rfl trivial ?_
      refine R_br (q := (nI j : Int32) < I 10 0) (t := 20) (f := 37) (rest := []) rfl (fun h1 => absurd h1 (by rw [hs]; exact nI_nlt (by omega) (by omega))) (fun h1 => ?_)
      refine R_seg (φ := []) (pc' := 38) (L' := [.ref 1, .int a, .int g, .int (nI j)]) (st' := [.int g]) (σ' := (mj_KS N, I, mj_PP (10) d r)) 1 rfl trivial ?_
      exact R_ri rfl rfl (mj_leaf (by simp only [s_X5_mc, Bool.false_eq_true, ↓reduceIte, Nat.reduceAdd, Nat.reduceMul, mj_tn0, mj_tn1, mj_tn2, mj_tn3]) (by simp only [s_X5_mc, Bool.false_eq_true, ↓reduceIte, Nat.reduceAdd, Nat.reduceMul, mj_tn0, mj_tn1, mj_tn2, mj_tn3]))
    | succ k ih =>
      intro j g hk hlo hj
      have hjm : j < m := by omega
      have hin : mj_in (nI j) 6 := mj_in_nI (by omega) (by omega)
      refine R_seg (φ := []) (pc' := 17) (L' := [.ref 1, .int a, .int g, .int (nI j)]) (st' := [.int (I 10 0), .int (nI j)]) (σ' := (mj_KS N, I, mj_PP (10) d r)) 4 rfl trivial ?_
      refine R_br (q := (nI j : Int32) < I 10 0) (t := 20) (f := 37) (rest := []) rfl (fun h1 => ?_) (fun h1 => absurd (by rw [hs]; exact nI_lt hjm (by omega)) h1)
      refine R_seg (φ := [mj_in (nI j) 6]) (pc' := 9) (L' := [.ref 1, .int a, .int (mj_max g (I 31 (nI j))), .int ((nI j) + 1)]) (st' := []) (σ' := (mj_KS N, I, mj_PP (10) d r)) 9 rfl ⟨hin, trivial⟩ ?_
      rw [nI_1 j]
      rw [show s_X5_mc 10 m a I (k + 1) j g = s_X5_mc 10 m a I k (j + 1) (mj_max g (I 31 (nI j))) from by simp only [s_X5_mc, Bool.false_eq_true, ↓reduceIte, Nat.reduceAdd, Nat.reduceMul, mj_tn0, mj_tn1, mj_tn2, mj_tn3]]
      exact ih (j + 1) (mj_max g (I 31 (nI j))) (by omega) (by omega) (by omega)
def s_X5_mostColds (cc : Nat) (m : Nat) (a : Int32) (I : mj_I) : Int32 × mj_I := (s_X5_mc (cc) m a (s_X5_spreadColds (cc) m a I) m 0 0, (s_X5_spreadColds (cc) m a I))
set_option maxHeartbeats 8000000 in
theorem x_X5_mostColds (l : Launch) (b base : Nat) (D : va_G) (z : mj_K × (Int32 → Int32)) (N : Nat) (cc : Nat) (m : Nat) (a : Int32) (hcc : cc = 2 ∨ cc = 10) (I : mj_I) (d r : Nat) (hm : m ≤ 6) (ha : mj_in a 6) (hs : I cc 0 = nI m) : mj_Rn l b base D z mj_m_X5_mostColds 0 [.ref 1, .int a, mj_mk, mj_mk] [] (mj_KS N, I, mj_PP cc d r) (mj_E N (some (.int (s_X5_mostColds cc m a I).1)) (s_X5_mostColds cc m a I).2 (mj_PP cc d r)) := by
  rcases hcc with rfl | rfl
  · skip
    refine R_seg (φ := []) (pc' := 2) (L' := [.ref 1, .int a, mj_mk, mj_mk]) (st' := [.int a, .ref 1]) (σ' := (mj_KS N, I, mj_PP (2) d r)) 2 rfl trivial ?_
    refine R_ce (idx := 185) (mid := 59) (kind := 0) (N := N) (M' := mj_m_X5_spreadColds) (As := [.ref 1, .int a]) (rest := []) (I := I) (P := mj_PP (2) d r) (I' := (s_X5_spreadColds (2) m a I)) (P' := mj_PP (2) d r) (v := none) rfl rfl rfl mj_mc59 mj_dc59 rfl rfl rfl rfl rfl rfl (x_X5_spreadColds l b base D z N (2) m a (by decide) I d r hm ha hs) ?_
    refine R_seg (φ := []) (pc' := 9) (L' := [.ref 1, .int a, .int 0, .int 0]) (st' := []) (σ' := (mj_KS N, (s_X5_spreadColds (2) m a I), mj_PP (2) d r)) 4 rfl trivial ?_
    exact x_X5_mc l b base D z N (2) m a (by decide) (s_X5_spreadColds (2) m a I) d r hm ((congrFun (mj_sp_fr _ _ _ _ _ (by decide)) _).trans hs) m 0 0 (by omega) (by omega) (by omega)
  · skip
    refine R_seg (φ := []) (pc' := 2) (L' := [.ref 1, .int a, mj_mk, mj_mk]) (st' := [.int a, .ref 1]) (σ' := (mj_KS N, I, mj_PP (10) d r)) 2 rfl trivial ?_
    refine R_ce (idx := 185) (mid := 59) (kind := 0) (N := N) (M' := mj_m_X5_spreadColds) (As := [.ref 1, .int a]) (rest := []) (I := I) (P := mj_PP (10) d r) (I' := (s_X5_spreadColds (10) m a I)) (P' := mj_PP (10) d r) (v := none) rfl rfl rfl mj_mc59 mj_dc59 rfl rfl rfl rfl rfl rfl (x_X5_spreadColds l b base D z N (10) m a (by decide) I d r hm ha hs) ?_
    refine R_seg (φ := []) (pc' := 9) (L' := [.ref 1, .int a, .int 0, .int 0]) (st' := []) (σ' := (mj_KS N, (s_X5_spreadColds (10) m a I), mj_PP (10) d r)) 4 rfl trivial ?_
    exact x_X5_mc l b base D z N (10) m a (by decide) (s_X5_spreadColds (10) m a I) d r hm ((congrFun (mj_sp_fr _ _ _ _ _ (by decide)) _).trans hs) m 0 0 (by omega) (by omega) (by omega)
theorem mj_mc_fr (cc m : Nat) (a : Int32) (I : mj_I) (x : Nat) (hx : x ≠ 31) : (s_X5_mostColds cc m a I).2 x = I x := mj_sp_fr cc m a I x hx
def s_X5_be (cc : Nat) (m : Nat) : Nat → Nat → Int32 → Int32 → mj_I → Int32 × mj_I
  | 0, j, g, f, I => (g, I)
  | k + 1, j, g, f, I => if ((s_X5_mostColds (cc) m (nI j) I).1 : Int32) < f then (s_X5_be cc m k (j + 1) (nI j) ((s_X5_mostColds (cc) m (nI j) I).1) ((s_X5_mostColds (cc) m (nI j) I).2)) else (s_X5_be cc m k (j + 1) g f ((s_X5_mostColds (cc) m (nI j) I).2))
set_option maxHeartbeats 8000000 in
theorem x_X5_be (l : Launch) (b base : Nat) (D : va_G) (z : mj_K × (Int32 → Int32)) (N : Nat) (cc : Nat) (m : Nat) (hcc : cc = 2 ∨ cc = 10) (d r : Nat) (hm : m ≤ 6) : ∀ (k j : Nat) (g : Int32) (f : Int32) (w4 : Value) (I : mj_I), k = m - j → 0 ≤ j → j ≤ m + 1 → I cc 0 = nI m → mj_Rn l b base D z mj_m_X5_best 22 [.ref 1, .int g, .int f, .int (nI j), w4] [] (mj_KS N, I, mj_PP cc d r) (mj_E N (some (.int (s_X5_be cc m k j g f I).1)) (s_X5_be cc m k j g f I).2 (mj_PP cc d r)) := by
  rcases hcc with rfl | rfl
  · skip
    intro k
    induction k with
    | zero =>
      intro j g f w4 I hk hlo hj hs
      refine R_seg (φ := []) (pc' := 30) (L' := [.ref 1, .int g, .int f, .int (nI j), w4]) (st' := [.int (I 2 0), .int (nI j)]) (σ' := (mj_KS N, I, mj_PP (2) d r)) 4 rfl trivial ?_
      refine R_br (q := (nI j : Int32) < I 2 0) (t := 33) (f := 57) (rest := []) rfl (fun h1 => absurd h1 (by rw [hs]; exact nI_nlt (by omega) (by omega))) (fun h1 => ?_)
      refine R_seg (φ := []) (pc' := 58) (L' := [.ref 1, .int g, .int f, .int (nI j), w4]) (st' := [.int g]) (σ' := (mj_KS N, I, mj_PP (2) d r)) 1 rfl trivial ?_
      exact R_ri rfl rfl (mj_leaf (by simp only [s_X5_be, Bool.false_eq_true, ↓reduceIte, Nat.reduceAdd, Nat.reduceMul, mj_tn0, mj_tn1, mj_tn2, mj_tn3]) (by simp only [s_X5_be, Bool.false_eq_true, ↓reduceIte, Nat.reduceAdd, Nat.reduceMul, mj_tn0, mj_tn1, mj_tn2, mj_tn3]))
    | succ k ih =>
      intro j g f w4 I hk hlo hj hs
      have hjm : j < m := by omega
      have hin : mj_in (nI j) 6 := mj_in_nI (by omega) (by omega)
      refine R_seg (φ := []) (pc' := 30) (L' := [.ref 1, .int g, .int f, .int (nI j), w4]) (st' := [.int (I 2 0), .int (nI j)]) (σ' := (mj_KS N, I, mj_PP (2) d r)) 4 rfl trivial ?_
      refine R_br (q := (nI j : Int32) < I 2 0) (t := 33) (f := 57) (rest := []) rfl (fun h1 => ?_) (fun h1 => absurd (by rw [hs]; exact nI_lt hjm (by omega)) h1)
      refine R_seg (φ := []) (pc' := 35) (L' := [.ref 1, .int g, .int f, .int (nI j), w4]) (st' := [.int (nI j), .ref 1]) (σ' := (mj_KS N, I, mj_PP (2) d r)) 2 rfl trivial ?_
      refine R_ce (idx := 189) (mid := 58) (kind := 0) (N := N) (M' := mj_m_X5_mostColds) (As := [.ref 1, .int (nI j)]) (rest := []) (I := I) (P := mj_PP (2) d r) (I' := (s_X5_mostColds (2) m (nI j) I).2) (P' := mj_PP (2) d r) (v := some (.int ((s_X5_mostColds (2) m (nI j) I).1))) rfl rfl rfl mj_mc58 mj_dc58 rfl rfl rfl rfl rfl rfl (x_X5_mostColds l b base D z N (2) m (nI j) (by decide) I d r hm hin hs) ?_
      refine R_seg (φ := []) (pc' := 43) (L' := [.ref 1, .int g, .int f, .int (nI j), .int ((s_X5_mostColds (2) m (nI j) I).1)]) (st' := [.int f, .int ((s_X5_mostColds (2) m (nI j) I).1)]) (σ' := (mj_KS N, (s_X5_mostColds (2) m (nI j) I).2, mj_PP (2) d r)) 3 rfl trivial ?_
      refine R_br (q := ((s_X5_mostColds (2) m (nI j) I).1 : Int32) < f) (t := 46) (f := 51) (rest := []) rfl (fun h2 => ?_) (fun h2 => ?_)
      · skip
        refine R_seg (φ := []) (pc' := 22) (L' := [.ref 1, .int (nI j), .int ((s_X5_mostColds (2) m (nI j) I).1), .int ((nI j) + 1), .int ((s_X5_mostColds (2) m (nI j) I).1)]) (st' := []) (σ' := (mj_KS N, (s_X5_mostColds (2) m (nI j) I).2, mj_PP (2) d r)) 6 rfl trivial ?_
        rw [nI_1 j]
        rw [show s_X5_be 2 m (k + 1) j g f I = s_X5_be 2 m k (j + 1) (nI j) ((s_X5_mostColds (2) m (nI j) I).1) ((s_X5_mostColds (2) m (nI j) I).2) from by simp only [s_X5_be, if_pos h2, Bool.false_eq_true, ↓reduceIte, Nat.reduceAdd, Nat.reduceMul, mj_tn0, mj_tn1, mj_tn2, mj_tn3]]
        exact ih (j + 1) (nI j) ((s_X5_mostColds (2) m (nI j) I).1) (.int ((s_X5_mostColds (2) m (nI j) I).1)) ((s_X5_mostColds (2) m (nI j) I).2) (by omega) (by omega) (by omega) ((congrFun (mj_mc_fr _ _ _ _ _ (by decide)) _).trans hs)
      · skip
        refine R_seg (φ := []) (pc' := 22) (L' := [.ref 1, .int g, .int f, .int ((nI j) + 1), .int ((s_X5_mostColds (2) m (nI j) I).1)]) (st' := []) (σ' := (mj_KS N, (s_X5_mostColds (2) m (nI j) I).2, mj_PP (2) d r)) 2 rfl trivial ?_
        rw [nI_1 j]
        rw [show s_X5_be 2 m (k + 1) j g f I = s_X5_be 2 m k (j + 1) g f ((s_X5_mostColds (2) m (nI j) I).2) from by simp only [s_X5_be, if_neg h2, Bool.false_eq_true, ↓reduceIte, Nat.reduceAdd, Nat.reduceMul, mj_tn0, mj_tn1, mj_tn2, mj_tn3]]
        exact ih (j + 1) g f (.int ((s_X5_mostColds (2) m (nI j) I).1)) ((s_X5_mostColds (2) m (nI j) I).2) (by omega) (by omega) (by omega) ((congrFun (mj_mc_fr _ _ _ _ _ (by decide)) _).trans hs)
  · skip
    intro k
    induction k with
    | zero =>
      intro j g f w4 I hk hlo hj hs
      refine R_seg (φ := []) (pc' := 30) (L' := [.ref 1, .int g, .int f, .int (nI j), w4]) (st' := [.int (I 10 0), .int (nI j)]) (σ' := (mj_KS N, I, mj_PP (10) d r)) 4 rfl trivial ?_
      refine R_br (q := (nI j : Int32) < I 10 0) (t := 33) (f := 57) (rest := []) rfl (fun h1 => absurd h1 (by rw [hs]; exact nI_nlt (by omega) (by omega))) (fun h1 => ?_)
      refine R_seg (φ := []) (pc' := 58) (L' := [.ref 1, .int g, .int f, .int (nI j), w4]) (st' := [.int g]) (σ' := (mj_KS N, I, mj_PP (10) d r)) 1 rfl trivial ?_
      exact R_ri rfl rfl (mj_leaf (by simp only [s_X5_be, Bool.false_eq_true, ↓reduceIte, Nat.reduceAdd, Nat.reduceMul, mj_tn0, mj_tn1, mj_tn2, mj_tn3]) (by simp only [s_X5_be, Bool.false_eq_true, ↓reduceIte, Nat.reduceAdd, Nat.reduceMul, mj_tn0, mj_tn1, mj_tn2, mj_tn3]))
    | succ k ih =>
      intro j g f w4 I hk hlo hj hs
      have hjm : j < m := by omega
      have hin : mj_in (nI j) 6 := mj_in_nI (by omega) (by omega)
      refine R_seg (φ := []) (pc' := 30) (L' := [.ref 1, .int g, .int f, .int (nI j), w4]) (st' := [.int (I 10 0), .int (nI j)]) (σ' := (mj_KS N, I, mj_PP (10) d r)) 4 rfl trivial ?_
      refine R_br (q := (nI j : Int32) < I 10 0) (t := 33) (f := 57) (rest := []) rfl (fun h1 => ?_) (fun h1 => absurd (by rw [hs]; exact nI_lt hjm (by omega)) h1)
      refine R_seg (φ := []) (pc' := 35) (L' := [.ref 1, .int g, .int f, .int (nI j), w4]) (st' := [.int (nI j), .ref 1]) (σ' := (mj_KS N, I, mj_PP (10) d r)) 2 rfl trivial ?_
      refine R_ce (idx := 189) (mid := 58) (kind := 0) (N := N) (M' := mj_m_X5_mostColds) (As := [.ref 1, .int (nI j)]) (rest := []) (I := I) (P := mj_PP (10) d r) (I' := (s_X5_mostColds (10) m (nI j) I).2) (P' := mj_PP (10) d r) (v := some (.int ((s_X5_mostColds (10) m (nI j) I).1))) rfl rfl rfl mj_mc58 mj_dc58 rfl rfl rfl rfl rfl rfl (x_X5_mostColds l b base D z N (10) m (nI j) (by decide) I d r hm hin hs) ?_
      refine R_seg (φ := []) (pc' := 43) (L' := [.ref 1, .int g, .int f, .int (nI j), .int ((s_X5_mostColds (10) m (nI j) I).1)]) (st' := [.int f, .int ((s_X5_mostColds (10) m (nI j) I).1)]) (σ' := (mj_KS N, (s_X5_mostColds (10) m (nI j) I).2, mj_PP (10) d r)) 3 rfl trivial ?_
      refine R_br (q := ((s_X5_mostColds (10) m (nI j) I).1 : Int32) < f) (t := 46) (f := 51) (rest := []) rfl (fun h2 => ?_) (fun h2 => ?_)
      · skip
        refine R_seg (φ := []) (pc' := 22) (L' := [.ref 1, .int (nI j), .int ((s_X5_mostColds (10) m (nI j) I).1), .int ((nI j) + 1), .int ((s_X5_mostColds (10) m (nI j) I).1)]) (st' := []) (σ' := (mj_KS N, (s_X5_mostColds (10) m (nI j) I).2, mj_PP (10) d r)) 6 rfl trivial ?_
        rw [nI_1 j]
        rw [show s_X5_be 10 m (k + 1) j g f I = s_X5_be 10 m k (j + 1) (nI j) ((s_X5_mostColds (10) m (nI j) I).1) ((s_X5_mostColds (10) m (nI j) I).2) from by simp only [s_X5_be, if_pos h2, Bool.false_eq_true, ↓reduceIte, Nat.reduceAdd, Nat.reduceMul, mj_tn0, mj_tn1, mj_tn2, mj_tn3]]
        exact ih (j + 1) (nI j) ((s_X5_mostColds (10) m (nI j) I).1) (.int ((s_X5_mostColds (10) m (nI j) I).1)) ((s_X5_mostColds (10) m (nI j) I).2) (by omega) (by omega) (by omega) ((congrFun (mj_mc_fr _ _ _ _ _ (by decide)) _).trans hs)
      · skip
        refine R_seg (φ := []) (pc' := 22) (L' := [.ref 1, .int g, .int f, .int ((nI j) + 1), .int ((s_X5_mostColds (10) m (nI j) I).1)]) (st' := []) (σ' := (mj_KS N, (s_X5_mostColds (10) m (nI j) I).2, mj_PP (10) d r)) 2 rfl trivial ?_
        rw [nI_1 j]
        rw [show s_X5_be 10 m (k + 1) j g f I = s_X5_be 10 m k (j + 1) g f ((s_X5_mostColds (10) m (nI j) I).2) from by simp only [s_X5_be, if_neg h2, Bool.false_eq_true, ↓reduceIte, Nat.reduceAdd, Nat.reduceMul, mj_tn0, mj_tn1, mj_tn2, mj_tn3]]
        exact ih (j + 1) g f (.int ((s_X5_mostColds (10) m (nI j) I).1)) ((s_X5_mostColds (10) m (nI j) I).2) (by omega) (by omega) (by omega) ((congrFun (mj_mc_fr _ _ _ _ _ (by decide)) _).trans hs)
def s_X5_best (cc : Nat) (m : Nat) (I : mj_I) : Int32 × mj_I := if (I cc 0 : Int32) = 0 then ((-3), I) else ((s_X5_be (cc) m m 0 (-9) 1000 I).1, (s_X5_be (cc) m m 0 (-9) 1000 I).2)
set_option maxHeartbeats 8000000 in
theorem x_X5_best (l : Launch) (b base : Nat) (D : va_G) (z : mj_K × (Int32 → Int32)) (N : Nat) (cc : Nat) (m : Nat) (hcc : cc = 2 ∨ cc = 10) (I : mj_I) (d r : Nat) (hm : m ≤ 6) (hs : I cc 0 = nI m) : mj_Rn l b base D z mj_m_X5_best 0 [.ref 1, mj_mk, mj_mk, mj_mk, mj_mk] [] (mj_KS N, I, mj_PP cc d r) (mj_E N (some (.int (s_X5_best cc m I).1)) (s_X5_best cc m I).2 (mj_PP cc d r)) := by
  rcases hcc with rfl | rfl
  · skip
    refine R_seg (φ := []) (pc' := 7) (L' := [.ref 1, mj_mk, mj_mk, mj_mk, mj_mk]) (st' := [.int (I 2 0)]) (σ' := (mj_KS N, I, mj_PP (2) d r)) 3 rfl trivial ?_
    refine R_br (q := (I 2 0 : Int32) = 0) (t := 10) (f := 13) (rest := []) rfl (fun h1 => ?_) (fun h1 => ?_)
    · skip
      refine R_seg (φ := []) (pc' := 12) (L' := [.ref 1, mj_mk, mj_mk, mj_mk, mj_mk]) (st' := [.int (-3)]) (σ' := (mj_KS N, I, mj_PP (2) d r)) 1 rfl trivial ?_
      exact R_ri rfl rfl (mj_leaf (by simp only [s_X5_best, if_pos h1, Bool.false_eq_true, ↓reduceIte, Nat.reduceAdd, Nat.reduceMul, mj_tn0, mj_tn1, mj_tn2, mj_tn3]) (by simp only [s_X5_best, if_pos h1, Bool.false_eq_true, ↓reduceIte, Nat.reduceAdd, Nat.reduceMul, mj_tn0, mj_tn1, mj_tn2, mj_tn3]))
    · skip
      refine R_seg (φ := []) (pc' := 22) (L' := [.ref 1, .int (-9), .int 1000, .int 0, mj_mk]) (st' := []) (σ' := (mj_KS N, I, mj_PP (2) d r)) 6 rfl trivial ?_
      simp only [s_X5_best, if_neg h1, Bool.false_eq_true, ↓reduceIte, Nat.reduceAdd, Nat.reduceMul, mj_tn0, mj_tn1, mj_tn2, mj_tn3]
      exact x_X5_be l b base D z N (2) m (by decide) d r hm m 0 (-9) 1000 mj_mk I (by omega) (by omega) (by omega) hs
  · skip
    refine R_seg (φ := []) (pc' := 7) (L' := [.ref 1, mj_mk, mj_mk, mj_mk, mj_mk]) (st' := [.int (I 10 0)]) (σ' := (mj_KS N, I, mj_PP (10) d r)) 3 rfl trivial ?_
    refine R_br (q := (I 10 0 : Int32) = 0) (t := 10) (f := 13) (rest := []) rfl (fun h1 => ?_) (fun h1 => ?_)
    · skip
      refine R_seg (φ := []) (pc' := 12) (L' := [.ref 1, mj_mk, mj_mk, mj_mk, mj_mk]) (st' := [.int (-3)]) (σ' := (mj_KS N, I, mj_PP (10) d r)) 1 rfl trivial ?_
      exact R_ri rfl rfl (mj_leaf (by simp only [s_X5_best, if_pos h1, Bool.false_eq_true, ↓reduceIte, Nat.reduceAdd, Nat.reduceMul, mj_tn0, mj_tn1, mj_tn2, mj_tn3]) (by simp only [s_X5_best, if_pos h1, Bool.false_eq_true, ↓reduceIte, Nat.reduceAdd, Nat.reduceMul, mj_tn0, mj_tn1, mj_tn2, mj_tn3]))
    · skip
      refine R_seg (φ := []) (pc' := 22) (L' := [.ref 1, .int (-9), .int 1000, .int 0, mj_mk]) (st' := []) (σ' := (mj_KS N, I, mj_PP (10) d r)) 6 rfl trivial ?_
      simp only [s_X5_best, if_neg h1, Bool.false_eq_true, ↓reduceIte, Nat.reduceAdd, Nat.reduceMul, mj_tn0, mj_tn1, mj_tn2, mj_tn3]
      exact x_X5_be l b base D z N (10) m (by decide) d r hm m 0 (-9) 1000 mj_mk I (by omega) (by omega) (by omega) hs
def s_X5_mild (cc : Nat) (m : Nat) (a : Int32) (e : Int32) (I : mj_I) : Int32 × mj_I := if sp_has (I cc 0) a then (if sp_has (I cc 0) e then (if ((s_X5_spreadColds (cc) m a I) 31 e : Int32) = 1000 then ((-9), (s_X5_spreadColds (cc) m a I)) else ((s_X5_spreadColds (cc) m a I) 31 e, (s_X5_spreadColds (cc) m a I))) else ((-1), I)) else ((-1), I)
set_option maxHeartbeats 8000000 in
theorem x_X5_mild (l : Launch) (b base : Nat) (D : va_G) (z : mj_K × (Int32 → Int32)) (N : Nat) (cc : Nat) (m : Nat) (a : Int32) (e : Int32) (hcc : cc = 2 ∨ cc = 10) (I : mj_I) (d r : Nat) (hm : m ≤ 6) (hs : I cc 0 = nI m) (hn : (I cc 0).toInt ≤ 6) : mj_Rn l b base D z mj_m_X5_mild 0 [.ref 1, .int a, .int e] [] (mj_KS N, I, mj_PP cc d r) (mj_E N (some (.int (s_X5_mild cc m a e I).1)) (s_X5_mild cc m a e I).2 (mj_PP cc d r)) := by
  rcases hcc with rfl | rfl
  · skip
    refine R_seg (φ := []) (pc' := 5) (L' := [.ref 1, .int a, .int e]) (st' := [.int a, .ref 2]) (σ' := (mj_KS N, I, mj_PP (2) d r)) 3 rfl trivial ?_
    refine R_ce (idx := 110) (mid := 7) (kind := 3) (N := N) (M' := mj_m_X1_hasStreet) (As := [.ref 2, .int a]) (rest := []) (I := I) (P := mj_PP (2) d r) (I' := I) (P' := mj_PP (2) d r) (v := some (.int (bI (sp_has (I 2 0) a)))) rfl rfl rfl mj_mc7 mj_dc7 rfl rfl rfl rfl rfl rfl (x_hasStreet l b base D z N 2 (by decide) a I (2) d r) ?_
    refine R_seg (φ := []) (pc' := 8) (L' := [.ref 1, .int a, .int e]) (st' := [.int (bI (sp_has (I 2 0) a))]) (σ' := (mj_KS N, I, mj_PP (2) d r)) 0 rfl trivial ?_
    refine R_br (q := (bI (sp_has (I 2 0) a) : Int32) = 0) (t := 22) (f := 11) (rest := []) rfl (fun h1 => ?_) (fun h1 => ?_)
    · skip
      replace h1 := bI_0.mp h1
      refine R_seg (φ := []) (pc' := 23) (L' := [.ref 1, .int a, .int e]) (st' := [.int (-1)]) (σ' := (mj_KS N, I, mj_PP (2) d r)) 1 rfl trivial ?_
      exact R_ri rfl rfl (mj_leaf (by simp only [s_X5_mild, h1, Bool.false_eq_true, ↓reduceIte, Nat.reduceAdd, Nat.reduceMul, mj_tn0, mj_tn1, mj_tn2, mj_tn3]) (by simp only [s_X5_mild, h1, Bool.false_eq_true, ↓reduceIte, Nat.reduceAdd, Nat.reduceMul, mj_tn0, mj_tn1, mj_tn2, mj_tn3]))
    · skip
      replace h1 := bI_1 h1
      refine R_seg (φ := []) (pc' := 16) (L' := [.ref 1, .int a, .int e]) (st' := [.int e, .ref 2]) (σ' := (mj_KS N, I, mj_PP (2) d r)) 3 rfl trivial ?_
      refine R_ce (idx := 110) (mid := 7) (kind := 3) (N := N) (M' := mj_m_X1_hasStreet) (As := [.ref 2, .int e]) (rest := []) (I := I) (P := mj_PP (2) d r) (I' := I) (P' := mj_PP (2) d r) (v := some (.int (bI (sp_has (I 2 0) e)))) rfl rfl rfl mj_mc7 mj_dc7 rfl rfl rfl rfl rfl rfl (x_hasStreet l b base D z N 2 (by decide) e I (2) d r) ?_
      refine R_seg (φ := []) (pc' := 19) (L' := [.ref 1, .int a, .int e]) (st' := [.int (bI (sp_has (I 2 0) e))]) (σ' := (mj_KS N, I, mj_PP (2) d r)) 0 rfl trivial ?_
      refine R_br (q := (bI (sp_has (I 2 0) e) : Int32) = 0) (t := 22) (f := 24) (rest := []) rfl (fun h2 => ?_) (fun h2 => ?_)
      · skip
        replace h2 := bI_0.mp h2
        refine R_seg (φ := []) (pc' := 23) (L' := [.ref 1, .int a, .int e]) (st' := [.int (-1)]) (σ' := (mj_KS N, I, mj_PP (2) d r)) 1 rfl trivial ?_
        exact R_ri rfl rfl (mj_leaf (by simp only [s_X5_mild, h1, h2, Bool.false_eq_true, ↓reduceIte, Nat.reduceAdd, Nat.reduceMul, mj_tn0, mj_tn1, mj_tn2, mj_tn3]) (by simp only [s_X5_mild, h1, h2, Bool.false_eq_true, ↓reduceIte, Nat.reduceAdd, Nat.reduceMul, mj_tn0, mj_tn1, mj_tn2, mj_tn3]))
      · skip
        replace h2 := bI_1 h2
        refine R_seg (φ := []) (pc' := 26) (L' := [.ref 1, .int a, .int e]) (st' := [.int a, .ref 1]) (σ' := (mj_KS N, I, mj_PP (2) d r)) 2 rfl trivial ?_
        refine R_ce (idx := 185) (mid := 59) (kind := 0) (N := N) (M' := mj_m_X5_spreadColds) (As := [.ref 1, .int a]) (rest := []) (I := I) (P := mj_PP (2) d r) (I' := (s_X5_spreadColds (2) m a I)) (P' := mj_PP (2) d r) (v := none) rfl rfl rfl mj_mc59 mj_dc59 rfl rfl rfl rfl rfl rfl (x_X5_spreadColds l b base D z N (2) m a (by decide) I d r hm (mj_hasin h1 hn) hs) ?_
        refine R_seg (φ := [mj_in e 6]) (pc' := 38) (L' := [.ref 1, .int a, .int e]) (st' := [.int 1000, .int ((s_X5_spreadColds (2) m a I) 31 e)]) (σ' := (mj_KS N, (s_X5_spreadColds (2) m a I), mj_PP (2) d r)) 5 rfl ⟨mj_hasin h2 hn, trivial⟩ ?_
        refine R_br (q := ((s_X5_spreadColds (2) m a I) 31 e : Int32) = 1000) (t := 41) (f := 46) (rest := []) rfl (fun h3 => ?_) (fun h3 => ?_)
        · skip
          refine R_seg (φ := []) (pc' := 52) (L' := [.ref 1, .int a, .int e]) (st' := [.int (-9)]) (σ' := (mj_KS N, (s_X5_spreadColds (2) m a I), mj_PP (2) d r)) 2 rfl trivial ?_
          exact R_ri rfl rfl (mj_leaf (by simp only [s_X5_mild, h1, h2, if_pos h3, Bool.false_eq_true, ↓reduceIte, Nat.reduceAdd, Nat.reduceMul, mj_tn0, mj_tn1, mj_tn2, mj_tn3]) (by simp only [s_X5_mild, h1, h2, if_pos h3, Bool.false_eq_true, ↓reduceIte, Nat.reduceAdd, Nat.reduceMul, mj_tn0, mj_tn1, mj_tn2, mj_tn3]))
        · skip
          refine R_seg (φ := [mj_in e 6]) (pc' := 52) (L' := [.ref 1, .int a, .int e]) (st' := [.int ((s_X5_spreadColds (2) m a I) 31 e)]) (σ' := (mj_KS N, (s_X5_spreadColds (2) m a I), mj_PP (2) d r)) 4 rfl ⟨mj_hasin h2 hn, trivial⟩ ?_
          exact R_ri rfl rfl (mj_leaf (by simp only [s_X5_mild, h1, h2, if_neg h3, Bool.false_eq_true, ↓reduceIte, Nat.reduceAdd, Nat.reduceMul, mj_tn0, mj_tn1, mj_tn2, mj_tn3]) (by simp only [s_X5_mild, h1, h2, if_neg h3, Bool.false_eq_true, ↓reduceIte, Nat.reduceAdd, Nat.reduceMul, mj_tn0, mj_tn1, mj_tn2, mj_tn3]))
  · skip
    refine R_seg (φ := []) (pc' := 5) (L' := [.ref 1, .int a, .int e]) (st' := [.int a, .ref 10]) (σ' := (mj_KS N, I, mj_PP (10) d r)) 3 rfl trivial ?_
    refine R_ce (idx := 110) (mid := 7) (kind := 3) (N := N) (M' := mj_m_X1_hasStreet) (As := [.ref 10, .int a]) (rest := []) (I := I) (P := mj_PP (10) d r) (I' := I) (P' := mj_PP (10) d r) (v := some (.int (bI (sp_has (I 10 0) a)))) rfl rfl rfl mj_mc7 mj_dc7 rfl rfl rfl rfl rfl rfl (x_hasStreet l b base D z N 10 (by decide) a I (10) d r) ?_
    refine R_seg (φ := []) (pc' := 8) (L' := [.ref 1, .int a, .int e]) (st' := [.int (bI (sp_has (I 10 0) a))]) (σ' := (mj_KS N, I, mj_PP (10) d r)) 0 rfl trivial ?_
    refine R_br (q := (bI (sp_has (I 10 0) a) : Int32) = 0) (t := 22) (f := 11) (rest := []) rfl (fun h1 => ?_) (fun h1 => ?_)
    · skip
      replace h1 := bI_0.mp h1
      refine R_seg (φ := []) (pc' := 23) (L' := [.ref 1, .int a, .int e]) (st' := [.int (-1)]) (σ' := (mj_KS N, I, mj_PP (10) d r)) 1 rfl trivial ?_
      exact R_ri rfl rfl (mj_leaf (by simp only [s_X5_mild, h1, Bool.false_eq_true, ↓reduceIte, Nat.reduceAdd, Nat.reduceMul, mj_tn0, mj_tn1, mj_tn2, mj_tn3]) (by simp only [s_X5_mild, h1, Bool.false_eq_true, ↓reduceIte, Nat.reduceAdd, Nat.reduceMul, mj_tn0, mj_tn1, mj_tn2, mj_tn3]))
    · skip
      replace h1 := bI_1 h1
      refine R_seg (φ := []) (pc' := 16) (L' := [.ref 1, .int a, .int e]) (st' := [.int e, .ref 10]) (σ' := (mj_KS N, I, mj_PP (10) d r)) 3 rfl trivial ?_
      refine R_ce (idx := 110) (mid := 7) (kind := 3) (N := N) (M' := mj_m_X1_hasStreet) (As := [.ref 10, .int e]) (rest := []) (I := I) (P := mj_PP (10) d r) (I' := I) (P' := mj_PP (10) d r) (v := some (.int (bI (sp_has (I 10 0) e)))) rfl rfl rfl mj_mc7 mj_dc7 rfl rfl rfl rfl rfl rfl (x_hasStreet l b base D z N 10 (by decide) e I (10) d r) ?_
      refine R_seg (φ := []) (pc' := 19) (L' := [.ref 1, .int a, .int e]) (st' := [.int (bI (sp_has (I 10 0) e))]) (σ' := (mj_KS N, I, mj_PP (10) d r)) 0 rfl trivial ?_
      refine R_br (q := (bI (sp_has (I 10 0) e) : Int32) = 0) (t := 22) (f := 24) (rest := []) rfl (fun h2 => ?_) (fun h2 => ?_)
      · skip
        replace h2 := bI_0.mp h2
        refine R_seg (φ := []) (pc' := 23) (L' := [.ref 1, .int a, .int e]) (st' := [.int (-1)]) (σ' := (mj_KS N, I, mj_PP (10) d r)) 1 rfl trivial ?_
        exact R_ri rfl rfl (mj_leaf (by simp only [s_X5_mild, h1, h2, Bool.false_eq_true, ↓reduceIte, Nat.reduceAdd, Nat.reduceMul, mj_tn0, mj_tn1, mj_tn2, mj_tn3]) (by simp only [s_X5_mild, h1, h2, Bool.false_eq_true, ↓reduceIte, Nat.reduceAdd, Nat.reduceMul, mj_tn0, mj_tn1, mj_tn2, mj_tn3]))
      · skip
        replace h2 := bI_1 h2
        refine R_seg (φ := []) (pc' := 26) (L' := [.ref 1, .int a, .int e]) (st' := [.int a, .ref 1]) (σ' := (mj_KS N, I, mj_PP (10) d r)) 2 rfl trivial ?_
        refine R_ce (idx := 185) (mid := 59) (kind := 0) (N := N) (M' := mj_m_X5_spreadColds) (As := [.ref 1, .int a]) (rest := []) (I := I) (P := mj_PP (10) d r) (I' := (s_X5_spreadColds (10) m a I)) (P' := mj_PP (10) d r) (v := none) rfl rfl rfl mj_mc59 mj_dc59 rfl rfl rfl rfl rfl rfl (x_X5_spreadColds l b base D z N (10) m a (by decide) I d r hm (mj_hasin h1 hn) hs) ?_
        refine R_seg (φ := [mj_in e 6]) (pc' := 38) (L' := [.ref 1, .int a, .int e]) (st' := [.int 1000, .int ((s_X5_spreadColds (10) m a I) 31 e)]) (σ' := (mj_KS N, (s_X5_spreadColds (10) m a I), mj_PP (10) d r)) 5 rfl ⟨mj_hasin h2 hn, trivial⟩ ?_
        refine R_br (q := ((s_X5_spreadColds (10) m a I) 31 e : Int32) = 1000) (t := 41) (f := 46) (rest := []) rfl (fun h3 => ?_) (fun h3 => ?_)
        · skip
          refine R_seg (φ := []) (pc' := 52) (L' := [.ref 1, .int a, .int e]) (st' := [.int (-9)]) (σ' := (mj_KS N, (s_X5_spreadColds (10) m a I), mj_PP (10) d r)) 2 rfl trivial ?_
          exact R_ri rfl rfl (mj_leaf (by simp only [s_X5_mild, h1, h2, if_pos h3, Bool.false_eq_true, ↓reduceIte, Nat.reduceAdd, Nat.reduceMul, mj_tn0, mj_tn1, mj_tn2, mj_tn3]) (by simp only [s_X5_mild, h1, h2, if_pos h3, Bool.false_eq_true, ↓reduceIte, Nat.reduceAdd, Nat.reduceMul, mj_tn0, mj_tn1, mj_tn2, mj_tn3]))
        · skip
          refine R_seg (φ := [mj_in e 6]) (pc' := 52) (L' := [.ref 1, .int a, .int e]) (st' := [.int ((s_X5_spreadColds (10) m a I) 31 e)]) (σ' := (mj_KS N, (s_X5_spreadColds (10) m a I), mj_PP (10) d r)) 4 rfl ⟨mj_hasin h2 hn, trivial⟩ ?_
          exact R_ri rfl rfl (mj_leaf (by simp only [s_X5_mild, h1, h2, if_neg h3, Bool.false_eq_true, ↓reduceIte, Nat.reduceAdd, Nat.reduceMul, mj_tn0, mj_tn1, mj_tn2, mj_tn3]) (by simp only [s_X5_mild, h1, h2, if_neg h3, Bool.false_eq_true, ↓reduceIte, Nat.reduceAdd, Nat.reduceMul, mj_tn0, mj_tn1, mj_tn2, mj_tn3]))
def s_X5_many (cc : Nat) (m : Nat) (w : Int32) (I : mj_I) : Int32 := if (w : Int32) = 0 then (I cc 1) else (if (w : Int32) = 1 then (I cc 0) else (if (w : Int32) = 2 then (sp_cnt (I (cc + 2)) m 0 0 / 2) else (if (w : Int32) = 3 then (I 1 11) else (-2))))
set_option maxHeartbeats 8000000 in
theorem x_X5_many (l : Launch) (b base : Nat) (D : va_G) (z : mj_K × (Int32 → Int32)) (N : Nat) (cc : Nat) (m : Nat) (w : Int32) (hcc : cc = 2 ∨ cc = 10) (I : mj_I) (d r : Nat) (hm : m ≤ 6) (hs : I cc 0 = nI m) (hC : ∀ j, j < m → ∃ q, q < 64 ∧ I (cc + 2) (nI j) = nI q) : mj_Rn l b base D z mj_m_X5_many 0 [.ref 1, .int w] [] (mj_KS N, I, mj_PP cc d r) (mj_E N (some (.int (s_X5_many cc m w I))) I (mj_PP cc d r)) := by
  rcases hcc with rfl | rfl
  · skip
    refine R_seg (φ := []) (pc' := 1) (L' := [.ref 1, .int w]) (st' := [.int w]) (σ' := (mj_KS N, I, mj_PP (2) d r)) 1 rfl trivial ?_
    by_cases h1 : (w : Int32) = 0
    · refine R_stk h1 ?_
      refine R_seg (φ := []) (pc' := 32) (L' := [.ref 1, .int w]) (st' := []) (σ' := (mj_KS N, I, mj_PP (2) d r)) 1 rfl trivial ?_
      refine R_seg (φ := []) (pc' := 39) (L' := [.ref 1, .int w]) (st' := [.int (I 2 1)]) (σ' := (mj_KS N, I, mj_PP (2) d r)) 3 rfl trivial ?_
      exact R_ri rfl rfl (mj_leaf (by simp only [s_X5_many, if_pos h1, Bool.false_eq_true, ↓reduceIte, Nat.reduceAdd, Nat.reduceMul, mj_tn0, mj_tn1, mj_tn2, mj_tn3]) (by simp only [s_X5_many, if_pos h1, Bool.false_eq_true, ↓reduceIte, Nat.reduceAdd, Nat.reduceMul, mj_tn0, mj_tn1, mj_tn2, mj_tn3]))
    by_cases h2 : (w : Int32) = 1
    · refine R_stk h2 ?_
      refine R_seg (φ := []) (pc' := 40) (L' := [.ref 1, .int w]) (st' := []) (σ' := (mj_KS N, I, mj_PP (2) d r)) 1 rfl trivial ?_
      refine R_seg (φ := []) (pc' := 47) (L' := [.ref 1, .int w]) (st' := [.int (I 2 0)]) (σ' := (mj_KS N, I, mj_PP (2) d r)) 3 rfl trivial ?_
      exact R_ri rfl rfl (mj_leaf (by simp only [s_X5_many, if_neg h1, if_pos h2, Bool.false_eq_true, ↓reduceIte, Nat.reduceAdd, Nat.reduceMul, mj_tn0, mj_tn1, mj_tn2, mj_tn3]) (by simp only [s_X5_many, if_neg h1, if_pos h2, Bool.false_eq_true, ↓reduceIte, Nat.reduceAdd, Nat.reduceMul, mj_tn0, mj_tn1, mj_tn2, mj_tn3]))
    by_cases h3 : (w : Int32) = 2
    · refine R_stk h3 ?_
      refine R_seg (φ := []) (pc' := 48) (L' := [.ref 1, .int w]) (st' := []) (σ' := (mj_KS N, I, mj_PP (2) d r)) 1 rfl trivial ?_
      refine R_seg (φ := []) (pc' := 52) (L' := [.ref 1, .int w]) (st' := [.ref 2]) (σ' := (mj_KS N, I, mj_PP (2) d r)) 2 rfl trivial ?_
      refine R_ce (idx := 273) (mid := 12) (kind := 3) (N := N) (M' := mj_m_X1_countCorners) (As := [.ref 2]) (rest := []) (I := I) (P := mj_PP (2) d r) (I' := I) (P' := mj_PP (2) d r) (v := some (.int (sp_cnt (I 4) m 0 0 / 2))) rfl rfl rfl mj_mc12 mj_dc12 rfl rfl rfl rfl rfl rfl (x_countCorners l b base D z N 2 (by decide) I (2) d r m hm hs hC) ?_
      refine R_seg (φ := []) (pc' := 55) (L' := [.ref 1, .int w]) (st' := [.int (sp_cnt (I 4) m 0 0 / 2)]) (σ' := (mj_KS N, I, mj_PP (2) d r)) 0 rfl trivial ?_
      exact R_ri rfl rfl (mj_leaf (by simp only [s_X5_many, if_neg h1, if_neg h2, if_pos h3, Bool.false_eq_true, ↓reduceIte, Nat.reduceAdd, Nat.reduceMul, mj_tn0, mj_tn1, mj_tn2, mj_tn3]) (by simp only [s_X5_many, if_neg h1, if_neg h2, if_pos h3, Bool.false_eq_true, ↓reduceIte, Nat.reduceAdd, Nat.reduceMul, mj_tn0, mj_tn1, mj_tn2, mj_tn3]))
    by_cases h4 : (w : Int32) = 3
    · refine R_stk h4 ?_
      refine R_seg (φ := []) (pc' := 56) (L' := [.ref 1, .int w]) (st' := []) (σ' := (mj_KS N, I, mj_PP (2) d r)) 1 rfl trivial ?_
      refine R_seg (φ := []) (pc' := 60) (L' := [.ref 1, .int w]) (st' := [.int (I 1 11)]) (σ' := (mj_KS N, I, mj_PP (2) d r)) 2 rfl trivial ?_
      exact R_ri rfl rfl (mj_leaf (by simp only [s_X5_many, if_neg h1, if_neg h2, if_neg h3, if_pos h4, Bool.false_eq_true, ↓reduceIte, Nat.reduceAdd, Nat.reduceMul, mj_tn0, mj_tn1, mj_tn2, mj_tn3]) (by simp only [s_X5_many, if_neg h1, if_neg h2, if_neg h3, if_pos h4, Bool.false_eq_true, ↓reduceIte, Nat.reduceAdd, Nat.reduceMul, mj_tn0, mj_tn1, mj_tn2, mj_tn3]))
    refine R_tsd rfl (mj_ts4 h1 h2 h3 h4) rfl ?_
    refine R_seg (φ := []) (pc' := 63) (L' := [.ref 1, .int w]) (st' := [.int (-2)]) (σ' := (mj_KS N, I, mj_PP (2) d r)) 1 rfl trivial ?_
    exact R_ri rfl rfl (mj_leaf (by simp only [s_X5_many, if_neg h1, if_neg h2, if_neg h3, if_neg h4, Bool.false_eq_true, ↓reduceIte, Nat.reduceAdd, Nat.reduceMul, mj_tn0, mj_tn1, mj_tn2, mj_tn3]) (by simp only [s_X5_many, if_neg h1, if_neg h2, if_neg h3, if_neg h4, Bool.false_eq_true, ↓reduceIte, Nat.reduceAdd, Nat.reduceMul, mj_tn0, mj_tn1, mj_tn2, mj_tn3]))
  · skip
    refine R_seg (φ := []) (pc' := 1) (L' := [.ref 1, .int w]) (st' := [.int w]) (σ' := (mj_KS N, I, mj_PP (10) d r)) 1 rfl trivial ?_
    by_cases h1 : (w : Int32) = 0
    · refine R_stk h1 ?_
      refine R_seg (φ := []) (pc' := 32) (L' := [.ref 1, .int w]) (st' := []) (σ' := (mj_KS N, I, mj_PP (10) d r)) 1 rfl trivial ?_
      refine R_seg (φ := []) (pc' := 39) (L' := [.ref 1, .int w]) (st' := [.int (I 10 1)]) (σ' := (mj_KS N, I, mj_PP (10) d r)) 3 rfl trivial ?_
      exact R_ri rfl rfl (mj_leaf (by simp only [s_X5_many, if_pos h1, Bool.false_eq_true, ↓reduceIte, Nat.reduceAdd, Nat.reduceMul, mj_tn0, mj_tn1, mj_tn2, mj_tn3]) (by simp only [s_X5_many, if_pos h1, Bool.false_eq_true, ↓reduceIte, Nat.reduceAdd, Nat.reduceMul, mj_tn0, mj_tn1, mj_tn2, mj_tn3]))
    by_cases h2 : (w : Int32) = 1
    · refine R_stk h2 ?_
      refine R_seg (φ := []) (pc' := 40) (L' := [.ref 1, .int w]) (st' := []) (σ' := (mj_KS N, I, mj_PP (10) d r)) 1 rfl trivial ?_
      refine R_seg (φ := []) (pc' := 47) (L' := [.ref 1, .int w]) (st' := [.int (I 10 0)]) (σ' := (mj_KS N, I, mj_PP (10) d r)) 3 rfl trivial ?_
      exact R_ri rfl rfl (mj_leaf (by simp only [s_X5_many, if_neg h1, if_pos h2, Bool.false_eq_true, ↓reduceIte, Nat.reduceAdd, Nat.reduceMul, mj_tn0, mj_tn1, mj_tn2, mj_tn3]) (by simp only [s_X5_many, if_neg h1, if_pos h2, Bool.false_eq_true, ↓reduceIte, Nat.reduceAdd, Nat.reduceMul, mj_tn0, mj_tn1, mj_tn2, mj_tn3]))
    by_cases h3 : (w : Int32) = 2
    · refine R_stk h3 ?_
      refine R_seg (φ := []) (pc' := 48) (L' := [.ref 1, .int w]) (st' := []) (σ' := (mj_KS N, I, mj_PP (10) d r)) 1 rfl trivial ?_
      refine R_seg (φ := []) (pc' := 52) (L' := [.ref 1, .int w]) (st' := [.ref 10]) (σ' := (mj_KS N, I, mj_PP (10) d r)) 2 rfl trivial ?_
      refine R_ce (idx := 273) (mid := 12) (kind := 3) (N := N) (M' := mj_m_X1_countCorners) (As := [.ref 10]) (rest := []) (I := I) (P := mj_PP (10) d r) (I' := I) (P' := mj_PP (10) d r) (v := some (.int (sp_cnt (I 12) m 0 0 / 2))) rfl rfl rfl mj_mc12 mj_dc12 rfl rfl rfl rfl rfl rfl (x_countCorners l b base D z N 10 (by decide) I (10) d r m hm hs hC) ?_
      refine R_seg (φ := []) (pc' := 55) (L' := [.ref 1, .int w]) (st' := [.int (sp_cnt (I 12) m 0 0 / 2)]) (σ' := (mj_KS N, I, mj_PP (10) d r)) 0 rfl trivial ?_
      exact R_ri rfl rfl (mj_leaf (by simp only [s_X5_many, if_neg h1, if_neg h2, if_pos h3, Bool.false_eq_true, ↓reduceIte, Nat.reduceAdd, Nat.reduceMul, mj_tn0, mj_tn1, mj_tn2, mj_tn3]) (by simp only [s_X5_many, if_neg h1, if_neg h2, if_pos h3, Bool.false_eq_true, ↓reduceIte, Nat.reduceAdd, Nat.reduceMul, mj_tn0, mj_tn1, mj_tn2, mj_tn3]))
    by_cases h4 : (w : Int32) = 3
    · refine R_stk h4 ?_
      refine R_seg (φ := []) (pc' := 56) (L' := [.ref 1, .int w]) (st' := []) (σ' := (mj_KS N, I, mj_PP (10) d r)) 1 rfl trivial ?_
      refine R_seg (φ := []) (pc' := 60) (L' := [.ref 1, .int w]) (st' := [.int (I 1 11)]) (σ' := (mj_KS N, I, mj_PP (10) d r)) 2 rfl trivial ?_
      exact R_ri rfl rfl (mj_leaf (by simp only [s_X5_many, if_neg h1, if_neg h2, if_neg h3, if_pos h4, Bool.false_eq_true, ↓reduceIte, Nat.reduceAdd, Nat.reduceMul, mj_tn0, mj_tn1, mj_tn2, mj_tn3]) (by simp only [s_X5_many, if_neg h1, if_neg h2, if_neg h3, if_pos h4, Bool.false_eq_true, ↓reduceIte, Nat.reduceAdd, Nat.reduceMul, mj_tn0, mj_tn1, mj_tn2, mj_tn3]))
    refine R_tsd rfl (mj_ts4 h1 h2 h3 h4) rfl ?_
    refine R_seg (φ := []) (pc' := 63) (L' := [.ref 1, .int w]) (st' := [.int (-2)]) (σ' := (mj_KS N, I, mj_PP (10) d r)) 1 rfl trivial ?_
    exact R_ri rfl rfl (mj_leaf (by simp only [s_X5_many, if_neg h1, if_neg h2, if_neg h3, if_neg h4, Bool.false_eq_true, ↓reduceIte, Nat.reduceAdd, Nat.reduceMul, mj_tn0, mj_tn1, mj_tn2, mj_tn3]) (by simp only [s_X5_many, if_neg h1, if_neg h2, if_neg h3, if_neg h4, Bool.false_eq_true, ↓reduceIte, Nat.reduceAdd, Nat.reduceMul, mj_tn0, mj_tn1, mj_tn2, mj_tn3]))
theorem mj_gt0 {x : Int32} (h : 0 < x) : ¬ x = 0 := by
  rintro rfl
  exact absurd h (by decide)
def s_X5_gd (a : Int32) (e : Int32) (I : mj_I) : Nat → Nat → Int32 → Int32 → Int32
  | 0, j, f, g => f
  | k + 1, j, f, g => if (0 : Int32) < g then (s_X5_gd a e I k (j + 1) g (f - f / g * g)) else f
set_option maxHeartbeats 8000000 in
theorem x_X5_gd (l : Launch) (b base : Nat) (D : va_G) (z : mj_K × (Int32 → Int32)) (N : Nat) (a : Int32) (e : Int32) (I : mj_I) (c d r : Nat) : ∀ (k j : Nat) (f : Int32) (g : Int32) (w5 : Value), k = 64 - j → 0 ≤ j → j ≤ 64 + 1 → mj_Rn l b base D z mj_m_X5_greatestDivisor 7 [.int a, .int e, .int f, .int g, .int (nI j), w5] [] (mj_KS N, I, mj_PP c d r) (mj_E N (some (.int (s_X5_gd a e I k j f g))) I (mj_PP c d r)) := by
  intro k
  induction k with
  | zero =>
    intro j f g w5 hk hlo hj
    refine R_seg (φ := []) (pc' := 11) (L' := [.int a, .int e, .int f, .int g, .int (nI j), w5]) (st' := [.int 64, .int (nI j)]) (σ' := (mj_KS N, I, mj_PP c d r)) 2 rfl trivial ?_
    refine R_br (q := (nI j : Int32) < 64) (t := 14) (f := 34) (rest := []) rfl (fun h1 => absurd h1 (show ¬ nI j < nI 64 from nI_nlt (by omega) (by omega))) (fun h1 => ?_)
    refine R_seg (φ := []) (pc' := 35) (L' := [.int a, .int e, .int f, .int g, .int (nI j), w5]) (st' := [.int f]) (σ' := (mj_KS N, I, mj_PP c d r)) 1 rfl trivial ?_
    exact R_ri rfl rfl (mj_leaf (by simp only [s_X5_gd, Bool.false_eq_true, ↓reduceIte, Nat.reduceAdd, Nat.reduceMul, mj_tn0, mj_tn1, mj_tn2, mj_tn3]) (by simp only [s_X5_gd, Bool.false_eq_true, ↓reduceIte, Nat.reduceAdd, Nat.reduceMul, mj_tn0, mj_tn1, mj_tn2, mj_tn3]))
  | succ k ih =>
    intro j f g w5 hk hlo hj
    have hjm : j < 64 := by omega
    refine R_seg (φ := []) (pc' := 11) (L' := [.int a, .int e, .int f, .int g, .int (nI j), w5]) (st' := [.int 64, .int (nI j)]) (σ' := (mj_KS N, I, mj_PP c d r)) 2 rfl trivial ?_
    refine R_br (q := (nI j : Int32) < 64) (t := 14) (f := 34) (rest := []) rfl (fun h1 => ?_) (fun h1 => absurd (show nI j < nI 64 from nI_lt hjm (by omega)) h1)
    refine R_seg (φ := []) (pc' := 15) (L' := [.int a, .int e, .int f, .int g, .int (nI j), w5]) (st' := [.int g]) (σ' := (mj_KS N, I, mj_PP c d r)) 1 rfl trivial ?_
    refine R_br (q := (0 : Int32) < g) (t := 18) (f := 34) (rest := []) rfl (fun h2 => ?_) (fun h2 => ?_)
    · skip
      refine R_seg (φ := [¬ (g : Int32) = 0]) (pc' := 7) (L' := [.int a, .int e, .int g, .int (f - f / g * g), .int ((nI j) + 1), .int (f - f / g * g)]) (st' := []) (σ' := (mj_KS N, I, mj_PP c d r)) 10 rfl ⟨mj_gt0 h2, trivial⟩ ?_
      rw [nI_1 j]
      rw [show s_X5_gd a e I (k + 1) j f g = s_X5_gd a e I k (j + 1) g (f - f / g * g) from by simp only [s_X5_gd, if_pos h2, Bool.false_eq_true, ↓reduceIte, Nat.reduceAdd, Nat.reduceMul, mj_tn0, mj_tn1, mj_tn2, mj_tn3]]
      exact ih (j + 1) g (f - f / g * g) (.int (f - f / g * g)) (by omega) (by omega) (by omega)
    · skip
      refine R_seg (φ := []) (pc' := 35) (L' := [.int a, .int e, .int f, .int g, .int (nI j), w5]) (st' := [.int f]) (σ' := (mj_KS N, I, mj_PP c d r)) 1 rfl trivial ?_
      exact R_ri rfl rfl (mj_leaf (by simp only [s_X5_gd, if_neg h2, Bool.false_eq_true, ↓reduceIte, Nat.reduceAdd, Nat.reduceMul, mj_tn0, mj_tn1, mj_tn2, mj_tn3]) (by simp only [s_X5_gd, if_neg h2, Bool.false_eq_true, ↓reduceIte, Nat.reduceAdd, Nat.reduceMul, mj_tn0, mj_tn1, mj_tn2, mj_tn3]))
def s_X5_greatestDivisor (a : Int32) (e : Int32) (I : mj_I) : Int32 := s_X5_gd a e I 64 0 a e
set_option maxHeartbeats 8000000 in
theorem x_X5_greatestDivisor (l : Launch) (b base : Nat) (D : va_G) (z : mj_K × (Int32 → Int32)) (N : Nat) (a : Int32) (e : Int32) (I : mj_I) (c d r : Nat) : mj_Rn l b base D z mj_m_X5_greatestDivisor 0 [.int a, .int e, mj_mk, mj_mk, mj_mk, mj_mk] [] (mj_KS N, I, mj_PP c d r) (mj_E N (some (.int (s_X5_greatestDivisor a e I))) I (mj_PP c d r)) := by
  refine R_seg (φ := []) (pc' := 7) (L' := [.int a, .int e, .int a, .int e, .int 0, mj_mk]) (st' := []) (σ' := (mj_KS N, I, mj_PP c d r)) 6 rfl trivial ?_
  exact x_X5_gd l b base D z N a e I c d r  64 0 a e mj_mk (by omega) (by omega) (by omega)
