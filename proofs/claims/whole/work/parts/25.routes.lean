/-! the class: routes -/
theorem mj_in_le {i : Int32} {n m : Nat} (h : mj_in i n) (hm : n ≤ m) : mj_in i m := by
  have h : 0 ≤ i.toInt ∧ i.toInt < (n : Int) := h
  exact (show 0 ≤ i.toInt ∧ i.toInt < (m : Int) from ⟨h.1, by omega⟩)
theorem mj_nIm1 {j : Nat} (h : 1 ≤ j) : nI j - 1 = nI (j - 1) := by
  obtain ⟨k, rfl⟩ : ∃ k, j = k + 1 := ⟨j - 1, by omega⟩
  rw [nI_pred]
  rfl
def s_X5_fw (cc : Nat) (m : Nat) (I : mj_I) : Nat → Nat → Int32
  | 0, j => (-9)
  | k + 1, j => if sp_can (I (cc + 2)) (I 29 ((nI j) - 1)) (I 29 (nI j)) then (s_X5_fw cc m I k (j + 1) ) else (nI j)
set_option maxHeartbeats 8000000 in
theorem x_X5_fw (l : Launch) (b base : Nat) (D : va_G) (z : mj_K × (Int32 → Int32)) (N : Nat) (cc : Nat) (m : Nat) (hcc : cc = 2 ∨ cc = 10) (I : mj_I) (d r : Nat) (hm : m ≤ 24) (hw : ∀ j : Nat, j < m → mj_in (I 29 (nI j)) 6) : ∀ (k j : Nat), k = m - j → 1 ≤ j → j ≤ m + 1 → mj_Rn l b base D z mj_m_X5_firstWrong 2 [.ref 1, .int (nI m), .int (nI j)] [] (mj_KS N, I, mj_PP cc d r) (mj_E N (some (.int (s_X5_fw cc m I k j ))) I (mj_PP cc d r)) := by
  rcases hcc with rfl | rfl
  · skip
    intro k
    induction k with
    | zero =>
      intro j hk hlo hj
      refine R_seg (φ := []) (pc' := 4) (L' := [.ref 1, .int (nI m), .int (nI j)]) (st' := [.int (nI m), .int (nI j)]) (σ' := (mj_KS N, I, mj_PP (2) d r)) 2 rfl trivial ?_
      refine R_br (q := (nI j : Int32) < nI m) (t := 7) (f := 39) (rest := []) rfl (fun h1 => absurd h1 (by exact nI_nlt (by omega) (by omega))) (fun h1 => ?_)
      refine R_seg (φ := []) (pc' := 41) (L' := [.ref 1, .int (nI m), .int (nI j)]) (st' := [.int (-9)]) (σ' := (mj_KS N, I, mj_PP (2) d r)) 1 rfl trivial ?_
      exact R_ri rfl rfl (mj_leaf (by simp only [s_X5_fw, Bool.false_eq_true, ↓reduceIte, Nat.reduceAdd, Nat.reduceMul, mj_tn0, mj_tn1, mj_tn2, mj_tn3]) (by simp only [s_X5_fw, Bool.false_eq_true, ↓reduceIte, Nat.reduceAdd, Nat.reduceMul, mj_tn0, mj_tn1, mj_tn2, mj_tn3]))
    | succ k ih =>
      intro j hk hlo hj
      have hjm : j < m := by omega
      have hj1 : 1 ≤ j := by omega
      have hin : mj_in (nI j) 24 := mj_in_nI (by omega) (by omega)
      have hin1 : mj_in (nI j - 1) 24 := by rw [mj_nIm1 hj1]; exact mj_in_nI (by omega) (by omega)
      have hpr : mj_in (I 29 (nI j - 1)) 6 := by rw [mj_nIm1 hj1]; exact hw (j - 1) (by omega)
      refine R_seg (φ := []) (pc' := 4) (L' := [.ref 1, .int (nI m), .int (nI j)]) (st' := [.int (nI m), .int (nI j)]) (σ' := (mj_KS N, I, mj_PP (2) d r)) 2 rfl trivial ?_
      refine R_br (q := (nI j : Int32) < nI m) (t := 7) (f := 39) (rest := []) rfl (fun h1 => ?_) (fun h1 => absurd (by exact nI_lt hjm (by omega)) h1)
      refine R_seg (φ := [mj_in ((nI j) - 1) 24, mj_in (nI j) 24]) (pc' := 25) (L' := [.ref 1, .int (nI m), .int (nI j)]) (st' := [.int (I 29 (nI j)), .int (I 29 ((nI j) - 1)), .ref 2]) (σ' := (mj_KS N, I, mj_PP (2) d r)) 12 rfl ⟨hin1, hin, trivial⟩ ?_
      refine R_ce (idx := 169) (mid := 10) (kind := 3) (N := N) (M' := mj_m_X1_canStep) (As := [.ref 2, .int (I 29 ((nI j) - 1)), .int (I 29 (nI j))]) (rest := []) (I := I) (P := mj_PP (2) d r) (I' := I) (P' := mj_PP (2) d r) (v := some (.int (bI (sp_can (I 4) (I 29 ((nI j) - 1)) (I 29 (nI j)))))) rfl rfl rfl mj_mc10 mj_dc10 rfl rfl rfl rfl rfl rfl (x_canStep l b base D z N 2 (by decide) (I 29 ((nI j) - 1)) (I 29 (nI j)) I (2) d r (hpr)) ?_
      refine R_seg (φ := []) (pc' := 28) (L' := [.ref 1, .int (nI m), .int (nI j)]) (st' := [.int (bI (sp_can (I 4) (I 29 ((nI j) - 1)) (I 29 (nI j))))]) (σ' := (mj_KS N, I, mj_PP (2) d r)) 0 rfl trivial ?_
      refine R_br (q := (bI (sp_can (I 4) (I 29 ((nI j) - 1)) (I 29 (nI j))) : Int32) = 0) (t := 31) (f := 33) (rest := []) rfl (fun h2 => ?_) (fun h2 => ?_)
      · skip
        replace h2 := bI_0.mp h2
        refine R_seg (φ := []) (pc' := 32) (L' := [.ref 1, .int (nI m), .int (nI j)]) (st' := [.int (nI j)]) (σ' := (mj_KS N, I, mj_PP (2) d r)) 1 rfl trivial ?_
        exact R_ri rfl rfl (mj_leaf (by simp only [s_X5_fw, h2, Bool.false_eq_true, ↓reduceIte, Nat.reduceAdd, Nat.reduceMul, mj_tn0, mj_tn1, mj_tn2, mj_tn3]) (by simp only [s_X5_fw, h2, Bool.false_eq_true, ↓reduceIte, Nat.reduceAdd, Nat.reduceMul, mj_tn0, mj_tn1, mj_tn2, mj_tn3]))
      · skip
        replace h2 := bI_1 h2
        refine R_seg (φ := []) (pc' := 2) (L' := [.ref 1, .int (nI m), .int ((nI j) + 1)]) (st' := []) (σ' := (mj_KS N, I, mj_PP (2) d r)) 2 rfl trivial ?_
        rw [nI_1 j]
        rw [show s_X5_fw 2 m I (k + 1) j  = s_X5_fw 2 m I k (j + 1)  from by simp only [s_X5_fw, h2, Bool.false_eq_true, ↓reduceIte, Nat.reduceAdd, Nat.reduceMul, mj_tn0, mj_tn1, mj_tn2, mj_tn3]]
        exact ih (j + 1)  (by omega) (by omega) (by omega)
  · skip
    intro k
    induction k with
    | zero =>
      intro j hk hlo hj
      refine R_seg (φ := []) (pc' := 4) (L' := [.ref 1, .int (nI m), .int (nI j)]) (st' := [.int (nI m), .int (nI j)]) (σ' := (mj_KS N, I, mj_PP (10) d r)) 2 rfl trivial ?_
      refine R_br (q := (nI j : Int32) < nI m) (t := 7) (f := 39) (rest := []) rfl (fun h1 => absurd h1 (by exact nI_nlt (by omega) (by omega))) (fun h1 => ?_)
      refine R_seg (φ := []) (pc' := 41) (L' := [.ref 1, .int (nI m), .int (nI j)]) (st' := [.int (-9)]) (σ' := (mj_KS N, I, mj_PP (10) d r)) 1 rfl trivial ?_
      exact R_ri rfl rfl (mj_leaf (by simp only [s_X5_fw, Bool.false_eq_true, ↓reduceIte, Nat.reduceAdd, Nat.reduceMul, mj_tn0, mj_tn1, mj_tn2, mj_tn3]) (by simp only [s_X5_fw, Bool.false_eq_true, ↓reduceIte, Nat.reduceAdd, Nat.reduceMul, mj_tn0, mj_tn1, mj_tn2, mj_tn3]))
    | succ k ih =>
      intro j hk hlo hj
      have hjm : j < m := by omega
      have hj1 : 1 ≤ j := by omega
      have hin : mj_in (nI j) 24 := mj_in_nI (by omega) (by omega)
      have hin1 : mj_in (nI j - 1) 24 := by rw [mj_nIm1 hj1]; exact mj_in_nI (by omega) (by omega)
      have hpr : mj_in (I 29 (nI j - 1)) 6 := by rw [mj_nIm1 hj1]; exact hw (j - 1) (by omega)
      refine R_seg (φ := []) (pc' := 4) (L' := [.ref 1, .int (nI m), .int (nI j)]) (st' := [.int (nI m), .int (nI j)]) (σ' := (mj_KS N, I, mj_PP (10) d r)) 2 rfl trivial ?_
      refine R_br (q := (nI j : Int32) < nI m) (t := 7) (f := 39) (rest := []) rfl (fun h1 => ?_) (fun h1 => absurd (by exact nI_lt hjm (by omega)) h1)
      refine R_seg (φ := [mj_in ((nI j) - 1) 24, mj_in (nI j) 24]) (pc' := 25) (L' := [.ref 1, .int (nI m), .int (nI j)]) (st' := [.int (I 29 (nI j)), .int (I 29 ((nI j) - 1)), .ref 10]) (σ' := (mj_KS N, I, mj_PP (10) d r)) 12 rfl ⟨hin1, hin, trivial⟩ ?_
      refine R_ce (idx := 169) (mid := 10) (kind := 3) (N := N) (M' := mj_m_X1_canStep) (As := [.ref 10, .int (I 29 ((nI j) - 1)), .int (I 29 (nI j))]) (rest := []) (I := I) (P := mj_PP (10) d r) (I' := I) (P' := mj_PP (10) d r) (v := some (.int (bI (sp_can (I 12) (I 29 ((nI j) - 1)) (I 29 (nI j)))))) rfl rfl rfl mj_mc10 mj_dc10 rfl rfl rfl rfl rfl rfl (x_canStep l b base D z N 10 (by decide) (I 29 ((nI j) - 1)) (I 29 (nI j)) I (10) d r (hpr)) ?_
      refine R_seg (φ := []) (pc' := 28) (L' := [.ref 1, .int (nI m), .int (nI j)]) (st' := [.int (bI (sp_can (I 12) (I 29 ((nI j) - 1)) (I 29 (nI j))))]) (σ' := (mj_KS N, I, mj_PP (10) d r)) 0 rfl trivial ?_
      refine R_br (q := (bI (sp_can (I 12) (I 29 ((nI j) - 1)) (I 29 (nI j))) : Int32) = 0) (t := 31) (f := 33) (rest := []) rfl (fun h2 => ?_) (fun h2 => ?_)
      · skip
        replace h2 := bI_0.mp h2
        refine R_seg (φ := []) (pc' := 32) (L' := [.ref 1, .int (nI m), .int (nI j)]) (st' := [.int (nI j)]) (σ' := (mj_KS N, I, mj_PP (10) d r)) 1 rfl trivial ?_
        exact R_ri rfl rfl (mj_leaf (by simp only [s_X5_fw, h2, Bool.false_eq_true, ↓reduceIte, Nat.reduceAdd, Nat.reduceMul, mj_tn0, mj_tn1, mj_tn2, mj_tn3]) (by simp only [s_X5_fw, h2, Bool.false_eq_true, ↓reduceIte, Nat.reduceAdd, Nat.reduceMul, mj_tn0, mj_tn1, mj_tn2, mj_tn3]))
      · skip
        replace h2 := bI_1 h2
        refine R_seg (φ := []) (pc' := 2) (L' := [.ref 1, .int (nI m), .int ((nI j) + 1)]) (st' := []) (σ' := (mj_KS N, I, mj_PP (10) d r)) 2 rfl trivial ?_
        rw [nI_1 j]
        rw [show s_X5_fw 10 m I (k + 1) j  = s_X5_fw 10 m I k (j + 1)  from by simp only [s_X5_fw, h2, Bool.false_eq_true, ↓reduceIte, Nat.reduceAdd, Nat.reduceMul, mj_tn0, mj_tn1, mj_tn2, mj_tn3]]
        exact ih (j + 1)  (by omega) (by omega) (by omega)
def s_X5_firstWrong (cc : Nat) (m : Nat) (I : mj_I) : Int32 := s_X5_fw (cc) m I (m - 1) 1 
set_option maxHeartbeats 8000000 in
theorem x_X5_firstWrong (l : Launch) (b base : Nat) (D : va_G) (z : mj_K × (Int32 → Int32)) (N : Nat) (cc : Nat) (m : Nat) (hcc : cc = 2 ∨ cc = 10) (I : mj_I) (d r : Nat) (hm : m ≤ 24) (hw : ∀ j : Nat, j < m → mj_in (I 29 (nI j)) 6) : mj_Rn l b base D z mj_m_X5_firstWrong 0 [.ref 1, .int (nI m), mj_mk] [] (mj_KS N, I, mj_PP cc d r) (mj_E N (some (.int (s_X5_firstWrong cc m I))) I (mj_PP cc d r)) := by
  rcases hcc with rfl | rfl
  · skip
    refine R_seg (φ := []) (pc' := 2) (L' := [.ref 1, .int (nI m), .int 1]) (st' := []) (σ' := (mj_KS N, I, mj_PP (2) d r)) 2 rfl trivial ?_
    exact x_X5_fw l b base D z N (2) m (by decide) I d r hm hw (m - 1) 1  (by omega) (by omega) (by omega)
  · skip
    refine R_seg (φ := []) (pc' := 2) (L' := [.ref 1, .int (nI m), .int 1]) (st' := []) (σ' := (mj_KS N, I, mj_PP (10) d r)) 2 rfl trivial ?_
    exact x_X5_fw l b base D z N (10) m (by decide) I d r hm hw (m - 1) 1  (by omega) (by omega) (by omega)
def s_X5_ga (cc : Nat) (m : Nat) (q : Int32) (I : mj_I) : Nat → Nat → Int32 → Int32
  | 0, j, g => g
  | k + 1, j, g => s_X5_ga cc m q I k (j + 1) (sp_g I cc q g (I (cc + 1) (I 29 (nI j))))
set_option maxHeartbeats 8000000 in
theorem x_X5_ga (l : Launch) (b base : Nat) (D : va_G) (z : mj_K × (Int32 → Int32)) (N : Nat) (cc : Nat) (m : Nat) (q : Int32) (hcc : cc = 2 ∨ cc = 10) (I : mj_I) (d r : Nat) (hm : m ≤ 24) (hw : ∀ j : Nat, j < m → mj_in (I 29 (nI j)) 6) (hq : q = 0 ∨ q = 1 ∨ q = 2) : ∀ (k j : Nat) (g : Int32), k = m - j → 0 ≤ j → j ≤ m + 1 → mj_Rn l b base D z mj_m_X5_growthAtEnd 5 [.ref 1, .int q, .int (nI m), .int g, .int (nI j)] [] (mj_KS N, I, mj_PP cc d r) (mj_E N (some (.int (s_X5_ga cc m q I k j g))) I (mj_PP cc d r)) := by
  rcases hcc with rfl | rfl
  · skip
    intro k
    induction k with
    | zero =>
      intro j g hk hlo hj
      refine R_seg (φ := []) (pc' := 8) (L' := [.ref 1, .int q, .int (nI m), .int g, .int (nI j)]) (st' := [.int (nI m), .int (nI j)]) (σ' := (mj_KS N, I, mj_PP (2) d r)) 2 rfl trivial ?_
      refine R_br (q := (nI j : Int32) < nI m) (t := 11) (f := 42) (rest := []) rfl (fun h1 => absurd h1 (by exact nI_nlt (by omega) (by omega))) (fun h1 => ?_)
      refine R_seg (φ := []) (pc' := 43) (L' := [.ref 1, .int q, .int (nI m), .int g, .int (nI j)]) (st' := [.int g]) (σ' := (mj_KS N, I, mj_PP (2) d r)) 1 rfl trivial ?_
      exact R_ri rfl rfl (mj_leaf (by simp only [s_X5_ga, Bool.false_eq_true, ↓reduceIte, Nat.reduceAdd, Nat.reduceMul, mj_tn0, mj_tn1, mj_tn2, mj_tn3]) (by simp only [s_X5_ga, Bool.false_eq_true, ↓reduceIte, Nat.reduceAdd, Nat.reduceMul, mj_tn0, mj_tn1, mj_tn2, mj_tn3]))
    | succ k ih =>
      intro j g hk hlo hj
      have hjm : j < m := by omega
      have hin : mj_in (nI j) 24 := mj_in_nI (by omega) (by omega)
      have hin6 := hw j hjm
      refine R_seg (φ := []) (pc' := 8) (L' := [.ref 1, .int q, .int (nI m), .int g, .int (nI j)]) (st' := [.int (nI m), .int (nI j)]) (σ' := (mj_KS N, I, mj_PP (2) d r)) 2 rfl trivial ?_
      refine R_br (q := (nI j : Int32) < nI m) (t := 11) (f := 42) (rest := []) rfl (fun h1 => ?_) (fun h1 => absurd (by exact nI_lt hjm (by omega)) h1)
      refine R_seg (φ := [mj_in (nI j) 24, mj_in (I 29 (nI j)) 6]) (pc' := 32) (L' := [.ref 1, .int q, .int (nI m), .int g, .int (nI j)]) (st' := [.int (I 3 (I 29 (nI j))), .int g, .int q, .ref 2]) (σ' := (mj_KS N, I, mj_PP (2) d r)) 12 rfl ⟨hin, hin6, trivial⟩ ?_
      refine R_ce (idx := 175) (mid := 14) (kind := 3) (N := N) (M' := mj_m_X1_grown) (As := [.ref 2, .int q, .int g, .int (I 3 (I 29 (nI j)))]) (rest := []) (I := I) (P := mj_PP (2) d r) (I' := I) (P' := mj_PP (2) d r) (v := some (.int (sp_g I 2 q g (I 3 (I 29 (nI j)))))) rfl rfl rfl mj_mc14 mj_dc14 rfl rfl rfl rfl rfl rfl (x_grown l b base D z N 2 (by decide) q g (I 3 (I 29 (nI j))) hq I (2) d r) ?_
      refine R_seg (φ := []) (pc' := 5) (L' := [.ref 1, .int q, .int (nI m), .int (sp_g I 2 q g (I 3 (I 29 (nI j)))), .int ((nI j) + 1)]) (st' := []) (σ' := (mj_KS N, I, mj_PP (2) d r)) 3 rfl trivial ?_
      rw [nI_1 j]
      rw [show s_X5_ga 2 m q I (k + 1) j g = s_X5_ga 2 m q I k (j + 1) (sp_g I 2 q g (I 3 (I 29 (nI j)))) from by simp only [s_X5_ga, Bool.false_eq_true, ↓reduceIte, Nat.reduceAdd, Nat.reduceMul, mj_tn0, mj_tn1, mj_tn2, mj_tn3]]
      exact ih (j + 1) (sp_g I 2 q g (I 3 (I 29 (nI j)))) (by omega) (by omega) (by omega)
  · skip
    intro k
    induction k with
    | zero =>
      intro j g hk hlo hj
      refine R_seg (φ := []) (pc' := 8) (L' := [.ref 1, .int q, .int (nI m), .int g, .int (nI j)]) (st' := [.int (nI m), .int (nI j)]) (σ' := (mj_KS N, I, mj_PP (10) d r)) 2 rfl trivial ?_
      refine R_br (q := (nI j : Int32) < nI m) (t := 11) (f := 42) (rest := []) rfl (fun h1 => absurd h1 (by exact nI_nlt (by omega) (by omega))) (fun h1 => ?_)
      refine R_seg (φ := []) (pc' := 43) (L' := [.ref 1, .int q, .int (nI m), .int g, .int (nI j)]) (st' := [.int g]) (σ' := (mj_KS N, I, mj_PP (10) d r)) 1 rfl trivial ?_
      exact R_ri rfl rfl (mj_leaf (by simp only [s_X5_ga, Bool.false_eq_true, ↓reduceIte, Nat.reduceAdd, Nat.reduceMul, mj_tn0, mj_tn1, mj_tn2, mj_tn3]) (by simp only [s_X5_ga, Bool.false_eq_true, ↓reduceIte, Nat.reduceAdd, Nat.reduceMul, mj_tn0, mj_tn1, mj_tn2, mj_tn3]))
    | succ k ih =>
      intro j g hk hlo hj
      have hjm : j < m := by omega
      have hin : mj_in (nI j) 24 := mj_in_nI (by omega) (by omega)
      have hin6 := hw j hjm
      refine R_seg (φ := []) (pc' := 8) (L' := [.ref 1, .int q, .int (nI m), .int g, .int (nI j)]) (st' := [.int (nI m), .int (nI j)]) (σ' := (mj_KS N, I, mj_PP (10) d r)) 2 rfl trivial ?_
      refine R_br (q := (nI j : Int32) < nI m) (t := 11) (f := 42) (rest := []) rfl (fun h1 => ?_) (fun h1 => absurd (by exact nI_lt hjm (by omega)) h1)
      refine R_seg (φ := [mj_in (nI j) 24, mj_in (I 29 (nI j)) 6]) (pc' := 32) (L' := [.ref 1, .int q, .int (nI m), .int g, .int (nI j)]) (st' := [.int (I 11 (I 29 (nI j))), .int g, .int q, .ref 10]) (σ' := (mj_KS N, I, mj_PP (10) d r)) 12 rfl ⟨hin, hin6, trivial⟩ ?_
      refine R_ce (idx := 175) (mid := 14) (kind := 3) (N := N) (M' := mj_m_X1_grown) (As := [.ref 10, .int q, .int g, .int (I 11 (I 29 (nI j)))]) (rest := []) (I := I) (P := mj_PP (10) d r) (I' := I) (P' := mj_PP (10) d r) (v := some (.int (sp_g I 10 q g (I 11 (I 29 (nI j)))))) rfl rfl rfl mj_mc14 mj_dc14 rfl rfl rfl rfl rfl rfl (x_grown l b base D z N 10 (by decide) q g (I 11 (I 29 (nI j))) hq I (10) d r) ?_
      refine R_seg (φ := []) (pc' := 5) (L' := [.ref 1, .int q, .int (nI m), .int (sp_g I 10 q g (I 11 (I 29 (nI j)))), .int ((nI j) + 1)]) (st' := []) (σ' := (mj_KS N, I, mj_PP (10) d r)) 3 rfl trivial ?_
      rw [nI_1 j]
      rw [show s_X5_ga 10 m q I (k + 1) j g = s_X5_ga 10 m q I k (j + 1) (sp_g I 10 q g (I 11 (I 29 (nI j)))) from by simp only [s_X5_ga, Bool.false_eq_true, ↓reduceIte, Nat.reduceAdd, Nat.reduceMul, mj_tn0, mj_tn1, mj_tn2, mj_tn3]]
      exact ih (j + 1) (sp_g I 10 q g (I 11 (I 29 (nI j)))) (by omega) (by omega) (by omega)
def s_X5_rd (cc : Nat) (m : Nat) (q : Int32) (I : mj_I) : Nat → Nat → Int32 → Int32
  | 0, j, g => (-9)
  | k + 1, j, g => if (sp_g I cc q g (I (cc + 1) (I 29 (nI j))) : Int32) = 6 then (nI j) else (s_X5_rd cc m q I k (j + 1) (sp_g I cc q g (I (cc + 1) (I 29 (nI j)))))
set_option maxHeartbeats 8000000 in
theorem x_X5_rd (l : Launch) (b base : Nat) (D : va_G) (z : mj_K × (Int32 → Int32)) (N : Nat) (cc : Nat) (m : Nat) (q : Int32) (hcc : cc = 2 ∨ cc = 10) (I : mj_I) (d r : Nat) (hm : m ≤ 24) (hw : ∀ j : Nat, j < m → mj_in (I 29 (nI j)) 6) (hq : q = 0 ∨ q = 1 ∨ q = 2) : ∀ (k j : Nat) (g : Int32), k = m - j → 0 ≤ j → j ≤ m + 1 → mj_Rn l b base D z mj_m_X5_ripeDay 5 [.ref 1, .int q, .int (nI m), .int g, .int (nI j)] [] (mj_KS N, I, mj_PP cc d r) (mj_E N (some (.int (s_X5_rd cc m q I k j g))) I (mj_PP cc d r)) := by
  rcases hcc with rfl | rfl
  · skip
    intro k
    induction k with
    | zero =>
      intro j g hk hlo hj
      refine R_seg (φ := []) (pc' := 8) (L' := [.ref 1, .int q, .int (nI m), .int g, .int (nI j)]) (st' := [.int (nI m), .int (nI j)]) (σ' := (mj_KS N, I, mj_PP (2) d r)) 2 rfl trivial ?_
      refine R_br (q := (nI j : Int32) < nI m) (t := 11) (f := 51) (rest := []) rfl (fun h1 => absurd h1 (by exact nI_nlt (by omega) (by omega))) (fun h1 => ?_)
      refine R_seg (φ := []) (pc' := 53) (L' := [.ref 1, .int q, .int (nI m), .int g, .int (nI j)]) (st' := [.int (-9)]) (σ' := (mj_KS N, I, mj_PP (2) d r)) 1 rfl trivial ?_
      exact R_ri rfl rfl (mj_leaf (by simp only [s_X5_rd, Bool.false_eq_true, ↓reduceIte, Nat.reduceAdd, Nat.reduceMul, mj_tn0, mj_tn1, mj_tn2, mj_tn3]) (by simp only [s_X5_rd, Bool.false_eq_true, ↓reduceIte, Nat.reduceAdd, Nat.reduceMul, mj_tn0, mj_tn1, mj_tn2, mj_tn3]))
    | succ k ih =>
      intro j g hk hlo hj
      have hjm : j < m := by omega
      have hin : mj_in (nI j) 24 := mj_in_nI (by omega) (by omega)
      have hin6 := hw j hjm
      refine R_seg (φ := []) (pc' := 8) (L' := [.ref 1, .int q, .int (nI m), .int g, .int (nI j)]) (st' := [.int (nI m), .int (nI j)]) (σ' := (mj_KS N, I, mj_PP (2) d r)) 2 rfl trivial ?_
      refine R_br (q := (nI j : Int32) < nI m) (t := 11) (f := 51) (rest := []) rfl (fun h1 => ?_) (fun h1 => absurd (by exact nI_lt hjm (by omega)) h1)
      refine R_seg (φ := [mj_in (nI j) 24, mj_in (I 29 (nI j)) 6]) (pc' := 32) (L' := [.ref 1, .int q, .int (nI m), .int g, .int (nI j)]) (st' := [.int (I 3 (I 29 (nI j))), .int g, .int q, .ref 2]) (σ' := (mj_KS N, I, mj_PP (2) d r)) 12 rfl ⟨hin, hin6, trivial⟩ ?_
      refine R_ce (idx := 175) (mid := 14) (kind := 3) (N := N) (M' := mj_m_X1_grown) (As := [.ref 2, .int q, .int g, .int (I 3 (I 29 (nI j)))]) (rest := []) (I := I) (P := mj_PP (2) d r) (I' := I) (P' := mj_PP (2) d r) (v := some (.int (sp_g I 2 q g (I 3 (I 29 (nI j)))))) rfl rfl rfl mj_mc14 mj_dc14 rfl rfl rfl rfl rfl rfl (x_grown l b base D z N 2 (by decide) q g (I 3 (I 29 (nI j))) hq I (2) d r) ?_
      refine R_seg (φ := []) (pc' := 39) (L' := [.ref 1, .int q, .int (nI m), .int (sp_g I 2 q g (I 3 (I 29 (nI j)))), .int (nI j)]) (st' := [.int 6, .int (sp_g I 2 q g (I 3 (I 29 (nI j))))]) (σ' := (mj_KS N, I, mj_PP (2) d r)) 3 rfl trivial ?_
      refine R_br (q := (sp_g I 2 q g (I 3 (I 29 (nI j))) : Int32) = 6) (t := 42) (f := 45) (rest := []) rfl (fun h2 => ?_) (fun h2 => ?_)
      · skip
        refine R_seg (φ := []) (pc' := 44) (L' := [.ref 1, .int q, .int (nI m), .int (sp_g I 2 q g (I 3 (I 29 (nI j)))), .int (nI j)]) (st' := [.int (nI j)]) (σ' := (mj_KS N, I, mj_PP (2) d r)) 1 rfl trivial ?_
        exact R_ri rfl rfl (mj_leaf (by simp only [s_X5_rd, if_pos h2, Bool.false_eq_true, ↓reduceIte, Nat.reduceAdd, Nat.reduceMul, mj_tn0, mj_tn1, mj_tn2, mj_tn3]) (by simp only [s_X5_rd, if_pos h2, Bool.false_eq_true, ↓reduceIte, Nat.reduceAdd, Nat.reduceMul, mj_tn0, mj_tn1, mj_tn2, mj_tn3]))
      · skip
        refine R_seg (φ := []) (pc' := 5) (L' := [.ref 1, .int q, .int (nI m), .int (sp_g I 2 q g (I 3 (I 29 (nI j)))), .int ((nI j) + 1)]) (st' := []) (σ' := (mj_KS N, I, mj_PP (2) d r)) 2 rfl trivial ?_
        rw [nI_1 j]
        rw [show s_X5_rd 2 m q I (k + 1) j g = s_X5_rd 2 m q I k (j + 1) (sp_g I 2 q g (I 3 (I 29 (nI j)))) from by simp only [s_X5_rd, if_neg h2, Bool.false_eq_true, ↓reduceIte, Nat.reduceAdd, Nat.reduceMul, mj_tn0, mj_tn1, mj_tn2, mj_tn3]]
        exact ih (j + 1) (sp_g I 2 q g (I 3 (I 29 (nI j)))) (by omega) (by omega) (by omega)
  · skip
    intro k
    induction k with
    | zero =>
      intro j g hk hlo hj
      refine R_seg (φ := []) (pc' := 8) (L' := [.ref 1, .int q, .int (nI m), .int g, .int (nI j)]) (st' := [.int (nI m), .int (nI j)]) (σ' := (mj_KS N, I, mj_PP (10) d r)) 2 rfl trivial ?_
      refine R_br (q := (nI j : Int32) < nI m) (t := 11) (f := 51) (rest := []) rfl (fun h1 => absurd h1 (by exact nI_nlt (by omega) (by omega))) (fun h1 => ?_)
      refine R_seg (φ := []) (pc' := 53) (L' := [.ref 1, .int q, .int (nI m), .int g, .int (nI j)]) (st' := [.int (-9)]) (σ' := (mj_KS N, I, mj_PP (10) d r)) 1 rfl trivial ?_
      exact R_ri rfl rfl (mj_leaf (by simp only [s_X5_rd, Bool.false_eq_true, ↓reduceIte, Nat.reduceAdd, Nat.reduceMul, mj_tn0, mj_tn1, mj_tn2, mj_tn3]) (by simp only [s_X5_rd, Bool.false_eq_true, ↓reduceIte, Nat.reduceAdd, Nat.reduceMul, mj_tn0, mj_tn1, mj_tn2, mj_tn3]))
    | succ k ih =>
      intro j g hk hlo hj
      have hjm : j < m := by omega
      have hin : mj_in (nI j) 24 := mj_in_nI (by omega) (by omega)
      have hin6 := hw j hjm
      refine R_seg (φ := []) (pc' := 8) (L' := [.ref 1, .int q, .int (nI m), .int g, .int (nI j)]) (st' := [.int (nI m), .int (nI j)]) (σ' := (mj_KS N, I, mj_PP (10) d r)) 2 rfl trivial ?_
      refine R_br (q := (nI j : Int32) < nI m) (t := 11) (f := 51) (rest := []) rfl (fun h1 => ?_) (fun h1 => absurd (by exact nI_lt hjm (by omega)) h1)
      refine R_seg (φ := [mj_in (nI j) 24, mj_in (I 29 (nI j)) 6]) (pc' := 32) (L' := [.ref 1, .int q, .int (nI m), .int g, .int (nI j)]) (st' := [.int (I 11 (I 29 (nI j))), .int g, .int q, .ref 10]) (σ' := (mj_KS N, I, mj_PP (10) d r)) 12 rfl ⟨hin, hin6, trivial⟩ ?_
      refine R_ce (idx := 175) (mid := 14) (kind := 3) (N := N) (M' := mj_m_X1_grown) (As := [.ref 10, .int q, .int g, .int (I 11 (I 29 (nI j)))]) (rest := []) (I := I) (P := mj_PP (10) d r) (I' := I) (P' := mj_PP (10) d r) (v := some (.int (sp_g I 10 q g (I 11 (I 29 (nI j)))))) rfl rfl rfl mj_mc14 mj_dc14 rfl rfl rfl rfl rfl rfl (x_grown l b base D z N 10 (by decide) q g (I 11 (I 29 (nI j))) hq I (10) d r) ?_
      refine R_seg (φ := []) (pc' := 39) (L' := [.ref 1, .int q, .int (nI m), .int (sp_g I 10 q g (I 11 (I 29 (nI j)))), .int (nI j)]) (st' := [.int 6, .int (sp_g I 10 q g (I 11 (I 29 (nI j))))]) (σ' := (mj_KS N, I, mj_PP (10) d r)) 3 rfl trivial ?_
      refine R_br (q := (sp_g I 10 q g (I 11 (I 29 (nI j))) : Int32) = 6) (t := 42) (f := 45) (rest := []) rfl (fun h2 => ?_) (fun h2 => ?_)
      · skip
        refine R_seg (φ := []) (pc' := 44) (L' := [.ref 1, .int q, .int (nI m), .int (sp_g I 10 q g (I 11 (I 29 (nI j)))), .int (nI j)]) (st' := [.int (nI j)]) (σ' := (mj_KS N, I, mj_PP (10) d r)) 1 rfl trivial ?_
        exact R_ri rfl rfl (mj_leaf (by simp only [s_X5_rd, if_pos h2, Bool.false_eq_true, ↓reduceIte, Nat.reduceAdd, Nat.reduceMul, mj_tn0, mj_tn1, mj_tn2, mj_tn3]) (by simp only [s_X5_rd, if_pos h2, Bool.false_eq_true, ↓reduceIte, Nat.reduceAdd, Nat.reduceMul, mj_tn0, mj_tn1, mj_tn2, mj_tn3]))
      · skip
        refine R_seg (φ := []) (pc' := 5) (L' := [.ref 1, .int q, .int (nI m), .int (sp_g I 10 q g (I 11 (I 29 (nI j)))), .int ((nI j) + 1)]) (st' := []) (σ' := (mj_KS N, I, mj_PP (10) d r)) 2 rfl trivial ?_
        rw [nI_1 j]
        rw [show s_X5_rd 10 m q I (k + 1) j g = s_X5_rd 10 m q I k (j + 1) (sp_g I 10 q g (I 11 (I 29 (nI j)))) from by simp only [s_X5_rd, if_neg h2, Bool.false_eq_true, ↓reduceIte, Nat.reduceAdd, Nat.reduceMul, mj_tn0, mj_tn1, mj_tn2, mj_tn3]]
        exact ih (j + 1) (sp_g I 10 q g (I 11 (I 29 (nI j)))) (by omega) (by omega) (by omega)
def s_X5_growthAtEnd (cc : Nat) (m : Nat) (q : Int32) (I : mj_I) : Int32 := s_X5_ga (cc) m q I m 0 0
set_option maxHeartbeats 8000000 in
theorem x_X5_growthAtEnd (l : Launch) (b base : Nat) (D : va_G) (z : mj_K × (Int32 → Int32)) (N : Nat) (cc : Nat) (m : Nat) (q : Int32) (hcc : cc = 2 ∨ cc = 10) (I : mj_I) (d r : Nat) (hm : m ≤ 24) (hw : ∀ j : Nat, j < m → mj_in (I 29 (nI j)) 6) (hq : q = 0 ∨ q = 1 ∨ q = 2) : mj_Rn l b base D z mj_m_X5_growthAtEnd 0 [.ref 1, .int q, .int (nI m), mj_mk, mj_mk] [] (mj_KS N, I, mj_PP cc d r) (mj_E N (some (.int (s_X5_growthAtEnd cc m q I))) I (mj_PP cc d r)) := by
  rcases hcc with rfl | rfl
  · skip
    refine R_seg (φ := []) (pc' := 5) (L' := [.ref 1, .int q, .int (nI m), .int 0, .int 0]) (st' := []) (σ' := (mj_KS N, I, mj_PP (2) d r)) 4 rfl trivial ?_
    exact x_X5_ga l b base D z N (2) m q (by decide) I d r hm hw hq m 0 0 (by omega) (by omega) (by omega)
  · skip
    refine R_seg (φ := []) (pc' := 5) (L' := [.ref 1, .int q, .int (nI m), .int 0, .int 0]) (st' := []) (σ' := (mj_KS N, I, mj_PP (10) d r)) 4 rfl trivial ?_
    exact x_X5_ga l b base D z N (10) m q (by decide) I d r hm hw hq m 0 0 (by omega) (by omega) (by omega)
def s_X5_ripeDay (cc : Nat) (m : Nat) (q : Int32) (I : mj_I) : Int32 := s_X5_rd (cc) m q I m 0 0
set_option maxHeartbeats 8000000 in
theorem x_X5_ripeDay (l : Launch) (b base : Nat) (D : va_G) (z : mj_K × (Int32 → Int32)) (N : Nat) (cc : Nat) (m : Nat) (q : Int32) (hcc : cc = 2 ∨ cc = 10) (I : mj_I) (d r : Nat) (hm : m ≤ 24) (hw : ∀ j : Nat, j < m → mj_in (I 29 (nI j)) 6) (hq : q = 0 ∨ q = 1 ∨ q = 2) : mj_Rn l b base D z mj_m_X5_ripeDay 0 [.ref 1, .int q, .int (nI m), mj_mk, mj_mk] [] (mj_KS N, I, mj_PP cc d r) (mj_E N (some (.int (s_X5_ripeDay cc m q I))) I (mj_PP cc d r)) := by
  rcases hcc with rfl | rfl
  · skip
    refine R_seg (φ := []) (pc' := 5) (L' := [.ref 1, .int q, .int (nI m), .int 0, .int 0]) (st' := []) (σ' := (mj_KS N, I, mj_PP (2) d r)) 4 rfl trivial ?_
    exact x_X5_rd l b base D z N (2) m q (by decide) I d r hm hw hq m 0 0 (by omega) (by omega) (by omega)
  · skip
    refine R_seg (φ := []) (pc' := 5) (L' := [.ref 1, .int q, .int (nI m), .int 0, .int 0]) (st' := []) (σ' := (mj_KS N, I, mj_PP (10) d r)) 4 rfl trivial ?_
    exact x_X5_rd l b base D z N (10) m q (by decide) I d r hm hw hq m 0 0 (by omega) (by omega) (by omega)
def s_X5_cw (cc : Nat) (m : Nat) (I : mj_I) : Nat → Nat → Int32 → Int32
  | 0, j, g => g
  | k + 1, j, g => s_X5_cw cc m I k (j + 1) (g + (sp_cold (I (cc + 1)) (I 29 ((nI j) - 1)) (I 29 (nI j))))
set_option maxHeartbeats 8000000 in
theorem x_X5_cw (l : Launch) (b base : Nat) (D : va_G) (z : mj_K × (Int32 → Int32)) (N : Nat) (cc : Nat) (m : Nat) (hcc : cc = 2 ∨ cc = 10) (I : mj_I) (d r : Nat) (hm : m ≤ 24) (hw : ∀ j : Nat, j < m → mj_in (I 29 (nI j)) 6) : ∀ (k j : Nat) (g : Int32), k = m - j → 1 ≤ j → j ≤ m + 1 → mj_Rn l b base D z mj_m_X5_coldsOfWay 4 [.ref 1, .int (nI m), .int g, .int (nI j)] [] (mj_KS N, I, mj_PP cc d r) (mj_E N (some (.int (s_X5_cw cc m I k j g))) I (mj_PP cc d r)) := by
  rcases hcc with rfl | rfl
  · skip
    intro k
    induction k with
    | zero =>
      intro j g hk hlo hj
      refine R_seg (φ := []) (pc' := 6) (L' := [.ref 1, .int (nI m), .int g, .int (nI j)]) (st' := [.int (nI m), .int (nI j)]) (σ' := (mj_KS N, I, mj_PP (2) d r)) 2 rfl trivial ?_
      refine R_br (q := (nI j : Int32) < nI m) (t := 9) (f := 39) (rest := []) rfl (fun h1 => absurd h1 (by exact nI_nlt (by omega) (by omega))) (fun h1 => ?_)
      refine R_seg (φ := []) (pc' := 40) (L' := [.ref 1, .int (nI m), .int g, .int (nI j)]) (st' := [.int g]) (σ' := (mj_KS N, I, mj_PP (2) d r)) 1 rfl trivial ?_
      exact R_ri rfl rfl (mj_leaf (by simp only [s_X5_cw, Bool.false_eq_true, ↓reduceIte, Nat.reduceAdd, Nat.reduceMul, mj_tn0, mj_tn1, mj_tn2, mj_tn3]) (by simp only [s_X5_cw, Bool.false_eq_true, ↓reduceIte, Nat.reduceAdd, Nat.reduceMul, mj_tn0, mj_tn1, mj_tn2, mj_tn3]))
    | succ k ih =>
      intro j g hk hlo hj
      have hjm : j < m := by omega
      have hj1 : 1 ≤ j := by omega
      have hin : mj_in (nI j) 24 := mj_in_nI (by omega) (by omega)
      have hin6 := hw j hjm
      have hin1 : mj_in (nI j - 1) 24 := by rw [mj_nIm1 hj1]; exact mj_in_nI (by omega) (by omega)
      have hpr : mj_in (I 29 (nI j - 1)) 6 := by rw [mj_nIm1 hj1]; exact hw (j - 1) (by omega)
      refine R_seg (φ := []) (pc' := 6) (L' := [.ref 1, .int (nI m), .int g, .int (nI j)]) (st' := [.int (nI m), .int (nI j)]) (σ' := (mj_KS N, I, mj_PP (2) d r)) 2 rfl trivial ?_
      refine R_br (q := (nI j : Int32) < nI m) (t := 9) (f := 39) (rest := []) rfl (fun h1 => ?_) (fun h1 => absurd (by exact nI_lt hjm (by omega)) h1)
      refine R_seg (φ := [mj_in ((nI j) - 1) 24, mj_in (nI j) 24]) (pc' := 28) (L' := [.ref 1, .int (nI m), .int g, .int (nI j)]) (st' := [.int (I 29 (nI j)), .int (I 29 ((nI j) - 1)), .ref 2, .int g]) (σ' := (mj_KS N, I, mj_PP (2) d r)) 13 rfl ⟨hin1, hin, trivial⟩ ?_
      refine R_ce (idx := 172) (mid := 13) (kind := 3) (N := N) (M' := mj_m_X1_coldsOfStep) (As := [.ref 2, .int (I 29 ((nI j) - 1)), .int (I 29 (nI j))]) (rest := [.int g]) (I := I) (P := mj_PP (2) d r) (I' := I) (P' := mj_PP (2) d r) (v := some (.int (sp_cold (I 3) (I 29 ((nI j) - 1)) (I 29 (nI j))))) rfl rfl rfl mj_mc13 mj_dc13 rfl rfl rfl rfl rfl rfl (x_coldsOfStep l b base D z N 2 (by decide) (I 29 ((nI j) - 1)) (I 29 (nI j)) I (2) d r hpr hin6) ?_
      refine R_seg (φ := []) (pc' := 4) (L' := [.ref 1, .int (nI m), .int (g + (sp_cold (I 3) (I 29 ((nI j) - 1)) (I 29 (nI j)))), .int ((nI j) + 1)]) (st' := []) (σ' := (mj_KS N, I, mj_PP (2) d r)) 4 rfl trivial ?_
      rw [nI_1 j]
      rw [show s_X5_cw 2 m I (k + 1) j g = s_X5_cw 2 m I k (j + 1) (g + (sp_cold (I 3) (I 29 ((nI j) - 1)) (I 29 (nI j)))) from by simp only [s_X5_cw, Bool.false_eq_true, ↓reduceIte, Nat.reduceAdd, Nat.reduceMul, mj_tn0, mj_tn1, mj_tn2, mj_tn3]]
      exact ih (j + 1) (g + (sp_cold (I 3) (I 29 ((nI j) - 1)) (I 29 (nI j)))) (by omega) (by omega) (by omega)
  · skip
    intro k
    induction k with
    | zero =>
      intro j g hk hlo hj
      refine R_seg (φ := []) (pc' := 6) (L' := [.ref 1, .int (nI m), .int g, .int (nI j)]) (st' := [.int (nI m), .int (nI j)]) (σ' := (mj_KS N, I, mj_PP (10) d r)) 2 rfl trivial ?_
      refine R_br (q := (nI j : Int32) < nI m) (t := 9) (f := 39) (rest := []) rfl (fun h1 => absurd h1 (by exact nI_nlt (by omega) (by omega))) (fun h1 => ?_)
      refine R_seg (φ := []) (pc' := 40) (L' := [.ref 1, .int (nI m), .int g, .int (nI j)]) (st' := [.int g]) (σ' := (mj_KS N, I, mj_PP (10) d r)) 1 rfl trivial ?_
      exact R_ri rfl rfl (mj_leaf (by simp only [s_X5_cw, Bool.false_eq_true, ↓reduceIte, Nat.reduceAdd, Nat.reduceMul, mj_tn0, mj_tn1, mj_tn2, mj_tn3]) (by simp only [s_X5_cw, Bool.false_eq_true, ↓reduceIte, Nat.reduceAdd, Nat.reduceMul, mj_tn0, mj_tn1, mj_tn2, mj_tn3]))
    | succ k ih =>
      intro j g hk hlo hj
      have hjm : j < m := by omega
      have hj1 : 1 ≤ j := by omega
      have hin : mj_in (nI j) 24 := mj_in_nI (by omega) (by omega)
      have hin6 := hw j hjm
      have hin1 : mj_in (nI j - 1) 24 := by rw [mj_nIm1 hj1]; exact mj_in_nI (by omega) (by omega)
      have hpr : mj_in (I 29 (nI j - 1)) 6 := by rw [mj_nIm1 hj1]; exact hw (j - 1) (by omega)
      refine R_seg (φ := []) (pc' := 6) (L' := [.ref 1, .int (nI m), .int g, .int (nI j)]) (st' := [.int (nI m), .int (nI j)]) (σ' := (mj_KS N, I, mj_PP (10) d r)) 2 rfl trivial ?_
      refine R_br (q := (nI j : Int32) < nI m) (t := 9) (f := 39) (rest := []) rfl (fun h1 => ?_) (fun h1 => absurd (by exact nI_lt hjm (by omega)) h1)
      refine R_seg (φ := [mj_in ((nI j) - 1) 24, mj_in (nI j) 24]) (pc' := 28) (L' := [.ref 1, .int (nI m), .int g, .int (nI j)]) (st' := [.int (I 29 (nI j)), .int (I 29 ((nI j) - 1)), .ref 10, .int g]) (σ' := (mj_KS N, I, mj_PP (10) d r)) 13 rfl ⟨hin1, hin, trivial⟩ ?_
      refine R_ce (idx := 172) (mid := 13) (kind := 3) (N := N) (M' := mj_m_X1_coldsOfStep) (As := [.ref 10, .int (I 29 ((nI j) - 1)), .int (I 29 (nI j))]) (rest := [.int g]) (I := I) (P := mj_PP (10) d r) (I' := I) (P' := mj_PP (10) d r) (v := some (.int (sp_cold (I 11) (I 29 ((nI j) - 1)) (I 29 (nI j))))) rfl rfl rfl mj_mc13 mj_dc13 rfl rfl rfl rfl rfl rfl (x_coldsOfStep l b base D z N 10 (by decide) (I 29 ((nI j) - 1)) (I 29 (nI j)) I (10) d r hpr hin6) ?_
      refine R_seg (φ := []) (pc' := 4) (L' := [.ref 1, .int (nI m), .int (g + (sp_cold (I 11) (I 29 ((nI j) - 1)) (I 29 (nI j)))), .int ((nI j) + 1)]) (st' := []) (σ' := (mj_KS N, I, mj_PP (10) d r)) 4 rfl trivial ?_
      rw [nI_1 j]
      rw [show s_X5_cw 10 m I (k + 1) j g = s_X5_cw 10 m I k (j + 1) (g + (sp_cold (I 11) (I 29 ((nI j) - 1)) (I 29 (nI j)))) from by simp only [s_X5_cw, Bool.false_eq_true, ↓reduceIte, Nat.reduceAdd, Nat.reduceMul, mj_tn0, mj_tn1, mj_tn2, mj_tn3]]
      exact ih (j + 1) (g + (sp_cold (I 11) (I 29 ((nI j) - 1)) (I 29 (nI j)))) (by omega) (by omega) (by omega)
def s_X5_coldsOfWay (cc : Nat) (m : Nat) (I : mj_I) : Int32 := s_X5_cw (cc) m I (m - 1) 1 0
set_option maxHeartbeats 8000000 in
theorem x_X5_coldsOfWay (l : Launch) (b base : Nat) (D : va_G) (z : mj_K × (Int32 → Int32)) (N : Nat) (cc : Nat) (m : Nat) (hcc : cc = 2 ∨ cc = 10) (I : mj_I) (d r : Nat) (hm : m ≤ 24) (hw : ∀ j : Nat, j < m → mj_in (I 29 (nI j)) 6) : mj_Rn l b base D z mj_m_X5_coldsOfWay 0 [.ref 1, .int (nI m), mj_mk, mj_mk] [] (mj_KS N, I, mj_PP cc d r) (mj_E N (some (.int (s_X5_coldsOfWay cc m I))) I (mj_PP cc d r)) := by
  rcases hcc with rfl | rfl
  · skip
    refine R_seg (φ := []) (pc' := 4) (L' := [.ref 1, .int (nI m), .int 0, .int 1]) (st' := []) (σ' := (mj_KS N, I, mj_PP (2) d r)) 4 rfl trivial ?_
    exact x_X5_cw l b base D z N (2) m (by decide) I d r hm hw (m - 1) 1 0 (by omega) (by omega) (by omega)
  · skip
    refine R_seg (φ := []) (pc' := 4) (L' := [.ref 1, .int (nI m), .int 0, .int 1]) (st' := []) (σ' := (mj_KS N, I, mj_PP (10) d r)) 4 rfl trivial ?_
    exact x_X5_cw l b base D z N (10) m (by decide) I d r hm hw (m - 1) 1 0 (by omega) (by omega) (by omega)
theorem mj_q3 {j p : Nat} (h : j < p) (hp : p ≤ 3) : nI j = 0 ∨ nI j = 1 ∨ nI j = 2 := by
  have : j = 0 ∨ j = 1 ∨ j = 2 := by omega
  rcases this with rfl | rfl | rfl
  · exact Or.inl rfl
  · exact Or.inr (Or.inl rfl)
  · exact Or.inr (Or.inr rfl)
def s_X5_re (cc : Nat) (m : Nat) (p : Nat) (I : mj_I) : Nat → Nat → Int32 → Int32
  | 0, j, g => g
  | k + 1, j, g => if ((s_X5_growthAtEnd (cc) m (nI j) I) : Int32) = 6 then (s_X5_re cc m p I k (j + 1) (g ||| (1 <<< ((nI j) &&& 31)))) else (s_X5_re cc m p I k (j + 1) g)
set_option maxHeartbeats 8000000 in
theorem x_X5_re (l : Launch) (b base : Nat) (D : va_G) (z : mj_K × (Int32 → Int32)) (N : Nat) (cc : Nat) (m : Nat) (p : Nat) (hcc : cc = 2 ∨ cc = 10) (I : mj_I) (d r : Nat) (hm : m ≤ 24) (hw : ∀ j : Nat, j < m → mj_in (I 29 (nI j)) 6) (hp : I cc 1 = nI p) (hp3 : p ≤ 3) : ∀ (k j : Nat) (g : Int32), k = p - j → 0 ≤ j → j ≤ p + 1 → mj_Rn l b base D z mj_m_X5_ripeAtEnd 4 [.ref 1, .int (nI m), .int g, .int (nI j)] [] (mj_KS N, I, mj_PP cc d r) (mj_E N (some (.int (s_X5_re cc m p I k j g))) I (mj_PP cc d r)) := by
  rcases hcc with rfl | rfl
  · skip
    intro k
    induction k with
    | zero =>
      intro j g hk hlo hj
      refine R_seg (φ := []) (pc' := 12) (L' := [.ref 1, .int (nI m), .int g, .int (nI j)]) (st' := [.int (I 2 1), .int (nI j)]) (σ' := (mj_KS N, I, mj_PP (2) d r)) 4 rfl trivial ?_
      refine R_br (q := (nI j : Int32) < I 2 1) (t := 15) (f := 38) (rest := []) rfl (fun h1 => absurd h1 (by rw [hp]; exact nI_nlt (by omega) (by omega))) (fun h1 => ?_)
      refine R_seg (φ := []) (pc' := 39) (L' := [.ref 1, .int (nI m), .int g, .int (nI j)]) (st' := [.int g]) (σ' := (mj_KS N, I, mj_PP (2) d r)) 1 rfl trivial ?_
      exact R_ri rfl rfl (mj_leaf (by simp only [s_X5_re, Bool.false_eq_true, ↓reduceIte, Nat.reduceAdd, Nat.reduceMul, mj_tn0, mj_tn1, mj_tn2, mj_tn3]) (by simp only [s_X5_re, Bool.false_eq_true, ↓reduceIte, Nat.reduceAdd, Nat.reduceMul, mj_tn0, mj_tn1, mj_tn2, mj_tn3]))
    | succ k ih =>
      intro j g hk hlo hj
      have hjm : j < p := by omega
      have hq := mj_q3 hjm hp3
      refine R_seg (φ := []) (pc' := 12) (L' := [.ref 1, .int (nI m), .int g, .int (nI j)]) (st' := [.int (I 2 1), .int (nI j)]) (σ' := (mj_KS N, I, mj_PP (2) d r)) 4 rfl trivial ?_
      refine R_br (q := (nI j : Int32) < I 2 1) (t := 15) (f := 38) (rest := []) rfl (fun h1 => ?_) (fun h1 => absurd (by rw [hp]; exact nI_lt hjm (by omega)) h1)
      refine R_seg (φ := []) (pc' := 18) (L' := [.ref 1, .int (nI m), .int g, .int (nI j)]) (st' := [.int (nI m), .int (nI j), .ref 1]) (σ' := (mj_KS N, I, mj_PP (2) d r)) 3 rfl trivial ?_
      refine R_ce (idx := 166) (mid := 53) (kind := 0) (N := N) (M' := mj_m_X5_growthAtEnd) (As := [.ref 1, .int (nI j), .int (nI m)]) (rest := []) (I := I) (P := mj_PP (2) d r) (I' := I) (P' := mj_PP (2) d r) (v := some (.int (s_X5_growthAtEnd (2) m (nI j) I))) rfl rfl rfl mj_mc53 mj_dc53 rfl rfl rfl rfl rfl rfl (x_X5_growthAtEnd l b base D z N (2) m (nI j) (by decide) I d r hm hw hq) ?_
      refine R_seg (φ := []) (pc' := 23) (L' := [.ref 1, .int (nI m), .int g, .int (nI j)]) (st' := [.int 6, .int (s_X5_growthAtEnd (2) m (nI j) I)]) (σ' := (mj_KS N, I, mj_PP (2) d r)) 1 rfl trivial ?_
      refine R_br (q := ((s_X5_growthAtEnd (2) m (nI j) I) : Int32) = 6) (t := 26) (f := 32) (rest := []) rfl (fun h2 => ?_) (fun h2 => ?_)
      · skip
        refine R_seg (φ := []) (pc' := 4) (L' := [.ref 1, .int (nI m), .int (g ||| (1 <<< ((nI j) &&& 31))), .int ((nI j) + 1)]) (st' := []) (σ' := (mj_KS N, I, mj_PP (2) d r)) 8 rfl trivial ?_
        rw [nI_1 j]
        rw [show s_X5_re 2 m p I (k + 1) j g = s_X5_re 2 m p I k (j + 1) (g ||| (1 <<< ((nI j) &&& 31))) from by simp only [s_X5_re, if_pos h2, Bool.false_eq_true, ↓reduceIte, Nat.reduceAdd, Nat.reduceMul, mj_tn0, mj_tn1, mj_tn2, mj_tn3]]
        exact ih (j + 1) (g ||| (1 <<< ((nI j) &&& 31))) (by omega) (by omega) (by omega)
      · skip
        refine R_seg (φ := []) (pc' := 4) (L' := [.ref 1, .int (nI m), .int g, .int ((nI j) + 1)]) (st' := []) (σ' := (mj_KS N, I, mj_PP (2) d r)) 2 rfl trivial ?_
        rw [nI_1 j]
        rw [show s_X5_re 2 m p I (k + 1) j g = s_X5_re 2 m p I k (j + 1) g from by simp only [s_X5_re, if_neg h2, Bool.false_eq_true, ↓reduceIte, Nat.reduceAdd, Nat.reduceMul, mj_tn0, mj_tn1, mj_tn2, mj_tn3]]
        exact ih (j + 1) g (by omega) (by omega) (by omega)
  · skip
    intro k
    induction k with
    | zero =>
      intro j g hk hlo hj
      refine R_seg (φ := []) (pc' := 12) (L' := [.ref 1, .int (nI m), .int g, .int (nI j)]) (st' := [.int (I 10 1), .int (nI j)]) (σ' := (mj_KS N, I, mj_PP (10) d r)) 4 rfl trivial ?_
      refine R_br (q := (nI j : Int32) < I 10 1) (t := 15) (f := 38) (rest := []) rfl (fun h1 => absurd h1 (by rw [hp]; exact nI_nlt (by omega) (by omega))) (fun h1 => ?_)
      refine R_seg (φ := []) (pc' := 39) (L' := [.ref 1, .int (nI m), .int g, .int (nI j)]) (st' := [.int g]) (σ' := (mj_KS N, I, mj_PP (10) d r)) 1 rfl trivial ?_
      exact R_ri rfl rfl (mj_leaf (by simp only [s_X5_re, Bool.false_eq_true, ↓reduceIte, Nat.reduceAdd, Nat.reduceMul, mj_tn0, mj_tn1, mj_tn2, mj_tn3]) (by simp only [s_X5_re, Bool.false_eq_true, ↓reduceIte, Nat.reduceAdd, Nat.reduceMul, mj_tn0, mj_tn1, mj_tn2, mj_tn3]))
    | succ k ih =>
      intro j g hk hlo hj
      have hjm : j < p := by omega
      have hq := mj_q3 hjm hp3
      refine R_seg (φ := []) (pc' := 12) (L' := [.ref 1, .int (nI m), .int g, .int (nI j)]) (st' := [.int (I 10 1), .int (nI j)]) (σ' := (mj_KS N, I, mj_PP (10) d r)) 4 rfl trivial ?_
      refine R_br (q := (nI j : Int32) < I 10 1) (t := 15) (f := 38) (rest := []) rfl (fun h1 => ?_) (fun h1 => absurd (by rw [hp]; exact nI_lt hjm (by omega)) h1)
      refine R_seg (φ := []) (pc' := 18) (L' := [.ref 1, .int (nI m), .int g, .int (nI j)]) (st' := [.int (nI m), .int (nI j), .ref 1]) (σ' := (mj_KS N, I, mj_PP (10) d r)) 3 rfl trivial ?_
      refine R_ce (idx := 166) (mid := 53) (kind := 0) (N := N) (M' := mj_m_X5_growthAtEnd) (As := [.ref 1, .int (nI j), .int (nI m)]) (rest := []) (I := I) (P := mj_PP (10) d r) (I' := I) (P' := mj_PP (10) d r) (v := some (.int (s_X5_growthAtEnd (10) m (nI j) I))) rfl rfl rfl mj_mc53 mj_dc53 rfl rfl rfl rfl rfl rfl (x_X5_growthAtEnd l b base D z N (10) m (nI j) (by decide) I d r hm hw hq) ?_
      refine R_seg (φ := []) (pc' := 23) (L' := [.ref 1, .int (nI m), .int g, .int (nI j)]) (st' := [.int 6, .int (s_X5_growthAtEnd (10) m (nI j) I)]) (σ' := (mj_KS N, I, mj_PP (10) d r)) 1 rfl trivial ?_
      refine R_br (q := ((s_X5_growthAtEnd (10) m (nI j) I) : Int32) = 6) (t := 26) (f := 32) (rest := []) rfl (fun h2 => ?_) (fun h2 => ?_)
      · skip
        refine R_seg (φ := []) (pc' := 4) (L' := [.ref 1, .int (nI m), .int (g ||| (1 <<< ((nI j) &&& 31))), .int ((nI j) + 1)]) (st' := []) (σ' := (mj_KS N, I, mj_PP (10) d r)) 8 rfl trivial ?_
        rw [nI_1 j]
        rw [show s_X5_re 10 m p I (k + 1) j g = s_X5_re 10 m p I k (j + 1) (g ||| (1 <<< ((nI j) &&& 31))) from by simp only [s_X5_re, if_pos h2, Bool.false_eq_true, ↓reduceIte, Nat.reduceAdd, Nat.reduceMul, mj_tn0, mj_tn1, mj_tn2, mj_tn3]]
        exact ih (j + 1) (g ||| (1 <<< ((nI j) &&& 31))) (by omega) (by omega) (by omega)
      · skip
        refine R_seg (φ := []) (pc' := 4) (L' := [.ref 1, .int (nI m), .int g, .int ((nI j) + 1)]) (st' := []) (σ' := (mj_KS N, I, mj_PP (10) d r)) 2 rfl trivial ?_
        rw [nI_1 j]
        rw [show s_X5_re 10 m p I (k + 1) j g = s_X5_re 10 m p I k (j + 1) g from by simp only [s_X5_re, if_neg h2, Bool.false_eq_true, ↓reduceIte, Nat.reduceAdd, Nat.reduceMul, mj_tn0, mj_tn1, mj_tn2, mj_tn3]]
        exact ih (j + 1) g (by omega) (by omega) (by omega)
def s_X5_ripeAtEnd (cc : Nat) (m : Nat) (p : Nat) (I : mj_I) : Int32 := s_X5_re (cc) m p I p 0 0
set_option maxHeartbeats 8000000 in
theorem x_X5_ripeAtEnd (l : Launch) (b base : Nat) (D : va_G) (z : mj_K × (Int32 → Int32)) (N : Nat) (cc : Nat) (m : Nat) (p : Nat) (hcc : cc = 2 ∨ cc = 10) (I : mj_I) (d r : Nat) (hm : m ≤ 24) (hw : ∀ j : Nat, j < m → mj_in (I 29 (nI j)) 6) (hp : I cc 1 = nI p) (hp3 : p ≤ 3) : mj_Rn l b base D z mj_m_X5_ripeAtEnd 0 [.ref 1, .int (nI m), mj_mk, mj_mk] [] (mj_KS N, I, mj_PP cc d r) (mj_E N (some (.int (s_X5_ripeAtEnd cc m p I))) I (mj_PP cc d r)) := by
  rcases hcc with rfl | rfl
  · skip
    refine R_seg (φ := []) (pc' := 4) (L' := [.ref 1, .int (nI m), .int 0, .int 0]) (st' := []) (σ' := (mj_KS N, I, mj_PP (2) d r)) 4 rfl trivial ?_
    exact x_X5_re l b base D z N (2) m p (by decide) I d r hm hw hp hp3 p 0 0 (by omega) (by omega) (by omega)
  · skip
    refine R_seg (φ := []) (pc' := 4) (L' := [.ref 1, .int (nI m), .int 0, .int 0]) (st' := []) (σ' := (mj_KS N, I, mj_PP (10) d r)) 4 rfl trivial ?_
    exact x_X5_re l b base D z N (10) m p (by decide) I d r hm hw hp hp3 p 0 0 (by omega) (by omega) (by omega)
theorem mj_hasq {n s : Int32} {p : Nat} (h : sp_has n s = true) (hn : n = nI p) (hp : p ≤ 3) : s = 0 ∨ s = 1 ∨ s = 2 := mj_has3 h (by rw [hn, nI_toInt (by omega)]; omega)
def s_X5_ofWay (cc : Nat) (m : Nat) (p : Nat) (w : Int32) (I : mj_I) : Int32 := if (w : Int32) = 1 then (s_X5_firstWrong (cc) m I) else (if ((s_X5_firstWrong (cc) m I) : Int32) = (-9) then (if (w : Int32) = 0 then (s_X5_ripeAtEnd (cc) m p I) else (if (w : Int32) = 2 then (s_X5_coldsOfWay (cc) m I) else (if sp_has (I cc 1) (w - w / 10 * 10) then (if (w : Int32) < 20 then (s_X5_ripeDay (cc) m (w - w / 10 * 10) I) else ((s_X5_growthAtEnd (cc) m (w - w / 10 * 10) I) / 2)) else (-9)))) else ((-100) - (s_X5_firstWrong (cc) m I)))
set_option maxHeartbeats 8000000 in
theorem x_X5_ofWay (l : Launch) (b base : Nat) (D : va_G) (z : mj_K × (Int32 → Int32)) (N : Nat) (cc : Nat) (m : Nat) (p : Nat) (w : Int32) (hcc : cc = 2 ∨ cc = 10) (I : mj_I) (d r : Nat) (hm : m ≤ 24) (hw : ∀ j : Nat, j < m → mj_in (I 29 (nI j)) 6) (hp : I cc 1 = nI p) (hp3 : p ≤ 3) : mj_Rn l b base D z mj_m_X5_ofWay 0 [.ref 1, .int (nI m), .int w, mj_mk, mj_mk] [] (mj_KS N, I, mj_PP cc d r) (mj_E N (some (.int (s_X5_ofWay cc m p w I))) I (mj_PP cc d r)) := by
  rcases hcc with rfl | rfl
  · skip
    refine R_seg (φ := []) (pc' := 2) (L' := [.ref 1, .int (nI m), .int w, mj_mk, mj_mk]) (st' := [.int (nI m), .ref 1]) (σ' := (mj_KS N, I, mj_PP (2) d r)) 2 rfl trivial ?_
    refine R_ce (idx := 154) (mid := 50) (kind := 0) (N := N) (M' := mj_m_X5_firstWrong) (As := [.ref 1, .int (nI m)]) (rest := []) (I := I) (P := mj_PP (2) d r) (I' := I) (P' := mj_PP (2) d r) (v := some (.int (s_X5_firstWrong (2) m I))) rfl rfl rfl mj_mc50 mj_dc50 rfl rfl rfl rfl rfl rfl (x_X5_firstWrong l b base D z N (2) m (by decide) I d r hm hw) ?_
    refine R_seg (φ := []) (pc' := 8) (L' := [.ref 1, .int (nI m), .int w, .int (s_X5_firstWrong (2) m I), mj_mk]) (st' := [.int 1, .int w]) (σ' := (mj_KS N, I, mj_PP (2) d r)) 3 rfl trivial ?_
    refine R_br (q := (w : Int32) = 1) (t := 11) (f := 13) (rest := []) rfl (fun h1 => ?_) (fun h1 => ?_)
    · skip
      refine R_seg (φ := []) (pc' := 12) (L' := [.ref 1, .int (nI m), .int w, .int (s_X5_firstWrong (2) m I), mj_mk]) (st' := [.int (s_X5_firstWrong (2) m I)]) (σ' := (mj_KS N, I, mj_PP (2) d r)) 1 rfl trivial ?_
      exact R_ri rfl rfl (mj_leaf (by simp only [s_X5_ofWay, if_pos h1, Bool.false_eq_true, ↓reduceIte, Nat.reduceAdd, Nat.reduceMul, mj_tn0, mj_tn1, mj_tn2, mj_tn3]) (by simp only [s_X5_ofWay, if_pos h1, Bool.false_eq_true, ↓reduceIte, Nat.reduceAdd, Nat.reduceMul, mj_tn0, mj_tn1, mj_tn2, mj_tn3]))
    · skip
      refine R_seg (φ := []) (pc' := 16) (L' := [.ref 1, .int (nI m), .int w, .int (s_X5_firstWrong (2) m I), mj_mk]) (st' := [.int (-9), .int (s_X5_firstWrong (2) m I)]) (σ' := (mj_KS N, I, mj_PP (2) d r)) 2 rfl trivial ?_
      refine R_br (q := ((s_X5_firstWrong (2) m I) : Int32) = (-9)) (t := 24) (f := 19) (rest := []) rfl (fun h2 => ?_) (fun h2 => ?_)
      · skip
        refine R_seg (φ := []) (pc' := 25) (L' := [.ref 1, .int (nI m), .int w, .int (s_X5_firstWrong (2) m I), mj_mk]) (st' := [.int w]) (σ' := (mj_KS N, I, mj_PP (2) d r)) 1 rfl trivial ?_
        refine R_br (q := (w : Int32) = 0) (t := 28) (f := 34) (rest := []) rfl (fun h3 => ?_) (fun h3 => ?_)
        · skip
          refine R_seg (φ := []) (pc' := 30) (L' := [.ref 1, .int (nI m), .int w, .int (s_X5_firstWrong (2) m I), mj_mk]) (st' := [.int (nI m), .ref 1]) (σ' := (mj_KS N, I, mj_PP (2) d r)) 2 rfl trivial ?_
          refine R_ce (idx := 157) (mid := 51) (kind := 0) (N := N) (M' := mj_m_X5_ripeAtEnd) (As := [.ref 1, .int (nI m)]) (rest := []) (I := I) (P := mj_PP (2) d r) (I' := I) (P' := mj_PP (2) d r) (v := some (.int (s_X5_ripeAtEnd (2) m p I))) rfl rfl rfl mj_mc51 mj_dc51 rfl rfl rfl rfl rfl rfl (x_X5_ripeAtEnd l b base D z N (2) m p (by decide) I d r hm hw hp hp3) ?_
          refine R_seg (φ := []) (pc' := 33) (L' := [.ref 1, .int (nI m), .int w, .int (s_X5_firstWrong (2) m I), mj_mk]) (st' := [.int (s_X5_ripeAtEnd (2) m p I)]) (σ' := (mj_KS N, I, mj_PP (2) d r)) 0 rfl trivial ?_
          exact R_ri rfl rfl (mj_leaf (by simp only [s_X5_ofWay, if_neg h1, if_pos h2, if_pos h3, Bool.false_eq_true, ↓reduceIte, Nat.reduceAdd, Nat.reduceMul, mj_tn0, mj_tn1, mj_tn2, mj_tn3]) (by simp only [s_X5_ofWay, if_neg h1, if_pos h2, if_pos h3, Bool.false_eq_true, ↓reduceIte, Nat.reduceAdd, Nat.reduceMul, mj_tn0, mj_tn1, mj_tn2, mj_tn3]))
        · skip
          refine R_seg (φ := []) (pc' := 36) (L' := [.ref 1, .int (nI m), .int w, .int (s_X5_firstWrong (2) m I), mj_mk]) (st' := [.int 2, .int w]) (σ' := (mj_KS N, I, mj_PP (2) d r)) 2 rfl trivial ?_
          refine R_br (q := (w : Int32) = 2) (t := 39) (f := 45) (rest := []) rfl (fun h4 => ?_) (fun h4 => ?_)
          · skip
            refine R_seg (φ := []) (pc' := 41) (L' := [.ref 1, .int (nI m), .int w, .int (s_X5_firstWrong (2) m I), mj_mk]) (st' := [.int (nI m), .ref 1]) (σ' := (mj_KS N, I, mj_PP (2) d r)) 2 rfl trivial ?_
            refine R_ce (idx := 160) (mid := 52) (kind := 0) (N := N) (M' := mj_m_X5_coldsOfWay) (As := [.ref 1, .int (nI m)]) (rest := []) (I := I) (P := mj_PP (2) d r) (I' := I) (P' := mj_PP (2) d r) (v := some (.int (s_X5_coldsOfWay (2) m I))) rfl rfl rfl mj_mc52 mj_dc52 rfl rfl rfl rfl rfl rfl (x_X5_coldsOfWay l b base D z N (2) m (by decide) I d r hm hw) ?_
            refine R_seg (φ := []) (pc' := 44) (L' := [.ref 1, .int (nI m), .int w, .int (s_X5_firstWrong (2) m I), mj_mk]) (st' := [.int (s_X5_coldsOfWay (2) m I)]) (σ' := (mj_KS N, I, mj_PP (2) d r)) 0 rfl trivial ?_
            exact R_ri rfl rfl (mj_leaf (by simp only [s_X5_ofWay, if_neg h1, if_pos h2, if_neg h3, if_pos h4, Bool.false_eq_true, ↓reduceIte, Nat.reduceAdd, Nat.reduceMul, mj_tn0, mj_tn1, mj_tn2, mj_tn3]) (by simp only [s_X5_ofWay, if_neg h1, if_pos h2, if_neg h3, if_pos h4, Bool.false_eq_true, ↓reduceIte, Nat.reduceAdd, Nat.reduceMul, mj_tn0, mj_tn1, mj_tn2, mj_tn3]))
          · skip
            refine R_seg (φ := [¬ (10 : Int32) = 0]) (pc' := 57) (L' := [.ref 1, .int (nI m), .int w, .int (s_X5_firstWrong (2) m I), .int (w - w / 10 * 10)]) (st' := [.int (w - w / 10 * 10), .ref 2]) (σ' := (mj_KS N, I, mj_PP (2) d r)) 7 rfl ⟨by decide, trivial⟩ ?_
            refine R_ce (idx := 119) (mid := 8) (kind := 3) (N := N) (M' := mj_m_X1_hasPlant) (As := [.ref 2, .int (w - w / 10 * 10)]) (rest := []) (I := I) (P := mj_PP (2) d r) (I' := I) (P' := mj_PP (2) d r) (v := some (.int (bI (sp_has (I 2 1) (w - w / 10 * 10))))) rfl rfl rfl mj_mc8 mj_dc8 rfl rfl rfl rfl rfl rfl (x_hasPlant l b base D z N 2 (by decide) (w - w / 10 * 10) I (2) d r) ?_
            refine R_seg (φ := []) (pc' := 60) (L' := [.ref 1, .int (nI m), .int w, .int (s_X5_firstWrong (2) m I), .int (w - w / 10 * 10)]) (st' := [.int (bI (sp_has (I 2 1) (w - w / 10 * 10)))]) (σ' := (mj_KS N, I, mj_PP (2) d r)) 0 rfl trivial ?_
            refine R_br (q := (bI (sp_has (I 2 1) (w - w / 10 * 10)) : Int32) = 0) (t := 63) (f := 66) (rest := []) rfl (fun h5 => ?_) (fun h5 => ?_)
            · skip
              replace h5 := bI_0.mp h5
              refine R_seg (φ := []) (pc' := 65) (L' := [.ref 1, .int (nI m), .int w, .int (s_X5_firstWrong (2) m I), .int (w - w / 10 * 10)]) (st' := [.int (-9)]) (σ' := (mj_KS N, I, mj_PP (2) d r)) 1 rfl trivial ?_
              exact R_ri rfl rfl (mj_leaf (by simp only [s_X5_ofWay, if_neg h1, if_pos h2, if_neg h3, if_neg h4, h5, Bool.false_eq_true, ↓reduceIte, Nat.reduceAdd, Nat.reduceMul, mj_tn0, mj_tn1, mj_tn2, mj_tn3]) (by simp only [s_X5_ofWay, if_neg h1, if_pos h2, if_neg h3, if_neg h4, h5, Bool.false_eq_true, ↓reduceIte, Nat.reduceAdd, Nat.reduceMul, mj_tn0, mj_tn1, mj_tn2, mj_tn3]))
            · skip
              replace h5 := bI_1 h5
              refine R_seg (φ := []) (pc' := 69) (L' := [.ref 1, .int (nI m), .int w, .int (s_X5_firstWrong (2) m I), .int (w - w / 10 * 10)]) (st' := [.int 20, .int w]) (σ' := (mj_KS N, I, mj_PP (2) d r)) 2 rfl trivial ?_
              refine R_br (q := (w : Int32) < 20) (t := 72) (f := 82) (rest := []) rfl (fun h6 => ?_) (fun h6 => ?_)
              · skip
                refine R_seg (φ := []) (pc' := 76) (L' := [.ref 1, .int (nI m), .int w, .int (s_X5_firstWrong (2) m I), .int (w - w / 10 * 10)]) (st' := [.int (nI m), .int (w - w / 10 * 10), .ref 1]) (σ' := (mj_KS N, I, mj_PP (2) d r)) 3 rfl trivial ?_
                refine R_ce (idx := 163) (mid := 54) (kind := 0) (N := N) (M' := mj_m_X5_ripeDay) (As := [.ref 1, .int (w - w / 10 * 10), .int (nI m)]) (rest := []) (I := I) (P := mj_PP (2) d r) (I' := I) (P' := mj_PP (2) d r) (v := some (.int (s_X5_ripeDay (2) m (w - w / 10 * 10) I))) rfl rfl rfl mj_mc54 mj_dc54 rfl rfl rfl rfl rfl rfl (x_X5_ripeDay l b base D z N (2) m (w - w / 10 * 10) (by decide) I d r hm hw (mj_hasq (by assumption) hp hp3)) ?_
                refine R_seg (φ := []) (pc' := 91) (L' := [.ref 1, .int (nI m), .int w, .int (s_X5_firstWrong (2) m I), .int (w - w / 10 * 10)]) (st' := [.int (s_X5_ripeDay (2) m (w - w / 10 * 10) I)]) (σ' := (mj_KS N, I, mj_PP (2) d r)) 1 rfl trivial ?_
                exact R_ri rfl rfl (mj_leaf (by simp only [s_X5_ofWay, if_neg h1, if_pos h2, if_neg h3, if_neg h4, h5, if_pos h6, Bool.false_eq_true, ↓reduceIte, Nat.reduceAdd, Nat.reduceMul, mj_tn0, mj_tn1, mj_tn2, mj_tn3]) (by simp only [s_X5_ofWay, if_neg h1, if_pos h2, if_neg h3, if_neg h4, h5, if_pos h6, Bool.false_eq_true, ↓reduceIte, Nat.reduceAdd, Nat.reduceMul, mj_tn0, mj_tn1, mj_tn2, mj_tn3]))
              · skip
                refine R_seg (φ := []) (pc' := 86) (L' := [.ref 1, .int (nI m), .int w, .int (s_X5_firstWrong (2) m I), .int (w - w / 10 * 10)]) (st' := [.int (nI m), .int (w - w / 10 * 10), .ref 1]) (σ' := (mj_KS N, I, mj_PP (2) d r)) 3 rfl trivial ?_
                refine R_ce (idx := 166) (mid := 53) (kind := 0) (N := N) (M' := mj_m_X5_growthAtEnd) (As := [.ref 1, .int (w - w / 10 * 10), .int (nI m)]) (rest := []) (I := I) (P := mj_PP (2) d r) (I' := I) (P' := mj_PP (2) d r) (v := some (.int (s_X5_growthAtEnd (2) m (w - w / 10 * 10) I))) rfl rfl rfl mj_mc53 mj_dc53 rfl rfl rfl rfl rfl rfl (x_X5_growthAtEnd l b base D z N (2) m (w - w / 10 * 10) (by decide) I d r hm hw (mj_hasq (by assumption) hp hp3)) ?_
                refine R_seg (φ := [¬ (2 : Int32) = 0]) (pc' := 91) (L' := [.ref 1, .int (nI m), .int w, .int (s_X5_firstWrong (2) m I), .int (w - w / 10 * 10)]) (st' := [.int ((s_X5_growthAtEnd (2) m (w - w / 10 * 10) I) / 2)]) (σ' := (mj_KS N, I, mj_PP (2) d r)) 2 rfl ⟨by decide, trivial⟩ ?_
                exact R_ri rfl rfl (mj_leaf (by simp only [s_X5_ofWay, if_neg h1, if_pos h2, if_neg h3, if_neg h4, h5, if_neg h6, Bool.false_eq_true, ↓reduceIte, Nat.reduceAdd, Nat.reduceMul, mj_tn0, mj_tn1, mj_tn2, mj_tn3]) (by simp only [s_X5_ofWay, if_neg h1, if_pos h2, if_neg h3, if_neg h4, h5, if_neg h6, Bool.false_eq_true, ↓reduceIte, Nat.reduceAdd, Nat.reduceMul, mj_tn0, mj_tn1, mj_tn2, mj_tn3]))
      · skip
        refine R_seg (φ := []) (pc' := 23) (L' := [.ref 1, .int (nI m), .int w, .int (s_X5_firstWrong (2) m I), mj_mk]) (st' := [.int ((-100) - (s_X5_firstWrong (2) m I))]) (σ' := (mj_KS N, I, mj_PP (2) d r)) 3 rfl trivial ?_
        exact R_ri rfl rfl (mj_leaf (by simp only [s_X5_ofWay, if_neg h1, if_neg h2, Bool.false_eq_true, ↓reduceIte, Nat.reduceAdd, Nat.reduceMul, mj_tn0, mj_tn1, mj_tn2, mj_tn3]) (by simp only [s_X5_ofWay, if_neg h1, if_neg h2, Bool.false_eq_true, ↓reduceIte, Nat.reduceAdd, Nat.reduceMul, mj_tn0, mj_tn1, mj_tn2, mj_tn3]))
  · skip
    refine R_seg (φ := []) (pc' := 2) (L' := [.ref 1, .int (nI m), .int w, mj_mk, mj_mk]) (st' := [.int (nI m), .ref 1]) (σ' := (mj_KS N, I, mj_PP (10) d r)) 2 rfl trivial ?_
    refine R_ce (idx := 154) (mid := 50) (kind := 0) (N := N) (M' := mj_m_X5_firstWrong) (As := [.ref 1, .int (nI m)]) (rest := []) (I := I) (P := mj_PP (10) d r) (I' := I) (P' := mj_PP (10) d r) (v := some (.int (s_X5_firstWrong (10) m I))) rfl rfl rfl mj_mc50 mj_dc50 rfl rfl rfl rfl rfl rfl (x_X5_firstWrong l b base D z N (10) m (by decide) I d r hm hw) ?_
    refine R_seg (φ := []) (pc' := 8) (L' := [.ref 1, .int (nI m), .int w, .int (s_X5_firstWrong (10) m I), mj_mk]) (st' := [.int 1, .int w]) (σ' := (mj_KS N, I, mj_PP (10) d r)) 3 rfl trivial ?_
    refine R_br (q := (w : Int32) = 1) (t := 11) (f := 13) (rest := []) rfl (fun h1 => ?_) (fun h1 => ?_)
    · skip
      refine R_seg (φ := []) (pc' := 12) (L' := [.ref 1, .int (nI m), .int w, .int (s_X5_firstWrong (10) m I), mj_mk]) (st' := [.int (s_X5_firstWrong (10) m I)]) (σ' := (mj_KS N, I, mj_PP (10) d r)) 1 rfl trivial ?_
      exact R_ri rfl rfl (mj_leaf (by simp only [s_X5_ofWay, if_pos h1, Bool.false_eq_true, ↓reduceIte, Nat.reduceAdd, Nat.reduceMul, mj_tn0, mj_tn1, mj_tn2, mj_tn3]) (by simp only [s_X5_ofWay, if_pos h1, Bool.false_eq_true, ↓reduceIte, Nat.reduceAdd, Nat.reduceMul, mj_tn0, mj_tn1, mj_tn2, mj_tn3]))
    · skip
      refine R_seg (φ := []) (pc' := 16) (L' := [.ref 1, .int (nI m), .int w, .int (s_X5_firstWrong (10) m I), mj_mk]) (st' := [.int (-9), .int (s_X5_firstWrong (10) m I)]) (σ' := (mj_KS N, I, mj_PP (10) d r)) 2 rfl trivial ?_
      refine R_br (q := ((s_X5_firstWrong (10) m I) : Int32) = (-9)) (t := 24) (f := 19) (rest := []) rfl (fun h2 => ?_) (fun h2 => ?_)
      · skip
        refine R_seg (φ := []) (pc' := 25) (L' := [.ref 1, .int (nI m), .int w, .int (s_X5_firstWrong (10) m I), mj_mk]) (st' := [.int w]) (σ' := (mj_KS N, I, mj_PP (10) d r)) 1 rfl trivial ?_
        refine R_br (q := (w : Int32) = 0) (t := 28) (f := 34) (rest := []) rfl (fun h3 => ?_) (fun h3 => ?_)
        · skip
          refine R_seg (φ := []) (pc' := 30) (L' := [.ref 1, .int (nI m), .int w, .int (s_X5_firstWrong (10) m I), mj_mk]) (st' := [.int (nI m), .ref 1]) (σ' := (mj_KS N, I, mj_PP (10) d r)) 2 rfl trivial ?_
          refine R_ce (idx := 157) (mid := 51) (kind := 0) (N := N) (M' := mj_m_X5_ripeAtEnd) (As := [.ref 1, .int (nI m)]) (rest := []) (I := I) (P := mj_PP (10) d r) (I' := I) (P' := mj_PP (10) d r) (v := some (.int (s_X5_ripeAtEnd (10) m p I))) rfl rfl rfl mj_mc51 mj_dc51 rfl rfl rfl rfl rfl rfl (x_X5_ripeAtEnd l b base D z N (10) m p (by decide) I d r hm hw hp hp3) ?_
          refine R_seg (φ := []) (pc' := 33) (L' := [.ref 1, .int (nI m), .int w, .int (s_X5_firstWrong (10) m I), mj_mk]) (st' := [.int (s_X5_ripeAtEnd (10) m p I)]) (σ' := (mj_KS N, I, mj_PP (10) d r)) 0 rfl trivial ?_
          exact R_ri rfl rfl (mj_leaf (by simp only [s_X5_ofWay, if_neg h1, if_pos h2, if_pos h3, Bool.false_eq_true, ↓reduceIte, Nat.reduceAdd, Nat.reduceMul, mj_tn0, mj_tn1, mj_tn2, mj_tn3]) (by simp only [s_X5_ofWay, if_neg h1, if_pos h2, if_pos h3, Bool.false_eq_true, ↓reduceIte, Nat.reduceAdd, Nat.reduceMul, mj_tn0, mj_tn1, mj_tn2, mj_tn3]))
        · skip
          refine R_seg (φ := []) (pc' := 36) (L' := [.ref 1, .int (nI m), .int w, .int (s_X5_firstWrong (10) m I), mj_mk]) (st' := [.int 2, .int w]) (σ' := (mj_KS N, I, mj_PP (10) d r)) 2 rfl trivial ?_
          refine R_br (q := (w : Int32) = 2) (t := 39) (f := 45) (rest := []) rfl (fun h4 => ?_) (fun h4 => ?_)
          · skip
            refine R_seg (φ := []) (pc' := 41) (L' := [.ref 1, .int (nI m), .int w, .int (s_X5_firstWrong (10) m I), mj_mk]) (st' := [.int (nI m), .ref 1]) (σ' := (mj_KS N, I, mj_PP (10) d r)) 2 rfl trivial ?_
            refine R_ce (idx := 160) (mid := 52) (kind := 0) (N := N) (M' := mj_m_X5_coldsOfWay) (As := [.ref 1, .int (nI m)]) (rest := []) (I := I) (P := mj_PP (10) d r) (I' := I) (P' := mj_PP (10) d r) (v := some (.int (s_X5_coldsOfWay (10) m I))) rfl rfl rfl mj_mc52 mj_dc52 rfl rfl rfl rfl rfl rfl (x_X5_coldsOfWay l b base D z N (10) m (by decide) I d r hm hw) ?_
            refine R_seg (φ := []) (pc' := 44) (L' := [.ref 1, .int (nI m), .int w, .int (s_X5_firstWrong (10) m I), mj_mk]) (st' := [.int (s_X5_coldsOfWay (10) m I)]) (σ' := (mj_KS N, I, mj_PP (10) d r)) 0 rfl trivial ?_
            exact R_ri rfl rfl (mj_leaf (by simp only [s_X5_ofWay, if_neg h1, if_pos h2, if_neg h3, if_pos h4, Bool.false_eq_true, ↓reduceIte, Nat.reduceAdd, Nat.reduceMul, mj_tn0, mj_tn1, mj_tn2, mj_tn3]) (by simp only [s_X5_ofWay, if_neg h1, if_pos h2, if_neg h3, if_pos h4, Bool.false_eq_true, ↓reduceIte, Nat.reduceAdd, Nat.reduceMul, mj_tn0, mj_tn1, mj_tn2, mj_tn3]))
          · skip
            refine R_seg (φ := [¬ (10 : Int32) = 0]) (pc' := 57) (L' := [.ref 1, .int (nI m), .int w, .int (s_X5_firstWrong (10) m I), .int (w - w / 10 * 10)]) (st' := [.int (w - w / 10 * 10), .ref 10]) (σ' := (mj_KS N, I, mj_PP (10) d r)) 7 rfl ⟨by decide, trivial⟩ ?_
            refine R_ce (idx := 119) (mid := 8) (kind := 3) (N := N) (M' := mj_m_X1_hasPlant) (As := [.ref 10, .int (w - w / 10 * 10)]) (rest := []) (I := I) (P := mj_PP (10) d r) (I' := I) (P' := mj_PP (10) d r) (v := some (.int (bI (sp_has (I 10 1) (w - w / 10 * 10))))) rfl rfl rfl mj_mc8 mj_dc8 rfl rfl rfl rfl rfl rfl (x_hasPlant l b base D z N 10 (by decide) (w - w / 10 * 10) I (10) d r) ?_
            refine R_seg (φ := []) (pc' := 60) (L' := [.ref 1, .int (nI m), .int w, .int (s_X5_firstWrong (10) m I), .int (w - w / 10 * 10)]) (st' := [.int (bI (sp_has (I 10 1) (w - w / 10 * 10)))]) (σ' := (mj_KS N, I, mj_PP (10) d r)) 0 rfl trivial ?_
            refine R_br (q := (bI (sp_has (I 10 1) (w - w / 10 * 10)) : Int32) = 0) (t := 63) (f := 66) (rest := []) rfl (fun h5 => ?_) (fun h5 => ?_)
            · skip
              replace h5 := bI_0.mp h5
              refine R_seg (φ := []) (pc' := 65) (L' := [.ref 1, .int (nI m), .int w, .int (s_X5_firstWrong (10) m I), .int (w - w / 10 * 10)]) (st' := [.int (-9)]) (σ' := (mj_KS N, I, mj_PP (10) d r)) 1 rfl trivial ?_
              exact R_ri rfl rfl (mj_leaf (by simp only [s_X5_ofWay, if_neg h1, if_pos h2, if_neg h3, if_neg h4, h5, Bool.false_eq_true, ↓reduceIte, Nat.reduceAdd, Nat.reduceMul, mj_tn0, mj_tn1, mj_tn2, mj_tn3]) (by simp only [s_X5_ofWay, if_neg h1, if_pos h2, if_neg h3, if_neg h4, h5, Bool.false_eq_true, ↓reduceIte, Nat.reduceAdd, Nat.reduceMul, mj_tn0, mj_tn1, mj_tn2, mj_tn3]))
            · skip
              replace h5 := bI_1 h5
              refine R_seg (φ := []) (pc' := 69) (L' := [.ref 1, .int (nI m), .int w, .int (s_X5_firstWrong (10) m I), .int (w - w / 10 * 10)]) (st' := [.int 20, .int w]) (σ' := (mj_KS N, I, mj_PP (10) d r)) 2 rfl trivial ?_
              refine R_br (q := (w : Int32) < 20) (t := 72) (f := 82) (rest := []) rfl (fun h6 => ?_) (fun h6 => ?_)
              · skip
                refine R_seg (φ := []) (pc' := 76) (L' := [.ref 1, .int (nI m), .int w, .int (s_X5_firstWrong (10) m I), .int (w - w / 10 * 10)]) (st' := [.int (nI m), .int (w - w / 10 * 10), .ref 1]) (σ' := (mj_KS N, I, mj_PP (10) d r)) 3 rfl trivial ?_
                refine R_ce (idx := 163) (mid := 54) (kind := 0) (N := N) (M' := mj_m_X5_ripeDay) (As := [.ref 1, .int (w - w / 10 * 10), .int (nI m)]) (rest := []) (I := I) (P := mj_PP (10) d r) (I' := I) (P' := mj_PP (10) d r) (v := some (.int (s_X5_ripeDay (10) m (w - w / 10 * 10) I))) rfl rfl rfl mj_mc54 mj_dc54 rfl rfl rfl rfl rfl rfl (x_X5_ripeDay l b base D z N (10) m (w - w / 10 * 10) (by decide) I d r hm hw (mj_hasq (by assumption) hp hp3)) ?_
                refine R_seg (φ := []) (pc' := 91) (L' := [.ref 1, .int (nI m), .int w, .int (s_X5_firstWrong (10) m I), .int (w - w / 10 * 10)]) (st' := [.int (s_X5_ripeDay (10) m (w - w / 10 * 10) I)]) (σ' := (mj_KS N, I, mj_PP (10) d r)) 1 rfl trivial ?_
                exact R_ri rfl rfl (mj_leaf (by simp only [s_X5_ofWay, if_neg h1, if_pos h2, if_neg h3, if_neg h4, h5, if_pos h6, Bool.false_eq_true, ↓reduceIte, Nat.reduceAdd, Nat.reduceMul, mj_tn0, mj_tn1, mj_tn2, mj_tn3]) (by simp only [s_X5_ofWay, if_neg h1, if_pos h2, if_neg h3, if_neg h4, h5, if_pos h6, Bool.false_eq_true, ↓reduceIte, Nat.reduceAdd, Nat.reduceMul, mj_tn0, mj_tn1, mj_tn2, mj_tn3]))
              · skip
                refine R_seg (φ := []) (pc' := 86) (L' := [.ref 1, .int (nI m), .int w, .int (s_X5_firstWrong (10) m I), .int (w - w / 10 * 10)]) (st' := [.int (nI m), .int (w - w / 10 * 10), .ref 1]) (σ' := (mj_KS N, I, mj_PP (10) d r)) 3 rfl trivial ?_
                refine R_ce (idx := 166) (mid := 53) (kind := 0) (N := N) (M' := mj_m_X5_growthAtEnd) (As := [.ref 1, .int (w - w / 10 * 10), .int (nI m)]) (rest := []) (I := I) (P := mj_PP (10) d r) (I' := I) (P' := mj_PP (10) d r) (v := some (.int (s_X5_growthAtEnd (10) m (w - w / 10 * 10) I))) rfl rfl rfl mj_mc53 mj_dc53 rfl rfl rfl rfl rfl rfl (x_X5_growthAtEnd l b base D z N (10) m (w - w / 10 * 10) (by decide) I d r hm hw (mj_hasq (by assumption) hp hp3)) ?_
                refine R_seg (φ := [¬ (2 : Int32) = 0]) (pc' := 91) (L' := [.ref 1, .int (nI m), .int w, .int (s_X5_firstWrong (10) m I), .int (w - w / 10 * 10)]) (st' := [.int ((s_X5_growthAtEnd (10) m (w - w / 10 * 10) I) / 2)]) (σ' := (mj_KS N, I, mj_PP (10) d r)) 2 rfl ⟨by decide, trivial⟩ ?_
                exact R_ri rfl rfl (mj_leaf (by simp only [s_X5_ofWay, if_neg h1, if_pos h2, if_neg h3, if_neg h4, h5, if_neg h6, Bool.false_eq_true, ↓reduceIte, Nat.reduceAdd, Nat.reduceMul, mj_tn0, mj_tn1, mj_tn2, mj_tn3]) (by simp only [s_X5_ofWay, if_neg h1, if_pos h2, if_neg h3, if_neg h4, h5, if_neg h6, Bool.false_eq_true, ↓reduceIte, Nat.reduceAdd, Nat.reduceMul, mj_tn0, mj_tn1, mj_tn2, mj_tn3]))
      · skip
        refine R_seg (φ := []) (pc' := 23) (L' := [.ref 1, .int (nI m), .int w, .int (s_X5_firstWrong (10) m I), mj_mk]) (st' := [.int ((-100) - (s_X5_firstWrong (10) m I))]) (σ' := (mj_KS N, I, mj_PP (10) d r)) 3 rfl trivial ?_
        exact R_ri rfl rfl (mj_leaf (by simp only [s_X5_ofWay, if_neg h1, if_neg h2, Bool.false_eq_true, ↓reduceIte, Nat.reduceAdd, Nat.reduceMul, mj_tn0, mj_tn1, mj_tn2, mj_tn3]) (by simp only [s_X5_ofWay, if_neg h1, if_neg h2, Bool.false_eq_true, ↓reduceIte, Nat.reduceAdd, Nat.reduceMul, mj_tn0, mj_tn1, mj_tn2, mj_tn3]))
