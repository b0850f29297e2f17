/-! the class: the search -/
def s_X3_so (s : Int32) (I : mj_I) : Nat → Nat → Int32 → Int32
  | 0, j, g => g
  | k + 1, j, g => if ((s >>> ((nI j) &&& 31)) &&& 1 : Int32) = 1 then (s_X3_so s I k (j + 1) (g ||| 0)) else (s_X3_so s I k (j + 1) (g ||| (6 <<< ((3 * (nI j)) &&& 31))))
set_option maxHeartbeats 8000000 in
theorem x_X3_so (l : Launch) (b base : Nat) (D : va_G) (z : mj_K × (Int32 → Int32)) (N : Nat) (s : Int32) (I : mj_I) (c d r : Nat) : ∀ (k j : Nat) (g : Int32) (w3 : Value), k = 3 - j → 0 ≤ j → j ≤ 3 + 1 → mj_Rn l b base D z mj_m_X3_startOf 4 [.int s, .int g, .int (nI j), w3] [] (mj_KS N, I, mj_PP c d r) (mj_E N (some (.int (s_X3_so s I k j g))) I (mj_PP c d r)) := by
  intro k
  induction k with
  | zero =>
    intro j g w3 hk hlo hj
    refine R_seg (φ := []) (pc' := 6) (L' := [.int s, .int g, .int (nI j), w3]) (st' := [.int 3, .int (nI j)]) (σ' := (mj_KS N, I, mj_PP c d r)) 2 rfl trivial ?_
    refine R_br (q := (nI j : Int32) < 3) (t := 9) (f := 47) (rest := []) rfl (fun h1 => absurd h1 (show ¬ nI j < nI 3 from nI_nlt (by omega) (by omega))) (fun h1 => ?_)
    refine R_seg (φ := []) (pc' := 48) (L' := [.int s, .int g, .int (nI j), w3]) (st' := [.int g]) (σ' := (mj_KS N, I, mj_PP c d r)) 1 rfl trivial ?_
    exact R_ri rfl rfl (mj_leaf (by simp only [s_X3_so, Bool.false_eq_true, ↓reduceIte, Nat.reduceAdd, Nat.reduceMul, mj_tn0, mj_tn1, mj_tn2, mj_tn3]) (by simp only [s_X3_so, Bool.false_eq_true, ↓reduceIte, Nat.reduceAdd, Nat.reduceMul, mj_tn0, mj_tn1, mj_tn2, mj_tn3]))
  | succ k ih =>
    intro j g w3 hk hlo hj
    have hjm : j < 3 := by omega
    refine R_seg (φ := []) (pc' := 6) (L' := [.int s, .int g, .int (nI j), w3]) (st' := [.int 3, .int (nI j)]) (σ' := (mj_KS N, I, mj_PP c d r)) 2 rfl trivial ?_
    refine R_br (q := (nI j : Int32) < 3) (t := 9) (f := 47) (rest := []) rfl (fun h1 => ?_) (fun h1 => absurd (show nI j < nI 3 from nI_lt hjm (by omega)) h1)
    refine R_seg (φ := []) (pc' := 15) (L' := [.int s, .int g, .int (nI j), w3]) (st' := [.int 1, .int ((s >>> ((nI j) &&& 31)) &&& 1)]) (σ' := (mj_KS N, I, mj_PP c d r)) 6 rfl trivial ?_
    refine R_br (q := ((s >>> ((nI j) &&& 31)) &&& 1 : Int32) = 1) (t := 18) (f := 22) (rest := []) rfl (fun h2 => ?_) (fun h2 => ?_)
    · skip
      refine R_seg (φ := []) (pc' := 26) (L' := [.int s, .int g, .int (nI j), .int 1]) (st' := [.int 1, .int g]) (σ' := (mj_KS N, I, mj_PP c d r)) 5 rfl trivial ?_
      refine R_br (q := (1 : Int32) = 0) (t := 33) (f := 29) (rest := [.int g]) rfl (fun h3 => absurd h3 (by decide)) (fun h3 => ?_)
      refine R_seg (φ := []) (pc' := 4) (L' := [.int s, .int (g ||| 0), .int ((nI j) + 1), .int 1]) (st' := []) (σ' := (mj_KS N, I, mj_PP c d r)) 6 rfl trivial ?_
      rw [nI_1 j]
      rw [show s_X3_so s I (k + 1) j g = s_X3_so s I k (j + 1) (g ||| 0) from by simp only [s_X3_so, if_pos h2, Bool.false_eq_true, ↓reduceIte, Nat.reduceAdd, Nat.reduceMul, mj_tn0, mj_tn1, mj_tn2, mj_tn3]]
      exact ih (j + 1) (g ||| 0) (.int 1) (by omega) (by omega) (by omega)
    · skip
      refine R_seg (φ := []) (pc' := 26) (L' := [.int s, .int g, .int (nI j), .int 0]) (st' := [.int 0, .int g]) (σ' := (mj_KS N, I, mj_PP c d r)) 4 rfl trivial ?_
      refine R_br (q := (0 : Int32) = 0) (t := 33) (f := 29) (rest := [.int g]) rfl (fun h4 => ?_) (fun h4 => absurd (by decide) h4)
      refine R_seg (φ := []) (pc' := 4) (L' := [.int s, .int (g ||| (6 <<< ((3 * (nI j)) &&& 31))), .int ((nI j) + 1), .int 0]) (st' := []) (σ' := (mj_KS N, I, mj_PP c d r)) 9 rfl trivial ?_
      rw [nI_1 j]
      rw [show s_X3_so s I (k + 1) j g = s_X3_so s I k (j + 1) (g ||| (6 <<< ((3 * (nI j)) &&& 31))) from by simp only [s_X3_so, if_neg h2, Bool.false_eq_true, ↓reduceIte, Nat.reduceAdd, Nat.reduceMul, mj_tn0, mj_tn1, mj_tn2, mj_tn3]]
      exact ih (j + 1) (g ||| (6 <<< ((3 * (nI j)) &&& 31))) (.int 0) (by omega) (by omega) (by omega)
def s_X3_startOf (s : Int32) (I : mj_I) : Int32 := s_X3_so s I 3 0 0
set_option maxHeartbeats 8000000 in
theorem x_X3_startOf (l : Launch) (b base : Nat) (D : va_G) (z : mj_K × (Int32 → Int32)) (N : Nat) (s : Int32) (I : mj_I) (c d r : Nat) : mj_Rn l b base D z mj_m_X3_startOf 0 [.int s, mj_mk, mj_mk, mj_mk] [] (mj_KS N, I, mj_PP c d r) (mj_E N (some (.int (s_X3_startOf s I))) I (mj_PP c d r)) := by
  refine R_seg (φ := []) (pc' := 4) (L' := [.int s, .int 0, .int 0, mj_mk]) (st' := []) (σ' := (mj_KS N, I, mj_PP c d r)) 4 rfl trivial ?_
  exact x_X3_so l b base D z N s I c d r  3 0 0 mj_mk (by omega) (by omega) (by omega)
def s_X3_bd (cc : Nat) (s : Int32) (e : Int32) (I : mj_I) : Nat → Nat → Int32 → Int32
  | 0, j, g => g
  | k + 1, j, g => s_X3_bd cc s e I k (j + 1) (g ||| ((sp_g I cc (nI j) ((s >>> ((3 * (nI j)) &&& 31)) &&& 7) (I (cc + 1) e)) <<< ((3 * (nI j)) &&& 31)))
set_option maxHeartbeats 8000000 in
theorem x_X3_bd (l : Launch) (b base : Nat) (D : va_G) (z : mj_K × (Int32 → Int32)) (N : Nat) (cc : Nat) (s : Int32) (e : Int32) (hcc : cc = 2 ∨ cc = 10) (I : mj_I) (d r : Nat) (he : mj_in e 6) : ∀ (k j : Nat) (g : Int32) (w5 : Value), k = 3 - j → 0 ≤ j → j ≤ 3 + 1 → mj_Rn l b base D z mj_m_X3_behindDay 8 [.ref cc, .int s, .int e, .int g, .int (nI j), w5] [] (mj_KS N, I, mj_PP cc d r) (mj_E N (some (.int (s_X3_bd cc s e I k j g))) I (mj_PP cc d r)) := by
  rcases hcc with rfl | rfl
  · skip
    intro k
    induction k with
    | zero =>
      intro j g w5 hk hlo hj
      refine R_seg (φ := []) (pc' := 11) (L' := [.ref 2, .int s, .int e, .int g, .int (nI j), w5]) (st' := [.int 3, .int (nI j)]) (σ' := (mj_KS N, I, mj_PP (2) d r)) 2 rfl trivial ?_
      refine R_br (q := (nI j : Int32) < 3) (t := 14) (f := 53) (rest := []) rfl (fun h1 => absurd h1 (show ¬ nI j < nI 3 from nI_nlt (by omega) (by omega))) (fun h1 => ?_)
      refine R_seg (φ := []) (pc' := 54) (L' := [.ref 2, .int s, .int e, .int g, .int (nI j), w5]) (st' := [.int g]) (σ' := (mj_KS N, I, mj_PP (2) d r)) 1 rfl trivial ?_
      exact R_ri rfl rfl (mj_leaf (by simp only [s_X3_bd, Bool.false_eq_true, ↓reduceIte, Nat.reduceAdd, Nat.reduceMul, mj_tn0, mj_tn1, mj_tn2, mj_tn3]) (by simp only [s_X3_bd, Bool.false_eq_true, ↓reduceIte, Nat.reduceAdd, Nat.reduceMul, mj_tn0, mj_tn1, mj_tn2, mj_tn3]))
    | succ k ih =>
      intro j g w5 hk hlo hj
      have hjm : j < 3 := by omega
      have hq := mj_q3 hjm (Nat.le_refl 3)
      refine R_seg (φ := []) (pc' := 11) (L' := [.ref 2, .int s, .int e, .int g, .int (nI j), w5]) (st' := [.int 3, .int (nI j)]) (σ' := (mj_KS N, I, mj_PP (2) d r)) 2 rfl trivial ?_
      refine R_br (q := (nI j : Int32) < 3) (t := 14) (f := 53) (rest := []) rfl (fun h1 => ?_) (fun h1 => absurd (show nI j < nI 3 from nI_lt hjm (by omega)) h1)
      refine R_seg (φ := [mj_in e 6]) (pc' := 37) (L' := [.ref 2, .int s, .int e, .int g, .int (nI j), .int ((s >>> ((3 * (nI j)) &&& 31)) &&& 7)]) (st' := [.int (I 3 e), .int ((s >>> ((3 * (nI j)) &&& 31)) &&& 7), .int (nI j), .ref 2, .int g]) (σ' := (mj_KS N, I, mj_PP (2) d r)) 16 rfl ⟨he, trivial⟩ ?_
      refine R_ce (idx := 65) (mid := 14) (kind := 3) (N := N) (M' := mj_m_X1_grown) (As := [.ref 2, .int (nI j), .int ((s >>> ((3 * (nI j)) &&& 31)) &&& 7), .int (I 3 e)]) (rest := [.int g]) (I := I) (P := mj_PP (2) d r) (I' := I) (P' := mj_PP (2) d r) (v := some (.int (sp_g I 2 (nI j) ((s >>> ((3 * (nI j)) &&& 31)) &&& 7) (I 3 e)))) rfl rfl rfl mj_mc14 mj_dc14 rfl rfl rfl rfl rfl rfl (x_grown l b base D z N 2 (by decide) (nI j) ((s >>> ((3 * (nI j)) &&& 31)) &&& 7) (I 3 e) hq I (2) d r) ?_
      refine R_seg (φ := []) (pc' := 8) (L' := [.ref 2, .int s, .int e, .int (g ||| ((sp_g I 2 (nI j) ((s >>> ((3 * (nI j)) &&& 31)) &&& 7) (I 3 e)) <<< ((3 * (nI j)) &&& 31))), .int ((nI j) + 1), .int ((s >>> ((3 * (nI j)) &&& 31)) &&& 7)]) (st' := []) (σ' := (mj_KS N, I, mj_PP (2) d r)) 8 rfl trivial ?_
      rw [nI_1 j]
      rw [show s_X3_bd 2 s e I (k + 1) j g = s_X3_bd 2 s e I k (j + 1) (g ||| ((sp_g I 2 (nI j) ((s >>> ((3 * (nI j)) &&& 31)) &&& 7) (I 3 e)) <<< ((3 * (nI j)) &&& 31))) from by simp only [s_X3_bd, Bool.false_eq_true, ↓reduceIte, Nat.reduceAdd, Nat.reduceMul, mj_tn0, mj_tn1, mj_tn2, mj_tn3]]
      exact ih (j + 1) (g ||| ((sp_g I 2 (nI j) ((s >>> ((3 * (nI j)) &&& 31)) &&& 7) (I 3 e)) <<< ((3 * (nI j)) &&& 31))) (.int ((s >>> ((3 * (nI j)) &&& 31)) &&& 7)) (by omega) (by omega) (by omega)
  · skip
    intro k
    induction k with
    | zero =>
      intro j g w5 hk hlo hj
      refine R_seg (φ := []) (pc' := 11) (L' := [.ref 10, .int s, .int e, .int g, .int (nI j), w5]) (st' := [.int 3, .int (nI j)]) (σ' := (mj_KS N, I, mj_PP (10) d r)) 2 rfl trivial ?_
      refine R_br (q := (nI j : Int32) < 3) (t := 14) (f := 53) (rest := []) rfl (fun h1 => absurd h1 (show ¬ nI j < nI 3 from nI_nlt (by omega) (by omega))) (fun h1 => ?_)
      refine R_seg (φ := []) (pc' := 54) (L' := [.ref 10, .int s, .int e, .int g, .int (nI j), w5]) (st' := [.int g]) (σ' := (mj_KS N, I, mj_PP (10) d r)) 1 rfl trivial ?_
      exact R_ri rfl rfl (mj_leaf (by simp only [s_X3_bd, Bool.false_eq_true, ↓reduceIte, Nat.reduceAdd, Nat.reduceMul, mj_tn0, mj_tn1, mj_tn2, mj_tn3]) (by simp only [s_X3_bd, Bool.false_eq_true, ↓reduceIte, Nat.reduceAdd, Nat.reduceMul, mj_tn0, mj_tn1, mj_tn2, mj_tn3]))
    | succ k ih =>
      intro j g w5 hk hlo hj
      have hjm : j < 3 := by omega
      have hq := mj_q3 hjm (Nat.le_refl 3)
      refine R_seg (φ := []) (pc' := 11) (L' := [.ref 10, .int s, .int e, .int g, .int (nI j), w5]) (st' := [.int 3, .int (nI j)]) (σ' := (mj_KS N, I, mj_PP (10) d r)) 2 rfl trivial ?_
      refine R_br (q := (nI j : Int32) < 3) (t := 14) (f := 53) (rest := []) rfl (fun h1 => ?_) (fun h1 => absurd (show nI j < nI 3 from nI_lt hjm (by omega)) h1)
      refine R_seg (φ := [mj_in e 6]) (pc' := 37) (L' := [.ref 10, .int s, .int e, .int g, .int (nI j), .int ((s >>> ((3 * (nI j)) &&& 31)) &&& 7)]) (st' := [.int (I 11 e), .int ((s >>> ((3 * (nI j)) &&& 31)) &&& 7), .int (nI j), .ref 10, .int g]) (σ' := (mj_KS N, I, mj_PP (10) d r)) 16 rfl ⟨he, trivial⟩ ?_
      refine R_ce (idx := 65) (mid := 14) (kind := 3) (N := N) (M' := mj_m_X1_grown) (As := [.ref 10, .int (nI j), .int ((s >>> ((3 * (nI j)) &&& 31)) &&& 7), .int (I 11 e)]) (rest := [.int g]) (I := I) (P := mj_PP (10) d r) (I' := I) (P' := mj_PP (10) d r) (v := some (.int (sp_g I 10 (nI j) ((s >>> ((3 * (nI j)) &&& 31)) &&& 7) (I 11 e)))) rfl rfl rfl mj_mc14 mj_dc14 rfl rfl rfl rfl rfl rfl (x_grown l b base D z N 10 (by decide) (nI j) ((s >>> ((3 * (nI j)) &&& 31)) &&& 7) (I 11 e) hq I (10) d r) ?_
      refine R_seg (φ := []) (pc' := 8) (L' := [.ref 10, .int s, .int e, .int (g ||| ((sp_g I 10 (nI j) ((s >>> ((3 * (nI j)) &&& 31)) &&& 7) (I 11 e)) <<< ((3 * (nI j)) &&& 31))), .int ((nI j) + 1), .int ((s >>> ((3 * (nI j)) &&& 31)) &&& 7)]) (st' := []) (σ' := (mj_KS N, I, mj_PP (10) d r)) 8 rfl trivial ?_
      rw [nI_1 j]
      rw [show s_X3_bd 10 s e I (k + 1) j g = s_X3_bd 10 s e I k (j + 1) (g ||| ((sp_g I 10 (nI j) ((s >>> ((3 * (nI j)) &&& 31)) &&& 7) (I 11 e)) <<< ((3 * (nI j)) &&& 31))) from by simp only [s_X3_bd, Bool.false_eq_true, ↓reduceIte, Nat.reduceAdd, Nat.reduceMul, mj_tn0, mj_tn1, mj_tn2, mj_tn3]]
      exact ih (j + 1) (g ||| ((sp_g I 10 (nI j) ((s >>> ((3 * (nI j)) &&& 31)) &&& 7) (I 11 e)) <<< ((3 * (nI j)) &&& 31))) (.int ((s >>> ((3 * (nI j)) &&& 31)) &&& 7)) (by omega) (by omega) (by omega)
def s_X3_behindDay (cc : Nat) (s : Int32) (e : Int32) (I : mj_I) : Int32 := s_X3_bd (cc) s e I 3 0 (e <<< (9 &&& 31))
set_option maxHeartbeats 8000000 in
theorem x_X3_behindDay (l : Launch) (b base : Nat) (D : va_G) (z : mj_K × (Int32 → Int32)) (N : Nat) (cc : Nat) (s : Int32) (e : Int32) (hcc : cc = 2 ∨ cc = 10) (I : mj_I) (d r : Nat) (he : mj_in e 6) : mj_Rn l b base D z mj_m_X3_behindDay 0 [.ref cc, .int s, .int e, mj_mk, mj_mk, mj_mk] [] (mj_KS N, I, mj_PP cc d r) (mj_E N (some (.int (s_X3_behindDay cc s e I))) I (mj_PP cc d r)) := by
  rcases hcc with rfl | rfl
  · skip
    refine R_seg (φ := []) (pc' := 8) (L' := [.ref 2, .int s, .int e, .int (e <<< (9 &&& 31)), .int 0, mj_mk]) (st' := []) (σ' := (mj_KS N, I, mj_PP (2) d r)) 6 rfl trivial ?_
    exact x_X3_bd l b base D z N (2) s e (by decide) I d r he 3 0 (e <<< (9 &&& 31)) mj_mk (by omega) (by omega) (by omega)
  · skip
    refine R_seg (φ := []) (pc' := 8) (L' := [.ref 10, .int s, .int e, .int (e <<< (9 &&& 31)), .int 0, mj_mk]) (st' := []) (σ' := (mj_KS N, I, mj_PP (10) d r)) 6 rfl trivial ?_
    exact x_X3_bd l b base D z N (10) s e (by decide) I d r he 3 0 (e <<< (9 &&& 31)) mj_mk (by omega) (by omega) (by omega)
theorem mj_rng {s M : Int32} {n : Nat} (hM : M.toInt = (n : Int)) (h1 : ¬ s < 0) (h2 : s < M) : mj_in s n := by
  have a1 := mj_i0 h1
  have a2 := mj_iL h2
  exact (show 0 ≤ s.toInt ∧ s.toInt < (n : Int) from ⟨a1, by omega⟩)
theorem mj_rng0 {s M : Int32} {n : Nat} (hM : M.toInt = (n : Int)) (h1 : 0 ≤ s.toInt) (h2 : s < M) : mj_in s n := by
  have a2 := mj_iL h2
  exact (show 0 ≤ s.toInt ∧ s.toInt < (n : Int) from ⟨h1, by omega⟩)
def s_X3_come (s : Int32) (e : Int32) (f : Int32) (I : mj_I) : mj_I := if (s : Int32) < 0 then I else (if (s : Int32) < 3072 then (if (I 20 4 : Int32) < 3072 then (if (I 23 s : Int32) = 0 then (mj_upI (mj_upI (mj_upI (mj_upI I 23 s f) 22 s e) 21 (I 20 4) s) 20 4 ((I 20 4) + 1)) else I) else I) else I)
set_option maxHeartbeats 8000000 in
theorem x_X3_come (l : Launch) (b base : Nat) (D : va_G) (z : mj_K × (Int32 → Int32)) (N : Nat) (s : Int32) (e : Int32) (f : Int32) (I : mj_I) (c d r : Nat) (hwe : 0 ≤ (I 20 4).toInt) : mj_Rn l b base D z mj_m_X3_come 0 [.ref 20, .int s, .int e, .int f] [] (mj_KS N, I, mj_PP c d r) (mj_E N none (s_X3_come s e f I) (mj_PP c d r)) := by
  refine R_seg (φ := []) (pc' := 1) (L' := [.ref 20, .int s, .int e, .int f]) (st' := [.int s]) (σ' := (mj_KS N, I, mj_PP c d r)) 1 rfl trivial ?_
  refine R_br (q := (s : Int32) < 0) (t := 21) (f := 4) (rest := []) rfl (fun h1 => ?_) (fun h1 => ?_)
  · skip
    exact R_rv rfl rfl (mj_leaf (by simp only [s_X3_come, if_pos h1, Bool.false_eq_true, ↓reduceIte, Nat.reduceAdd, Nat.reduceMul, mj_tn0, mj_tn1, mj_tn2, mj_tn3]) (by simp only [s_X3_come, if_pos h1, Bool.false_eq_true, ↓reduceIte, Nat.reduceAdd, Nat.reduceMul, mj_tn0, mj_tn1, mj_tn2, mj_tn3]))
  · skip
    refine R_seg (φ := []) (pc' := 8) (L' := [.ref 20, .int s, .int e, .int f]) (st' := [.int 3072, .int s]) (σ' := (mj_KS N, I, mj_PP c d r)) 2 rfl trivial ?_
    refine R_br (q := (s : Int32) < 3072) (t := 11) (f := 21) (rest := []) rfl (fun h2 => ?_) (fun h2 => ?_)
    · skip
      refine R_seg (φ := []) (pc' := 18) (L' := [.ref 20, .int s, .int e, .int f]) (st' := [.int 3072, .int (I 20 4)]) (σ' := (mj_KS N, I, mj_PP c d r)) 3 rfl trivial ?_
      refine R_br (q := (I 20 4 : Int32) < 3072) (t := 22) (f := 21) (rest := []) rfl (fun h3 => ?_) (fun h3 => ?_)
      · skip
        refine R_seg (φ := [mj_in s 3072]) (pc' := 28) (L' := [.ref 20, .int s, .int e, .int f]) (st' := [.int (I 23 s)]) (σ' := (mj_KS N, I, mj_PP c d r)) 4 rfl ⟨mj_rng (by decide) h1 h2, trivial⟩ ?_
        refine R_br (q := (I 23 s : Int32) = 0) (t := 32) (f := 31) (rest := []) rfl (fun h4 => ?_) (fun h4 => ?_)
        · skip
          refine R_seg (φ := [mj_in s 3072, mj_in s 3072, mj_in (I 20 4) 3072]) (pc' := 66) (L' := [.ref 20, .int s, .int e, .int f]) (st' := []) (σ' := (mj_KS N, (mj_upI (mj_upI (mj_upI (mj_upI I 23 s f) 22 s e) 21 (I 20 4) s) 20 4 ((I 20 4) + 1)), mj_PP c d r)) 22 rfl ⟨mj_rng (by decide) h1 h2, mj_rng (by decide) h1 h2, mj_rng0 (by decide) hwe h3, trivial⟩ ?_
          exact R_rv rfl rfl (mj_leaf (by simp only [s_X3_come, if_neg h1, if_pos h2, if_pos h3, if_pos h4, Bool.false_eq_true, ↓reduceIte, Nat.reduceAdd, Nat.reduceMul, mj_tn0, mj_tn1, mj_tn2, mj_tn3]) (by simp only [s_X3_come, if_neg h1, if_pos h2, if_pos h3, if_pos h4, Bool.false_eq_true, ↓reduceIte, Nat.reduceAdd, Nat.reduceMul, mj_tn0, mj_tn1, mj_tn2, mj_tn3]))
        · skip
          exact R_rv rfl rfl (mj_leaf (by simp only [s_X3_come, if_neg h1, if_pos h2, if_pos h3, if_neg h4, Bool.false_eq_true, ↓reduceIte, Nat.reduceAdd, Nat.reduceMul, mj_tn0, mj_tn1, mj_tn2, mj_tn3]) (by simp only [s_X3_come, if_neg h1, if_pos h2, if_pos h3, if_neg h4, Bool.false_eq_true, ↓reduceIte, Nat.reduceAdd, Nat.reduceMul, mj_tn0, mj_tn1, mj_tn2, mj_tn3]))
      · skip
        exact R_rv rfl rfl (mj_leaf (by simp only [s_X3_come, if_neg h1, if_pos h2, if_neg h3, Bool.false_eq_true, ↓reduceIte, Nat.reduceAdd, Nat.reduceMul, mj_tn0, mj_tn1, mj_tn2, mj_tn3]) (by simp only [s_X3_come, if_neg h1, if_pos h2, if_neg h3, Bool.false_eq_true, ↓reduceIte, Nat.reduceAdd, Nat.reduceMul, mj_tn0, mj_tn1, mj_tn2, mj_tn3]))
    · skip
      exact R_rv rfl rfl (mj_leaf (by simp only [s_X3_come, if_neg h1, if_neg h2, Bool.false_eq_true, ↓reduceIte, Nat.reduceAdd, Nat.reduceMul, mj_tn0, mj_tn1, mj_tn2, mj_tn3]) (by simp only [s_X3_come, if_neg h1, if_neg h2, Bool.false_eq_true, ↓reduceIte, Nat.reduceAdd, Nat.reduceMul, mj_tn0, mj_tn1, mj_tn2, mj_tn3]))
def mj_SQ (cc m : Nat) (I : mj_I) : Prop := I cc 0 = nI m ∧ (0 ≤ (I 20 4).toInt ∧ (I 20 4).toInt ≤ 3072) ∧ (∀ t : Nat, (t : Int) < (I 20 4).toInt → mj_in (I 21 (nI t)) 3072) ∧ (∀ y, mj_in y 3072 → (I 22 y).toInt < 3072) ∧ (∀ y, mj_in y 3072 → 0 ≤ (I 23 y).toInt ∧ (I 23 y).toInt ≤ 24)
theorem mj_come_fr (s e f : Int32) (I : mj_I) (x : Nat) (h1 : x ≠ 20) (h2 : x ≠ 21) (h3 : x ≠ 22) (h4 : x ≠ 23) : s_X3_come s e f I x = I x := by
  unfold s_X3_come
  repeat' split
  all_goals first
    | rfl
    | (simp only [mj_upI_ne h1, mj_upI_ne h2, mj_upI_ne h3, mj_upI_ne h4])
theorem mj_come_d (s e f : Int32) (I : mj_I) (y : Int32) : s_X3_come s e f I 23 y = I 23 y ∨ (s_X3_come s e f I 23 y = f ∧ y = s ∧ I 23 s = 0) := by
  unfold s_X3_come
  repeat' split
  all_goals first
    | exact Or.inl rfl
    | skip
  next h =>
    rw [mj_upI_ne (by decide), mj_upI_ne (by decide), mj_upI_ne (by decide), mj_upI_eq]
    by_cases hy : y = s
    · rw [if_pos hy]; exact Or.inr ⟨rfl, hy, h⟩
    · rw [if_neg hy]; exact Or.inl rfl
theorem mj_come_SQ {cc m : Nat} {s e f : Int32} {I : mj_I} (hcc : cc = 2 ∨ cc = 10) (he : e.toInt < 3072) (hf : 0 ≤ f.toInt ∧ f.toInt ≤ 24) (h : mj_SQ cc m I) : mj_SQ cc m (s_X3_come s e f I) := by
  obtain ⟨a, b, c, g, k⟩ := h
  refine ⟨?_, ?_⟩
  · rw [mj_come_fr _ _ _ _ _ (by omega) (by omega) (by omega) (by omega)]; exact a
  have hd : ∀ y, mj_in y 3072 → 0 ≤ (s_X3_come s e f I 23 y).toInt ∧ (s_X3_come s e f I 23 y).toInt ≤ 24 := by
    intro y hy
    rcases mj_come_d s e f I y with q | q
    · rw [q]; exact k y hy
    · rw [q.1]; exact hf
  suffices hh : (0 ≤ (s_X3_come s e f I 20 4).toInt ∧ (s_X3_come s e f I 20 4).toInt ≤ 3072) ∧ (∀ t : Nat, (t : Int) < (s_X3_come s e f I 20 4).toInt → mj_in (s_X3_come s e f I 21 (nI t)) 3072) ∧ (∀ y, mj_in y 3072 → (s_X3_come s e f I 22 y).toInt < 3072) from ⟨hh.1, hh.2.1, hh.2.2, hd⟩
  clear hd
  unfold s_X3_come
  by_cases h1 : s < 0
  · rw [if_pos h1]; exact ⟨b, c, g⟩
  rw [if_neg h1]
  by_cases h2 : s < 3072
  · rw [if_pos h2]
    by_cases h3 : I 20 4 < 3072
    · rw [if_pos h3]
      by_cases h4 : I 23 s = 0
      · rw [if_pos h4]
        have e1 : (1 : Int32).toInt = 1 := by decide
        have e3 : (3072 : Int32).toInt = 3072 := by decide
        have a3 := mj_iL h3
        have a4 : (I 20 4 + 1).toInt = (I 20 4).toInt + 1 := by rw [mj_iadd (by omega) (by omega), e1]
        refine ⟨?_, ?_, ?_⟩
        · rw [mj_upI_eq, if_pos rfl]
          omega
        · intro t ht
          rw [mj_upI_eq, if_pos rfl] at ht
          rw [mj_upI_ne (by decide), mj_upI_eq]
          by_cases hy : nI t = I 20 4
          · rw [if_pos hy]; exact mj_rng (by decide) h1 h2
          · rw [if_neg hy, mj_upI_ne (by decide), mj_upI_ne (by decide)]
            refine c t ?_
            have : (nI t).toInt ≠ (I 20 4).toInt := mj_iE hy
            rw [nI_toInt (by omega)] at this
            omega
        · intro y hy
          rw [mj_upI_ne (by decide), mj_upI_ne (by decide), mj_upI_eq]
          by_cases hys : y = s
          · rw [if_pos hys]; exact he
          · rw [if_neg hys, mj_upI_ne (by decide)]; exact g y hy
      · rw [if_neg h4]; exact ⟨b, c, g⟩
    · rw [if_neg h3]; exact ⟨b, c, g⟩
  · rw [if_neg h2]; exact ⟨b, c, g⟩
theorem mj_d1 {cc m : Nat} {I : mj_I} {s : Int32} (hQ : mj_SQ cc m I) (hst : mj_in s 3072) (hd : (I 23 s).toInt < 24) : 0 ≤ (I 23 s + 1).toInt ∧ (I 23 s + 1).toInt ≤ 24 := by
  have e1 : (1 : Int32).toInt = 1 := by decide
  have := hQ.2.2.2.2 s hst
  rw [mj_iadd (by omega) (by omega), e1]
  omega
theorem mj_come_lt {s s2 : Int32} {e : Int32} {I : mj_I} (hd : (I 23 s).toInt < 24) : (s_X3_come s2 e (I 23 s + 1) I 23 s).toInt < 24 := by
  rcases mj_come_d s2 e (I 23 s + 1) I s with q | q
  · rw [q]; exact hd
  · rw [q.1, q.2.1, q.2.2]; decide
theorem mj_here9 {s : Int32} (h : mj_in s 3072) : mj_in (s >>> ((9 : Int32) &&& 31)) 6 := by
  have h : 0 ≤ s.toInt ∧ s.toInt < ((3072 : Nat) : Int) := h
  have e : s = nI s.toInt.toNat := mj_ofI (by rw [nI_toInt (by omega)]; omega)
  have hj : s.toInt.toNat < 3072 := by omega
  rw [e]
  generalize s.toInt.toNat = j at hj
  have hh : ∀ a : Fin 6, ∀ b : Fin 32, ∀ c : Fin 16, mj_in (nI (512 * a.1 + 16 * b.1 + c.1) >>> ((9 : Int32) &&& 31)) 6 := by
    unfold mj_in
    decide +kernel
  have := hh ⟨j / 512, by omega⟩ ⟨j % 512 / 16, by omega⟩ ⟨j % 16, by omega⟩
  have e2 : 512 * (j / 512) + 16 * (j % 512 / 16) + j % 16 = j := by omega
  dsimp only at this
  rw [e2] at this
  exact this
theorem mj_wt {cc m j : Nat} {I : mj_I} (hQ : mj_SQ cc m I) (h : nI j < I 20 4) (hj : j < 3072) : mj_in (I 21 (nI j)) 3072 := by
  refine hQ.2.2.1 j ?_
  have := mj_iL h
  rw [nI_toInt (by omega)] at this
  exact this
def s_X3_go1 (cc : Nat) (m : Nat) (s : Int32) (e : Int32) : Nat → Nat → mj_I → mj_I
  | 0, j, I => I
  | k + 1, j, I => if sp_can (I (cc + 2)) e (nI j) then (s_X3_go1 cc m s e k (j + 1)  (s_X3_come (s_X3_behindDay (cc) s (nI j) I) s ((I 23 s) + 1) I)) else (s_X3_go1 cc m s e k (j + 1)  I)
set_option maxHeartbeats 8000000 in
theorem x_X3_go1 (l : Launch) (b base : Nat) (D : va_G) (z : mj_K × (Int32 → Int32)) (N : Nat) (cc : Nat) (m : Nat) (s : Int32) (e : Int32) (hcc : cc = 2 ∨ cc = 10) (d r : Nat) (hm : m ≤ 6) (hst : mj_in s 3072) (he : mj_in e 6) : ∀ (k j : Nat) (I : mj_I), k = m - j → 0 ≤ j → j ≤ m + 1 → (mj_SQ cc m I) → ((I 23 s).toInt < 24) → mj_Rn l b base D z mj_m_X3_goOn 8 [.ref 20, .ref cc, .int s, .int e, .int (nI j)] [] (mj_KS N, I, mj_PP cc d r) (mj_E N none (s_X3_go1 cc m s e k j  I) (mj_PP cc d r)) := by
  rcases hcc with rfl | rfl
  · skip
    intro k
    induction k with
    | zero =>
      intro j I hk hlo hj hQ hd
      have hs := hQ.1
      refine R_seg (φ := []) (pc' := 14) (L' := [.ref 20, .ref 2, .int s, .int e, .int (nI j)]) (st' := [.int (I 2 0), .int (nI j)]) (σ' := (mj_KS N, I, mj_PP (2) d r)) 3 rfl trivial ?_
      refine R_br (q := (nI j : Int32) < I 2 0) (t := 17) (f := 53) (rest := []) rfl (fun h1 => absurd h1 (by rw [hs]; exact nI_nlt (by omega) (by omega))) (fun h1 => ?_)
      exact R_rv rfl rfl (mj_leaf (by simp only [s_X3_go1, Bool.false_eq_true, ↓reduceIte, Nat.reduceAdd, Nat.reduceMul, mj_tn0, mj_tn1, mj_tn2, mj_tn3]) (by simp only [s_X3_go1, Bool.false_eq_true, ↓reduceIte, Nat.reduceAdd, Nat.reduceMul, mj_tn0, mj_tn1, mj_tn2, mj_tn3]))
    | succ k ih =>
      intro j I hk hlo hj hQ hd
      have hjm : j < m := by omega
      have hs := hQ.1
      have hin : mj_in (nI j) 6 := mj_in_nI (by omega) (by omega)
      refine R_seg (φ := []) (pc' := 14) (L' := [.ref 20, .ref 2, .int s, .int e, .int (nI j)]) (st' := [.int (I 2 0), .int (nI j)]) (σ' := (mj_KS N, I, mj_PP (2) d r)) 3 rfl trivial ?_
      refine R_br (q := (nI j : Int32) < I 2 0) (t := 17) (f := 53) (rest := []) rfl (fun h1 => ?_) (fun h1 => absurd (by rw [hs]; exact nI_lt hjm (by omega)) h1)
      refine R_seg (φ := []) (pc' := 21) (L' := [.ref 20, .ref 2, .int s, .int e, .int (nI j)]) (st' := [.int (nI j), .int e, .ref 2]) (σ' := (mj_KS N, I, mj_PP (2) d r)) 3 rfl trivial ?_
      refine R_ce (idx := 58) (mid := 10) (kind := 3) (N := N) (M' := mj_m_X1_canStep) (As := [.ref 2, .int e, .int (nI j)]) (rest := []) (I := I) (P := mj_PP (2) d r) (I' := I) (P' := mj_PP (2) d r) (v := some (.int (bI (sp_can (I 4) e (nI j))))) rfl rfl rfl mj_mc10 mj_dc10 rfl rfl rfl rfl rfl rfl (x_canStep l b base D z N 2 (by decide) e (nI j) I (2) d r he) ?_
      refine R_seg (φ := []) (pc' := 24) (L' := [.ref 20, .ref 2, .int s, .int e, .int (nI j)]) (st' := [.int (bI (sp_can (I 4) e (nI j)))]) (σ' := (mj_KS N, I, mj_PP (2) d r)) 0 rfl trivial ?_
      refine R_br (q := (bI (sp_can (I 4) e (nI j)) : Int32) = 0) (t := 47) (f := 27) (rest := []) rfl (fun h2 => ?_) (fun h2 => ?_)
      · skip
        replace h2 := bI_0.mp h2
        refine R_seg (φ := []) (pc' := 8) (L' := [.ref 20, .ref 2, .int s, .int e, .int ((nI j) + 1)]) (st' := []) (σ' := (mj_KS N, I, mj_PP (2) d r)) 2 rfl trivial ?_
        rw [nI_1 j]
        rw [show s_X3_go1 2 m s e (k + 1) j  I = s_X3_go1 2 m s e k (j + 1)  I from by simp only [s_X3_go1, h2, Bool.false_eq_true, ↓reduceIte, Nat.reduceAdd, Nat.reduceMul, mj_tn0, mj_tn1, mj_tn2, mj_tn3]]
        exact ih (j + 1)  I (by omega) (by omega) (by omega) (hQ) (hd)
      · skip
        replace h2 := bI_1 h2
        refine R_seg (φ := []) (pc' := 32) (L' := [.ref 20, .ref 2, .int s, .int e, .int (nI j)]) (st' := [.int (nI j), .int s, .ref 2, .ref 20]) (σ' := (mj_KS N, I, mj_PP (2) d r)) 4 rfl trivial ?_
        refine R_ce (idx := 38) (mid := 31) (kind := 1) (N := N) (M' := mj_m_X3_behindDay) (As := [.ref 2, .int s, .int (nI j)]) (rest := [.ref 20]) (I := I) (P := mj_PP (2) d r) (I' := I) (P' := mj_PP (2) d r) (v := some (.int (s_X3_behindDay (2) s (nI j) I))) rfl rfl rfl mj_mc31 mj_dc31 rfl rfl rfl rfl rfl rfl (x_X3_behindDay l b base D z N (2) s (nI j) (by decide) I d r hin) ?_
        refine R_seg (φ := [mj_in s 3072]) (pc' := 44) (L' := [.ref 20, .ref 2, .int s, .int e, .int (nI j)]) (st' := [.int ((I 23 s) + 1), .int s, .int (s_X3_behindDay (2) s (nI j) I), .ref 20]) (σ' := (mj_KS N, I, mj_PP (2) d r)) 7 rfl ⟨hst, trivial⟩ ?_
        refine R_ce (idx := 42) (mid := 32) (kind := 0) (N := N) (M' := mj_m_X3_come) (As := [.ref 20, .int (s_X3_behindDay (2) s (nI j) I), .int s, .int ((I 23 s) + 1)]) (rest := []) (I := I) (P := mj_PP (2) d r) (I' := (s_X3_come (s_X3_behindDay (2) s (nI j) I) s ((I 23 s) + 1) I)) (P' := mj_PP (2) d r) (v := none) rfl rfl rfl mj_mc32 mj_dc32 rfl rfl rfl rfl rfl rfl (x_X3_come l b base D z N (s_X3_behindDay (2) s (nI j) I) s ((I 23 s) + 1)  I (2) d r hQ.2.1.1) ?_
        refine R_seg (φ := []) (pc' := 8) (L' := [.ref 20, .ref 2, .int s, .int e, .int ((nI j) + 1)]) (st' := []) (σ' := (mj_KS N, (s_X3_come (s_X3_behindDay (2) s (nI j) I) s ((I 23 s) + 1) I), mj_PP (2) d r)) 2 rfl trivial ?_
        rw [nI_1 j]
        rw [show s_X3_go1 2 m s e (k + 1) j  I = s_X3_go1 2 m s e k (j + 1)  (s_X3_come (s_X3_behindDay (2) s (nI j) I) s ((I 23 s) + 1) I) from by simp only [s_X3_go1, h2, Bool.false_eq_true, ↓reduceIte, Nat.reduceAdd, Nat.reduceMul, mj_tn0, mj_tn1, mj_tn2, mj_tn3]]
        exact ih (j + 1)  (s_X3_come (s_X3_behindDay (2) s (nI j) I) s ((I 23 s) + 1) I) (by omega) (by omega) (by omega) (mj_come_SQ (by decide) hst.2 (mj_d1 hQ hst hd) hQ) (mj_come_lt hd)
  · skip
    intro k
    induction k with
    | zero =>
      intro j I hk hlo hj hQ hd
      have hs := hQ.1
      refine R_seg (φ := []) (pc' := 14) (L' := [.ref 20, .ref 10, .int s, .int e, .int (nI j)]) (st' := [.int (I 10 0), .int (nI j)]) (σ' := (mj_KS N, I, mj_PP (10) d r)) 3 rfl trivial ?_
      refine R_br (q := (nI j : Int32) < I 10 0) (t := 17) (f := 53) (rest := []) rfl (fun h1 => absurd h1 (by rw [hs]; exact nI_nlt (by omega) (by omega))) (fun h1 => ?_)
      exact R_rv rfl rfl (mj_leaf (by simp only [s_X3_go1, Bool.false_eq_true, ↓reduceIte, Nat.reduceAdd, Nat.reduceMul, mj_tn0, mj_tn1, mj_tn2, mj_tn3]) (by simp only [s_X3_go1, Bool.false_eq_true, ↓reduceIte, Nat.reduceAdd, Nat.reduceMul, mj_tn0, mj_tn1, mj_tn2, mj_tn3]))
    | succ k ih =>
      intro j I hk hlo hj hQ hd
      have hjm : j < m := by omega
      have hs := hQ.1
      have hin : mj_in (nI j) 6 := mj_in_nI (by omega) (by omega)
      refine R_seg (φ := []) (pc' := 14) (L' := [.ref 20, .ref 10, .int s, .int e, .int (nI j)]) (st' := [.int (I 10 0), .int (nI j)]) (σ' := (mj_KS N, I, mj_PP (10) d r)) 3 rfl trivial ?_
      refine R_br (q := (nI j : Int32) < I 10 0) (t := 17) (f := 53) (rest := []) rfl (fun h1 => ?_) (fun h1 => absurd (by rw [hs]; exact nI_lt hjm (by omega)) h1)
      refine R_seg (φ := []) (pc' := 21) (L' := [.ref 20, .ref 10, .int s, .int e, .int (nI j)]) (st' := [.int (nI j), .int e, .ref 10]) (σ' := (mj_KS N, I, mj_PP (10) d r)) 3 rfl trivial ?_
      refine R_ce (idx := 58) (mid := 10) (kind := 3) (N := N) (M' := mj_m_X1_canStep) (As := [.ref 10, .int e, .int (nI j)]) (rest := []) (I := I) (P := mj_PP (10) d r) (I' := I) (P' := mj_PP (10) d r) (v := some (.int (bI (sp_can (I 12) e (nI j))))) rfl rfl rfl mj_mc10 mj_dc10 rfl rfl rfl rfl rfl rfl (x_canStep l b base D z N 10 (by decide) e (nI j) I (10) d r he) ?_
      refine R_seg (φ := []) (pc' := 24) (L' := [.ref 20, .ref 10, .int s, .int e, .int (nI j)]) (st' := [.int (bI (sp_can (I 12) e (nI j)))]) (σ' := (mj_KS N, I, mj_PP (10) d r)) 0 rfl trivial ?_
      refine R_br (q := (bI (sp_can (I 12) e (nI j)) : Int32) = 0) (t := 47) (f := 27) (rest := []) rfl (fun h2 => ?_) (fun h2 => ?_)
      · skip
        replace h2 := bI_0.mp h2
        refine R_seg (φ := []) (pc' := 8) (L' := [.ref 20, .ref 10, .int s, .int e, .int ((nI j) + 1)]) (st' := []) (σ' := (mj_KS N, I, mj_PP (10) d r)) 2 rfl trivial ?_
        rw [nI_1 j]
        rw [show s_X3_go1 10 m s e (k + 1) j  I = s_X3_go1 10 m s e k (j + 1)  I from by simp only [s_X3_go1, h2, Bool.false_eq_true, ↓reduceIte, Nat.reduceAdd, Nat.reduceMul, mj_tn0, mj_tn1, mj_tn2, mj_tn3]]
        exact ih (j + 1)  I (by omega) (by omega) (by omega) (hQ) (hd)
      · skip
        replace h2 := bI_1 h2
        refine R_seg (φ := []) (pc' := 32) (L' := [.ref 20, .ref 10, .int s, .int e, .int (nI j)]) (st' := [.int (nI j), .int s, .ref 10, .ref 20]) (σ' := (mj_KS N, I, mj_PP (10) d r)) 4 rfl trivial ?_
        refine R_ce (idx := 38) (mid := 31) (kind := 1) (N := N) (M' := mj_m_X3_behindDay) (As := [.ref 10, .int s, .int (nI j)]) (rest := [.ref 20]) (I := I) (P := mj_PP (10) d r) (I' := I) (P' := mj_PP (10) d r) (v := some (.int (s_X3_behindDay (10) s (nI j) I))) rfl rfl rfl mj_mc31 mj_dc31 rfl rfl rfl rfl rfl rfl (x_X3_behindDay l b base D z N (10) s (nI j) (by decide) I d r hin) ?_
        refine R_seg (φ := [mj_in s 3072]) (pc' := 44) (L' := [.ref 20, .ref 10, .int s, .int e, .int (nI j)]) (st' := [.int ((I 23 s) + 1), .int s, .int (s_X3_behindDay (10) s (nI j) I), .ref 20]) (σ' := (mj_KS N, I, mj_PP (10) d r)) 7 rfl ⟨hst, trivial⟩ ?_
        refine R_ce (idx := 42) (mid := 32) (kind := 0) (N := N) (M' := mj_m_X3_come) (As := [.ref 20, .int (s_X3_behindDay (10) s (nI j) I), .int s, .int ((I 23 s) + 1)]) (rest := []) (I := I) (P := mj_PP (10) d r) (I' := (s_X3_come (s_X3_behindDay (10) s (nI j) I) s ((I 23 s) + 1) I)) (P' := mj_PP (10) d r) (v := none) rfl rfl rfl mj_mc32 mj_dc32 rfl rfl rfl rfl rfl rfl (x_X3_come l b base D z N (s_X3_behindDay (10) s (nI j) I) s ((I 23 s) + 1)  I (10) d r hQ.2.1.1) ?_
        refine R_seg (φ := []) (pc' := 8) (L' := [.ref 20, .ref 10, .int s, .int e, .int ((nI j) + 1)]) (st' := []) (σ' := (mj_KS N, (s_X3_come (s_X3_behindDay (10) s (nI j) I) s ((I 23 s) + 1) I), mj_PP (10) d r)) 2 rfl trivial ?_
        rw [nI_1 j]
        rw [show s_X3_go1 10 m s e (k + 1) j  I = s_X3_go1 10 m s e k (j + 1)  (s_X3_come (s_X3_behindDay (10) s (nI j) I) s ((I 23 s) + 1) I) from by simp only [s_X3_go1, h2, Bool.false_eq_true, ↓reduceIte, Nat.reduceAdd, Nat.reduceMul, mj_tn0, mj_tn1, mj_tn2, mj_tn3]]
        exact ih (j + 1)  (s_X3_come (s_X3_behindDay (10) s (nI j) I) s ((I 23 s) + 1) I) (by omega) (by omega) (by omega) (mj_come_SQ (by decide) hst.2 (mj_d1 hQ hst hd) hQ) (mj_come_lt hd)
def s_X3_goOn (cc : Nat) (m : Nat) (s : Int32) (I : mj_I) : mj_I := s_X3_go1 (cc) m s (s >>> ((9 : Int32) &&& 31)) m 0  I
set_option maxHeartbeats 8000000 in
theorem x_X3_goOn (l : Launch) (b base : Nat) (D : va_G) (z : mj_K × (Int32 → Int32)) (N : Nat) (cc : Nat) (m : Nat) (s : Int32) (hcc : cc = 2 ∨ cc = 10) (I : mj_I) (d r : Nat) (hm : m ≤ 6) (hst : mj_in s 3072) (he : mj_in (s >>> ((9 : Int32) &&& 31)) 6) (hQ : mj_SQ cc m I) (hd : (I 23 s).toInt < 24) : mj_Rn l b base D z mj_m_X3_goOn 0 [.ref 20, .ref cc, .int s, mj_mk, mj_mk] [] (mj_KS N, I, mj_PP cc d r) (mj_E N none (s_X3_goOn cc m s I) (mj_PP cc d r)) := by
  rcases hcc with rfl | rfl
  · skip
    refine R_seg (φ := []) (pc' := 8) (L' := [.ref 20, .ref 2, .int s, .int (s >>> (9 &&& 31)), .int 0]) (st' := []) (σ' := (mj_KS N, I, mj_PP (2) d r)) 6 rfl trivial ?_
    exact x_X3_go1 l b base D z N (2) m s (s >>> ((9 : Int32) &&& 31)) (by decide) d r hm hst he m 0  I (by omega) (by omega) (by omega) hQ hd
  · skip
    refine R_seg (φ := []) (pc' := 8) (L' := [.ref 20, .ref 10, .int s, .int (s >>> (9 &&& 31)), .int 0]) (st' := []) (σ' := (mj_KS N, I, mj_PP (10) d r)) 6 rfl trivial ?_
    exact x_X3_go1 l b base D z N (10) m s (s >>> ((9 : Int32) &&& 31)) (by decide) d r hm hst he m 0  I (by omega) (by omega) (by omega) hQ hd
theorem mj_go1_SQ {cc m : Nat} {s e : Int32} (hcc : cc = 2 ∨ cc = 10) (hst : mj_in s 3072) : ∀ (k j : Nat) (I : mj_I), mj_SQ cc m I → (I 23 s).toInt < 24 → mj_SQ cc m (s_X3_go1 cc m s e k j I) := by
  intro k
  induction k with
  | zero => intro j I h _; exact h
  | succ k ih =>
    intro j I hQ hd
    rw [s_X3_go1]
    split
    · exact ih _ _ (mj_come_SQ hcc hst.2 (mj_d1 hQ hst hd) hQ) (mj_come_lt hd)
    · exact ih _ _ hQ hd
theorem mj_go_SQ {cc m : Nat} {s : Int32} {I : mj_I} (hcc : cc = 2 ∨ cc = 10) (hst : mj_in s 3072) (hQ : mj_SQ cc m I) (hd : (I 23 s).toInt < 24) : mj_SQ cc m (s_X3_goOn cc m s I) := mj_go1_SQ hcc hst _ _ _ hQ hd
theorem mj_lt0 {x : Int32} (h : x.toInt < 0) : x < 0 := Int32.lt_iff_toInt_lt.mpr (show x.toInt < (0 : Int32).toInt from h)
theorem mj_dcr1 {x : Int32} {j : Nat} (h1 : ¬ x < 0) (h2 : x.toInt + (j : Int) < 24) : (x + (-1)).toInt + ((j + 1 : Nat) : Int) < 24 := by
  have a1 := mj_i0 h1
  have e1 : ((-1) : Int32).toInt = -1 := by decide
  rw [mj_iadd (by omega) (by omega), e1]
  omega
theorem mj_rngL {s : Int32} (h1 : ¬ s < 0) (h2 : s.toInt < 3072) : mj_in s 3072 := by
  have a1 := mj_i0 h1
  exact (show 0 ≤ s.toInt ∧ s.toInt < ((3072 : Nat) : Int) from ⟨a1, h2⟩)
def s_X3_tf (a : Int32) : Nat → Nat → Int32 → Int32 → mj_I → Int32 × mj_I
  | 0, j, s, f, I => (I 23 a, I)
  | k + 1, j, s, f, I => if (f : Int32) < 0 then (I 23 a, I) else (if (f : Int32) < 24 then (if (s : Int32) < 0 then (I 23 a, I) else (s_X3_tf a k (j + 1) (I 22 s) (f + (-1)) (mj_upI I 24 f (s >>> (9 &&& 31))))) else (I 23 a, I))
set_option maxHeartbeats 8000000 in
theorem x_X3_tf (l : Launch) (b base : Nat) (D : va_G) (z : mj_K × (Int32 → Int32)) (N : Nat) (a : Int32) (c d r : Nat) (ha : mj_in a 3072) : ∀ (k j : Nat) (s : Int32) (f : Int32) (I : mj_I), k = 24 - j → 0 ≤ j → j ≤ 24 + 1 → (s.toInt < 3072) → (f.toInt + (j : Int) < 24) → (∀ y, mj_in y 3072 → (I 22 y).toInt < 3072) → mj_Rn l b base D z mj_m_X3_tellFound 11 [.ref 20, .int a, .int s, .int f] [] (mj_KS N, I, mj_PP c d r) (mj_E N (some (.int (s_X3_tf a k j s f I).1)) (s_X3_tf a k j s f I).2 (mj_PP c d r)) := by
  intro k
  induction k with
  | zero =>
    intro j s f I hk hlo hj hs hf hb
    refine R_seg (φ := []) (pc' := 12) (L' := [.ref 20, .int a, .int s, .int f]) (st' := [.int f]) (σ' := (mj_KS N, I, mj_PP c d r)) 1 rfl trivial ?_
    refine R_br (q := (f : Int32) < 0) (t := 48) (f := 15) (rest := []) rfl (fun h1 => ?_) (fun h1 => absurd (mj_lt0 (by omega)) h1)
    refine R_seg (φ := [mj_in a 3072]) (pc' := 54) (L' := [.ref 20, .int a, .int s, .int f]) (st' := [.int (I 23 a)]) (σ' := (mj_KS N, I, mj_PP c d r)) 4 rfl ⟨ha, trivial⟩ ?_
    exact R_ri rfl rfl (mj_leaf (by simp only [s_X3_tf, Bool.false_eq_true, ↓reduceIte, Nat.reduceAdd, Nat.reduceMul, mj_tn0, mj_tn1, mj_tn2, mj_tn3]) (by simp only [s_X3_tf, Bool.false_eq_true, ↓reduceIte, Nat.reduceAdd, Nat.reduceMul, mj_tn0, mj_tn1, mj_tn2, mj_tn3]))
  | succ k ih =>
    intro j s f I hk hlo hj hs hf hb
    have hjm : j < 24 := by omega
    refine R_seg (φ := []) (pc' := 12) (L' := [.ref 20, .int a, .int s, .int f]) (st' := [.int f]) (σ' := (mj_KS N, I, mj_PP c d r)) 1 rfl trivial ?_
    refine R_br (q := (f : Int32) < 0) (t := 48) (f := 15) (rest := []) rfl (fun h1 => ?_) (fun h1 => ?_)
    · skip
      refine R_seg (φ := [mj_in a 3072]) (pc' := 54) (L' := [.ref 20, .int a, .int s, .int f]) (st' := [.int (I 23 a)]) (σ' := (mj_KS N, I, mj_PP c d r)) 4 rfl ⟨ha, trivial⟩ ?_
      exact R_ri rfl rfl (mj_leaf (by simp only [s_X3_tf, if_pos h1, Bool.false_eq_true, ↓reduceIte, Nat.reduceAdd, Nat.reduceMul, mj_tn0, mj_tn1, mj_tn2, mj_tn3]) (by simp only [s_X3_tf, if_pos h1, Bool.false_eq_true, ↓reduceIte, Nat.reduceAdd, Nat.reduceMul, mj_tn0, mj_tn1, mj_tn2, mj_tn3]))
    · skip
      refine R_seg (φ := []) (pc' := 18) (L' := [.ref 20, .int a, .int s, .int f]) (st' := [.int 24, .int f]) (σ' := (mj_KS N, I, mj_PP c d r)) 2 rfl trivial ?_
      refine R_br (q := (f : Int32) < 24) (t := 21) (f := 48) (rest := []) rfl (fun h2 => ?_) (fun h2 => ?_)
      · skip
        refine R_seg (φ := []) (pc' := 22) (L' := [.ref 20, .int a, .int s, .int f]) (st' := [.int s]) (σ' := (mj_KS N, I, mj_PP c d r)) 1 rfl trivial ?_
        refine R_br (q := (s : Int32) < 0) (t := 48) (f := 25) (rest := []) rfl (fun h3 => ?_) (fun h3 => ?_)
        · skip
          refine R_seg (φ := [mj_in a 3072]) (pc' := 54) (L' := [.ref 20, .int a, .int s, .int f]) (st' := [.int (I 23 a)]) (σ' := (mj_KS N, I, mj_PP c d r)) 4 rfl ⟨ha, trivial⟩ ?_
          exact R_ri rfl rfl (mj_leaf (by simp only [s_X3_tf, if_neg h1, if_pos h2, if_pos h3, Bool.false_eq_true, ↓reduceIte, Nat.reduceAdd, Nat.reduceMul, mj_tn0, mj_tn1, mj_tn2, mj_tn3]) (by simp only [s_X3_tf, if_neg h1, if_pos h2, if_pos h3, Bool.false_eq_true, ↓reduceIte, Nat.reduceAdd, Nat.reduceMul, mj_tn0, mj_tn1, mj_tn2, mj_tn3]))
        · skip
          refine R_seg (φ := [mj_in f 24, mj_in s 3072]) (pc' := 11) (L' := [.ref 20, .int a, .int (I 22 s), .int (f + (-1))]) (st' := []) (σ' := (mj_KS N, (mj_upI I 24 f (s >>> (9 &&& 31))), mj_PP c d r)) 14 rfl ⟨mj_rng (by decide) h1 h2, mj_rngL h3 hs, trivial⟩ ?_
          rw [show s_X3_tf a (k + 1) j s f I = s_X3_tf a k (j + 1) (I 22 s) (f + (-1)) (mj_upI I 24 f (s >>> (9 &&& 31))) from by simp only [s_X3_tf, if_neg h1, if_pos h2, if_neg h3, Bool.false_eq_true, ↓reduceIte, Nat.reduceAdd, Nat.reduceMul, mj_tn0, mj_tn1, mj_tn2, mj_tn3]]
          exact ih (j + 1) (I 22 s) (f + (-1)) (mj_upI I 24 f (s >>> (9 &&& 31))) (by omega) (by omega) (by omega) (hb _ (mj_rngL h3 hs)) (mj_dcr1 h1 hf) (fun y hy => by rw [mj_upI_ne (by decide)]; exact hb y hy)
      · skip
        refine R_seg (φ := [mj_in a 3072]) (pc' := 54) (L' := [.ref 20, .int a, .int s, .int f]) (st' := [.int (I 23 a)]) (σ' := (mj_KS N, I, mj_PP c d r)) 4 rfl ⟨ha, trivial⟩ ?_
        exact R_ri rfl rfl (mj_leaf (by simp only [s_X3_tf, if_neg h1, if_neg h2, Bool.false_eq_true, ↓reduceIte, Nat.reduceAdd, Nat.reduceMul, mj_tn0, mj_tn1, mj_tn2, mj_tn3]) (by simp only [s_X3_tf, if_neg h1, if_neg h2, Bool.false_eq_true, ↓reduceIte, Nat.reduceAdd, Nat.reduceMul, mj_tn0, mj_tn1, mj_tn2, mj_tn3]))
theorem mj_tfi {x : Int32} (h : 0 ≤ x.toInt ∧ x.toInt ≤ 24) : (x - 1).toInt + ((0 : Nat) : Int) < 24 := by
  have e1 : (1 : Int32).toInt = 1 := by decide
  rw [mj_isub (by omega) (by omega), e1]
  omega
def s_X3_tellFound (a : Int32) (I : mj_I) : Int32 × mj_I := ((s_X3_tf a 24 0 a ((I 23 a) - 1) I).1, (s_X3_tf a 24 0 a ((I 23 a) - 1) I).2)
set_option maxHeartbeats 8000000 in
theorem x_X3_tellFound (l : Launch) (b base : Nat) (D : va_G) (z : mj_K × (Int32 → Int32)) (N : Nat) (a : Int32) (I : mj_I) (c d r : Nat) (ha : mj_in a 3072) (hb : ∀ y, mj_in y 3072 → (I 22 y).toInt < 3072) (hdd : 0 ≤ (I 23 a).toInt ∧ (I 23 a).toInt ≤ 24) : mj_Rn l b base D z mj_m_X3_tellFound 0 [.ref 20, .int a, mj_mk, mj_mk] [] (mj_KS N, I, mj_PP c d r) (mj_E N (some (.int (s_X3_tellFound a I).1)) (s_X3_tellFound a I).2 (mj_PP c d r)) := by
  refine R_seg (φ := [mj_in a 3072]) (pc' := 11) (L' := [.ref 20, .int a, .int a, .int ((I 23 a) - 1)]) (st' := []) (σ' := (mj_KS N, I, mj_PP c d r)) 9 rfl ⟨ha, trivial⟩ ?_
  exact x_X3_tf l b base D z N a c d r ha 24 0 a ((I 23 a) - 1) I (by omega) (by omega) (by omega) ha.2 (mj_tfi hdd) hb
def s_X3_qd (cc : Nat) (m : Nat) (s : Int32) (e : Int32) : Nat → Nat → mj_I → Int32 × mj_I
  | 0, j, I => if (nI j : Int32) < I 20 4 then ((-9), I) else ((-9), I)
  | k + 1, j, I => if (nI j : Int32) < I 20 4 then (if ((I 21 (nI j)) &&& 511 : Int32) = 438 then ((s_X3_tellFound (I 21 (nI j)) I).1, (s_X3_tellFound (I 21 (nI j)) I).2) else (if (I 23 (I 21 (nI j)) : Int32) < 24 then (s_X3_qd cc m s e k (j + 1)  (s_X3_goOn (cc) m (I 21 (nI j)) I)) else (s_X3_qd cc m s e k (j + 1)  I))) else ((-9), I)
set_option maxHeartbeats 8000000 in
theorem x_X3_qd (l : Launch) (b base : Nat) (D : va_G) (z : mj_K × (Int32 → Int32)) (N : Nat) (cc : Nat) (m : Nat) (s : Int32) (e : Int32) (hcc : cc = 2 ∨ cc = 10) (d r : Nat) (hm : m ≤ 6) : ∀ (k j : Nat) (w5 : Value) (I : mj_I), k = 3072 - j → 0 ≤ j → j ≤ 3072 + 1 → (mj_SQ cc m I) → mj_Rn l b base D z mj_m_X3_quickestDays 37 [.ref 20, .ref cc, .int s, .int e, .int (nI j), w5] [] (mj_KS N, I, mj_PP cc d r) (mj_E N (some (.int (s_X3_qd cc m s e k j  I).1)) (s_X3_qd cc m s e k j  I).2 (mj_PP cc d r)) := by
  rcases hcc with rfl | rfl
  · skip
    intro k
    induction k with
    | zero =>
      intro j w5 I hk hlo hj hQ
      refine R_seg (φ := []) (pc' := 43) (L' := [.ref 20, .ref 2, .int s, .int e, .int (nI j), w5]) (st' := [.int (I 20 4), .int (nI j)]) (σ' := (mj_KS N, I, mj_PP (2) d r)) 3 rfl trivial ?_
      refine R_br (q := (nI j : Int32) < I 20 4) (t := 46) (f := 107) (rest := []) rfl (fun h1 => ?_) (fun h1 => ?_)
      · skip
        refine R_seg (φ := []) (pc' := 51) (L' := [.ref 20, .ref 2, .int s, .int e, .int (nI j), w5]) (st' := [.int 3072, .int (nI j)]) (σ' := (mj_KS N, I, mj_PP (2) d r)) 2 rfl trivial ?_
        refine R_br (q := (nI j : Int32) < 3072) (t := 54) (f := 107) (rest := []) rfl (fun h2 => absurd h2 (show ¬ nI j < nI 3072 from nI_nlt (by omega) (by omega))) (fun h2 => ?_)
        refine R_seg (φ := []) (pc' := 109) (L' := [.ref 20, .ref 2, .int s, .int e, .int (nI j), w5]) (st' := [.int (-9)]) (σ' := (mj_KS N, I, mj_PP (2) d r)) 1 rfl trivial ?_
        exact R_ri rfl rfl (mj_leaf (by simp only [s_X3_qd, if_pos h1, Bool.false_eq_true, ↓reduceIte, Nat.reduceAdd, Nat.reduceMul, mj_tn0, mj_tn1, mj_tn2, mj_tn3]) (by simp only [s_X3_qd, if_pos h1, Bool.false_eq_true, ↓reduceIte, Nat.reduceAdd, Nat.reduceMul, mj_tn0, mj_tn1, mj_tn2, mj_tn3]))
      · skip
        refine R_seg (φ := []) (pc' := 109) (L' := [.ref 20, .ref 2, .int s, .int e, .int (nI j), w5]) (st' := [.int (-9)]) (σ' := (mj_KS N, I, mj_PP (2) d r)) 1 rfl trivial ?_
        exact R_ri rfl rfl (mj_leaf (by simp only [s_X3_qd, if_neg h1, Bool.false_eq_true, ↓reduceIte, Nat.reduceAdd, Nat.reduceMul, mj_tn0, mj_tn1, mj_tn2, mj_tn3]) (by simp only [s_X3_qd, if_neg h1, Bool.false_eq_true, ↓reduceIte, Nat.reduceAdd, Nat.reduceMul, mj_tn0, mj_tn1, mj_tn2, mj_tn3]))
    | succ k ih =>
      intro j w5 I hk hlo hj hQ
      have hjm : j < 3072 := by omega
      have hin : mj_in (nI j) 3072 := mj_in_nI (by omega) (by omega)
      refine R_seg (φ := []) (pc' := 43) (L' := [.ref 20, .ref 2, .int s, .int e, .int (nI j), w5]) (st' := [.int (I 20 4), .int (nI j)]) (σ' := (mj_KS N, I, mj_PP (2) d r)) 3 rfl trivial ?_
      refine R_br (q := (nI j : Int32) < I 20 4) (t := 46) (f := 107) (rest := []) rfl (fun h1 => ?_) (fun h1 => ?_)
      · skip
        refine R_seg (φ := []) (pc' := 51) (L' := [.ref 20, .ref 2, .int s, .int e, .int (nI j), w5]) (st' := [.int 3072, .int (nI j)]) (σ' := (mj_KS N, I, mj_PP (2) d r)) 2 rfl trivial ?_
        refine R_br (q := (nI j : Int32) < 3072) (t := 54) (f := 107) (rest := []) rfl (fun h2 => ?_) (fun h2 => absurd (show nI j < nI 3072 from nI_lt hjm (by omega)) h2)
        refine R_seg (φ := [mj_in (nI j) 3072]) (pc' := 72) (L' := [.ref 20, .ref 2, .int s, .int e, .int (nI j), .int (I 21 (nI j))]) (st' := [.int 438, .int ((I 21 (nI j)) &&& 511)]) (σ' := (mj_KS N, I, mj_PP (2) d r)) 9 rfl ⟨hin, trivial⟩ ?_
        refine R_br (q := ((I 21 (nI j)) &&& 511 : Int32) = 438) (t := 75) (f := 82) (rest := []) rfl (fun h3 => ?_) (fun h3 => ?_)
        · skip
          refine R_seg (φ := []) (pc' := 78) (L' := [.ref 20, .ref 2, .int s, .int e, .int (nI j), .int (I 21 (nI j))]) (st' := [.int (I 21 (nI j)), .ref 20]) (σ' := (mj_KS N, I, mj_PP (2) d r)) 2 rfl trivial ?_
          refine R_ce (idx := 46) (mid := 33) (kind := 0) (N := N) (M' := mj_m_X3_tellFound) (As := [.ref 20, .int (I 21 (nI j))]) (rest := []) (I := I) (P := mj_PP (2) d r) (I' := (s_X3_tellFound (I 21 (nI j)) I).2) (P' := mj_PP (2) d r) (v := some (.int ((s_X3_tellFound (I 21 (nI j)) I).1))) rfl rfl rfl mj_mc33 mj_dc33 rfl rfl rfl rfl rfl rfl (x_X3_tellFound l b base D z N (I 21 (nI j))  I (2) d r (mj_wt hQ h1 hjm) hQ.2.2.2.1 (hQ.2.2.2.2 _ (mj_wt hQ h1 hjm))) ?_
          refine R_seg (φ := []) (pc' := 81) (L' := [.ref 20, .ref 2, .int s, .int e, .int (nI j), .int (I 21 (nI j))]) (st' := [.int ((s_X3_tellFound (I 21 (nI j)) I).1)]) (σ' := (mj_KS N, (s_X3_tellFound (I 21 (nI j)) I).2, mj_PP (2) d r)) 0 rfl trivial ?_
          exact R_ri rfl rfl (mj_leaf (by simp only [s_X3_qd, if_pos h1, if_pos h3, Bool.false_eq_true, ↓reduceIte, Nat.reduceAdd, Nat.reduceMul, mj_tn0, mj_tn1, mj_tn2, mj_tn3]) (by simp only [s_X3_qd, if_pos h1, if_pos h3, Bool.false_eq_true, ↓reduceIte, Nat.reduceAdd, Nat.reduceMul, mj_tn0, mj_tn1, mj_tn2, mj_tn3]))
        · skip
          refine R_seg (φ := [mj_in (I 21 (nI j)) 3072]) (pc' := 91) (L' := [.ref 20, .ref 2, .int s, .int e, .int (nI j), .int (I 21 (nI j))]) (st' := [.int 24, .int (I 23 (I 21 (nI j)))]) (σ' := (mj_KS N, I, mj_PP (2) d r)) 5 rfl ⟨mj_wt hQ h1 hjm, trivial⟩ ?_
          refine R_br (q := (I 23 (I 21 (nI j)) : Int32) < 24) (t := 94) (f := 101) (rest := []) rfl (fun h4 => ?_) (fun h4 => ?_)
          · skip
            refine R_seg (φ := []) (pc' := 98) (L' := [.ref 20, .ref 2, .int s, .int e, .int (nI j), .int (I 21 (nI j))]) (st' := [.int (I 21 (nI j)), .ref 2, .ref 20]) (σ' := (mj_KS N, I, mj_PP (2) d r)) 3 rfl trivial ?_
            refine R_ce (idx := 49) (mid := 30) (kind := 0) (N := N) (M' := mj_m_X3_goOn) (As := [.ref 20, .ref 2, .int (I 21 (nI j))]) (rest := []) (I := I) (P := mj_PP (2) d r) (I' := (s_X3_goOn (2) m (I 21 (nI j)) I)) (P' := mj_PP (2) d r) (v := none) rfl rfl rfl mj_mc30 mj_dc30 rfl rfl rfl rfl rfl rfl (x_X3_goOn l b base D z N (2) m (I 21 (nI j)) (by decide) I d r hm (mj_wt hQ h1 hjm) (mj_here9 (mj_wt hQ h1 hjm)) hQ (mj_iL h4)) ?_
            refine R_seg (φ := []) (pc' := 37) (L' := [.ref 20, .ref 2, .int s, .int e, .int ((nI j) + 1), .int (I 21 (nI j))]) (st' := []) (σ' := (mj_KS N, (s_X3_goOn (2) m (I 21 (nI j)) I), mj_PP (2) d r)) 2 rfl trivial ?_
            rw [nI_1 j]
            rw [show s_X3_qd 2 m s e (k + 1) j  I = s_X3_qd 2 m s e k (j + 1)  (s_X3_goOn (2) m (I 21 (nI j)) I) from by simp only [s_X3_qd, if_pos h1, if_neg h3, if_pos h4, Bool.false_eq_true, ↓reduceIte, Nat.reduceAdd, Nat.reduceMul, mj_tn0, mj_tn1, mj_tn2, mj_tn3]]
            exact ih (j + 1)  (.int (I 21 (nI j))) (s_X3_goOn (2) m (I 21 (nI j)) I) (by omega) (by omega) (by omega) (mj_go_SQ (by decide) (mj_wt hQ h1 hjm) hQ (mj_iL h4))
          · skip
            refine R_seg (φ := []) (pc' := 37) (L' := [.ref 20, .ref 2, .int s, .int e, .int ((nI j) + 1), .int (I 21 (nI j))]) (st' := []) (σ' := (mj_KS N, I, mj_PP (2) d r)) 2 rfl trivial ?_
            rw [nI_1 j]
            rw [show s_X3_qd 2 m s e (k + 1) j  I = s_X3_qd 2 m s e k (j + 1)  I from by simp only [s_X3_qd, if_pos h1, if_neg h3, if_neg h4, Bool.false_eq_true, ↓reduceIte, Nat.reduceAdd, Nat.reduceMul, mj_tn0, mj_tn1, mj_tn2, mj_tn3]]
            exact ih (j + 1)  (.int (I 21 (nI j))) I (by omega) (by omega) (by omega) (hQ)
      · skip
        refine R_seg (φ := []) (pc' := 109) (L' := [.ref 20, .ref 2, .int s, .int e, .int (nI j), w5]) (st' := [.int (-9)]) (σ' := (mj_KS N, I, mj_PP (2) d r)) 1 rfl trivial ?_
        exact R_ri rfl rfl (mj_leaf (by simp only [s_X3_qd, if_neg h1, Bool.false_eq_true, ↓reduceIte, Nat.reduceAdd, Nat.reduceMul, mj_tn0, mj_tn1, mj_tn2, mj_tn3]) (by simp only [s_X3_qd, if_neg h1, Bool.false_eq_true, ↓reduceIte, Nat.reduceAdd, Nat.reduceMul, mj_tn0, mj_tn1, mj_tn2, mj_tn3]))
  · skip
    intro k
    induction k with
    | zero =>
      intro j w5 I hk hlo hj hQ
      refine R_seg (φ := []) (pc' := 43) (L' := [.ref 20, .ref 10, .int s, .int e, .int (nI j), w5]) (st' := [.int (I 20 4), .int (nI j)]) (σ' := (mj_KS N, I, mj_PP (10) d r)) 3 rfl trivial ?_
      refine R_br (q := (nI j : Int32) < I 20 4) (t := 46) (f := 107) (rest := []) rfl (fun h1 => ?_) (fun h1 => ?_)
      · skip
        refine R_seg (φ := []) (pc' := 51) (L' := [.ref 20, .ref 10, .int s, .int e, .int (nI j), w5]) (st' := [.int 3072, .int (nI j)]) (σ' := (mj_KS N, I, mj_PP (10) d r)) 2 rfl trivial ?_
        refine R_br (q := (nI j : Int32) < 3072) (t := 54) (f := 107) (rest := []) rfl (fun h2 => absurd h2 (show ¬ nI j < nI 3072 from nI_nlt (by omega) (by omega))) (fun h2 => ?_)
        refine R_seg (φ := []) (pc' := 109) (L' := [.ref 20, .ref 10, .int s, .int e, .int (nI j), w5]) (st' := [.int (-9)]) (σ' := (mj_KS N, I, mj_PP (10) d r)) 1 rfl trivial ?_
        exact R_ri rfl rfl (mj_leaf (by simp only [s_X3_qd, if_pos h1, Bool.false_eq_true, ↓reduceIte, Nat.reduceAdd, Nat.reduceMul, mj_tn0, mj_tn1, mj_tn2, mj_tn3]) (by simp only [s_X3_qd, if_pos h1, Bool.false_eq_true, ↓reduceIte, Nat.reduceAdd, Nat.reduceMul, mj_tn0, mj_tn1, mj_tn2, mj_tn3]))
      · skip
        refine R_seg (φ := []) (pc' := 109) (L' := [.ref 20, .ref 10, .int s, .int e, .int (nI j), w5]) (st' := [.int (-9)]) (σ' := (mj_KS N, I, mj_PP (10) d r)) 1 rfl trivial ?_
        exact R_ri rfl rfl (mj_leaf (by simp only [s_X3_qd, if_neg h1, Bool.false_eq_true, ↓reduceIte, Nat.reduceAdd, Nat.reduceMul, mj_tn0, mj_tn1, mj_tn2, mj_tn3]) (by simp only [s_X3_qd, if_neg h1, Bool.false_eq_true, ↓reduceIte, Nat.reduceAdd, Nat.reduceMul, mj_tn0, mj_tn1, mj_tn2, mj_tn3]))
    | succ k ih =>
      intro j w5 I hk hlo hj hQ
      have hjm : j < 3072 := by omega
      have hin : mj_in (nI j) 3072 := mj_in_nI (by omega) (by omega)
      refine R_seg (φ := []) (pc' := 43) (L' := [.ref 20, .ref 10, .int s, .int e, .int (nI j), w5]) (st' := [.int (I 20 4), .int (nI j)]) (σ' := (mj_KS N, I, mj_PP (10) d r)) 3 rfl trivial ?_
      refine R_br (q := (nI j : Int32) < I 20 4) (t := 46) (f := 107) (rest := []) rfl (fun h1 => ?_) (fun h1 => ?_)
      · skip
        refine R_seg (φ := []) (pc' := 51) (L' := [.ref 20, .ref 10, .int s, .int e, .int (nI j), w5]) (st' := [.int 3072, .int (nI j)]) (σ' := (mj_KS N, I, mj_PP (10) d r)) 2 rfl trivial ?_
        refine R_br (q := (nI j : Int32) < 3072) (t := 54) (f := 107) (rest := []) rfl (fun h2 => ?_) (fun h2 => absurd (show nI j < nI 3072 from nI_lt hjm (by omega)) h2)
        refine R_seg (φ := [mj_in (nI j) 3072]) (pc' := 72) (L' := [.ref 20, .ref 10, .int s, .int e, .int (nI j), .int (I 21 (nI j))]) (st' := [.int 438, .int ((I 21 (nI j)) &&& 511)]) (σ' := (mj_KS N, I, mj_PP (10) d r)) 9 rfl ⟨hin, trivial⟩ ?_
        refine R_br (q := ((I 21 (nI j)) &&& 511 : Int32) = 438) (t := 75) (f := 82) (rest := []) rfl (fun h3 => ?_) (fun h3 => ?_)
        · skip
          refine R_seg (φ := []) (pc' := 78) (L' := [.ref 20, .ref 10, .int s, .int e, .int (nI j), .int (I 21 (nI j))]) (st' := [.int (I 21 (nI j)), .ref 20]) (σ' := (mj_KS N, I, mj_PP (10) d r)) 2 rfl trivial ?_
          refine R_ce (idx := 46) (mid := 33) (kind := 0) (N := N) (M' := mj_m_X3_tellFound) (As := [.ref 20, .int (I 21 (nI j))]) (rest := []) (I := I) (P := mj_PP (10) d r) (I' := (s_X3_tellFound (I 21 (nI j)) I).2) (P' := mj_PP (10) d r) (v := some (.int ((s_X3_tellFound (I 21 (nI j)) I).1))) rfl rfl rfl mj_mc33 mj_dc33 rfl rfl rfl rfl rfl rfl (x_X3_tellFound l b base D z N (I 21 (nI j))  I (10) d r (mj_wt hQ h1 hjm) hQ.2.2.2.1 (hQ.2.2.2.2 _ (mj_wt hQ h1 hjm))) ?_
          refine R_seg (φ := []) (pc' := 81) (L' := [.ref 20, .ref 10, .int s, .int e, .int (nI j), .int (I 21 (nI j))]) (st' := [.int ((s_X3_tellFound (I 21 (nI j)) I).1)]) (σ' := (mj_KS N, (s_X3_tellFound (I 21 (nI j)) I).2, mj_PP (10) d r)) 0 rfl trivial ?_
          exact R_ri rfl rfl (mj_leaf (by simp only [s_X3_qd, if_pos h1, if_pos h3, Bool.false_eq_true, ↓reduceIte, Nat.reduceAdd, Nat.reduceMul, mj_tn0, mj_tn1, mj_tn2, mj_tn3]) (by simp only [s_X3_qd, if_pos h1, if_pos h3, Bool.false_eq_true, ↓reduceIte, Nat.reduceAdd, Nat.reduceMul, mj_tn0, mj_tn1, mj_tn2, mj_tn3]))
        · skip
          refine R_seg (φ := [mj_in (I 21 (nI j)) 3072]) (pc' := 91) (L' := [.ref 20, .ref 10, .int s, .int e, .int (nI j), .int (I 21 (nI j))]) (st' := [.int 24, .int (I 23 (I 21 (nI j)))]) (σ' := (mj_KS N, I, mj_PP (10) d r)) 5 rfl ⟨mj_wt hQ h1 hjm, trivial⟩ ?_
          refine R_br (q := (I 23 (I 21 (nI j)) : Int32) < 24) (t := 94) (f := 101) (rest := []) rfl (fun h4 => ?_) (fun h4 => ?_)
          · skip
            refine R_seg (φ := []) (pc' := 98) (L' := [.ref 20, .ref 10, .int s, .int e, .int (nI j), .int (I 21 (nI j))]) (st' := [.int (I 21 (nI j)), .ref 10, .ref 20]) (σ' := (mj_KS N, I, mj_PP (10) d r)) 3 rfl trivial ?_
            refine R_ce (idx := 49) (mid := 30) (kind := 0) (N := N) (M' := mj_m_X3_goOn) (As := [.ref 20, .ref 10, .int (I 21 (nI j))]) (rest := []) (I := I) (P := mj_PP (10) d r) (I' := (s_X3_goOn (10) m (I 21 (nI j)) I)) (P' := mj_PP (10) d r) (v := none) rfl rfl rfl mj_mc30 mj_dc30 rfl rfl rfl rfl rfl rfl (x_X3_goOn l b base D z N (10) m (I 21 (nI j)) (by decide) I d r hm (mj_wt hQ h1 hjm) (mj_here9 (mj_wt hQ h1 hjm)) hQ (mj_iL h4)) ?_
            refine R_seg (φ := []) (pc' := 37) (L' := [.ref 20, .ref 10, .int s, .int e, .int ((nI j) + 1), .int (I 21 (nI j))]) (st' := []) (σ' := (mj_KS N, (s_X3_goOn (10) m (I 21 (nI j)) I), mj_PP (10) d r)) 2 rfl trivial ?_
            rw [nI_1 j]
            rw [show s_X3_qd 10 m s e (k + 1) j  I = s_X3_qd 10 m s e k (j + 1)  (s_X3_goOn (10) m (I 21 (nI j)) I) from by simp only [s_X3_qd, if_pos h1, if_neg h3, if_pos h4, Bool.false_eq_true, ↓reduceIte, Nat.reduceAdd, Nat.reduceMul, mj_tn0, mj_tn1, mj_tn2, mj_tn3]]
            exact ih (j + 1)  (.int (I 21 (nI j))) (s_X3_goOn (10) m (I 21 (nI j)) I) (by omega) (by omega) (by omega) (mj_go_SQ (by decide) (mj_wt hQ h1 hjm) hQ (mj_iL h4))
          · skip
            refine R_seg (φ := []) (pc' := 37) (L' := [.ref 20, .ref 10, .int s, .int e, .int ((nI j) + 1), .int (I 21 (nI j))]) (st' := []) (σ' := (mj_KS N, I, mj_PP (10) d r)) 2 rfl trivial ?_
            rw [nI_1 j]
            rw [show s_X3_qd 10 m s e (k + 1) j  I = s_X3_qd 10 m s e k (j + 1)  I from by simp only [s_X3_qd, if_pos h1, if_neg h3, if_neg h4, Bool.false_eq_true, ↓reduceIte, Nat.reduceAdd, Nat.reduceMul, mj_tn0, mj_tn1, mj_tn2, mj_tn3]]
            exact ih (j + 1)  (.int (I 21 (nI j))) I (by omega) (by omega) (by omega) (hQ)
      · skip
        refine R_seg (φ := []) (pc' := 109) (L' := [.ref 20, .ref 10, .int s, .int e, .int (nI j), w5]) (st' := [.int (-9)]) (σ' := (mj_KS N, I, mj_PP (10) d r)) 1 rfl trivial ?_
        exact R_ri rfl rfl (mj_leaf (by simp only [s_X3_qd, if_neg h1, Bool.false_eq_true, ↓reduceIte, Nat.reduceAdd, Nat.reduceMul, mj_tn0, mj_tn1, mj_tn2, mj_tn3]) (by simp only [s_X3_qd, if_neg h1, Bool.false_eq_true, ↓reduceIte, Nat.reduceAdd, Nat.reduceMul, mj_tn0, mj_tn1, mj_tn2, mj_tn3]))
theorem mj_SQ0 {cc m : Nat} {I : mj_I} (hcc : cc = 2 ∨ cc = 10) (hs : I cc 0 = nI m) (hb : ∀ y, mj_in y 3072 → (I 22 y).toInt < 3072) : mj_SQ cc m (mj_upI (mj_fil I 23 3072 0) 20 4 0) := by
  have c1 : cc ≠ 20 := by omega
  have c2 : cc ≠ 23 := by omega
  refine ⟨by rw [mj_upI_ne c1, mj_fil_ne c2]; exact hs, ?_, ?_, ?_, ?_⟩
  · rw [mj_upI_eq, if_pos rfl]; decide
  · intro t ht
    rw [mj_upI_eq, if_pos rfl] at ht
    exact absurd ht (by have e : (0 : Int32).toInt = 0 := (by decide)
                        omega)
  · intro y hy
    rw [mj_upI_ne (by decide), mj_fil_ne (by decide)]
    exact hb y hy
  · intro y hy
    rw [mj_upI_ne (by decide)]
    unfold mj_fil
    rw [mj_rwI_eq, if_pos (show 0 ≤ y.toInt ∧ y.toInt < ((3072 : Nat) : Int) from hy)]
    decide
def s_X3_quickestDays (cc : Nat) (m : Nat) (s : Int32) (e : Int32) (I : mj_I) : Int32 × mj_I := if (s : Int32) = 0 then (0, I) else ((s_X3_qd (cc) m s e 3072 0  (s_X3_come (s_X3_behindDay (cc) (s_X3_startOf s (mj_upI (mj_fil I 23 3072 0) 20 4 0)) e (mj_upI (mj_fil I 23 3072 0) 20 4 0)) (-1) 1 (mj_upI (mj_fil I 23 3072 0) 20 4 0))).1, (s_X3_qd (cc) m s e 3072 0  (s_X3_come (s_X3_behindDay (cc) (s_X3_startOf s (mj_upI (mj_fil I 23 3072 0) 20 4 0)) e (mj_upI (mj_fil I 23 3072 0) 20 4 0)) (-1) 1 (mj_upI (mj_fil I 23 3072 0) 20 4 0))).2)
set_option maxHeartbeats 8000000 in
theorem x_X3_quickestDays (l : Launch) (b base : Nat) (D : va_G) (z : mj_K × (Int32 → Int32)) (N : Nat) (cc : Nat) (m : Nat) (s : Int32) (e : Int32) (hcc : cc = 2 ∨ cc = 10) (I : mj_I) (d r : Nat) (hm : m ≤ 6) (he : mj_in e 6) (hs : I cc 0 = nI m) (hb : ∀ y, mj_in y 3072 → (I 22 y).toInt < 3072) : mj_Rn l b base D z mj_m_X3_quickestDays 0 [.ref 20, .ref cc, .int s, .int e, mj_mk, mj_mk] [] (mj_KS N, I, mj_PP cc d r) (mj_E N (some (.int (s_X3_quickestDays cc m s e I).1)) (s_X3_quickestDays cc m s e I).2 (mj_PP cc d r)) := by
  rcases hcc with rfl | rfl
  · skip
    refine R_seg (φ := []) (pc' := 1) (L' := [.ref 20, .ref 2, .int s, .int e, mj_mk, mj_mk]) (st' := [.int s]) (σ' := (mj_KS N, I, mj_PP (2) d r)) 1 rfl trivial ?_
    refine R_br (q := (s : Int32) = 0) (t := 4) (f := 6) (rest := []) rfl (fun h1 => ?_) (fun h1 => ?_)
    · skip
      refine R_seg (φ := []) (pc' := 5) (L' := [.ref 20, .ref 2, .int s, .int e, mj_mk, mj_mk]) (st' := [.int 0]) (σ' := (mj_KS N, I, mj_PP (2) d r)) 1 rfl trivial ?_
      exact R_ri rfl rfl (mj_leaf (by simp only [s_X3_quickestDays, if_pos h1, Bool.false_eq_true, ↓reduceIte, Nat.reduceAdd, Nat.reduceMul, mj_tn0, mj_tn1, mj_tn2, mj_tn3]) (by simp only [s_X3_quickestDays, if_pos h1, Bool.false_eq_true, ↓reduceIte, Nat.reduceAdd, Nat.reduceMul, mj_tn0, mj_tn1, mj_tn2, mj_tn3]))
    · skip
      refine R_seg (φ := []) (pc' := 11) (L' := [.ref 20, .ref 2, .int s, .int e, mj_mk, mj_mk]) (st' := [.int 0, .ref 23]) (σ' := (mj_KS N, I, mj_PP (2) d r)) 3 rfl trivial ?_
      refine R_ce (idx := 28) (mid := 161) (kind := 1) (N := N) (M' := mj_m_J7_fill_53178) (As := [.ref 23, .int 0]) (rest := []) (I := I) (P := mj_PP (2) d r) (I' := mj_fil I 23 3072 0) (P' := mj_PP (2) d r) (v := none) rfl rfl rfl mj_mc161 mj_dc161 rfl rfl rfl rfl rfl rfl (x_fill_23 l b base D z N I 0 (2) d r) ?_
      refine R_seg (φ := []) (pc' := 22) (L' := [.ref 20, .ref 2, .int s, .int e, mj_mk, mj_mk]) (st' := [.int s, .ref 2, .ref 20]) (σ' := (mj_KS N, (mj_upI (mj_fil I 23 3072 0) 20 4 0), mj_PP (2) d r)) 6 rfl trivial ?_
      refine R_ce (idx := 34) (mid := 29) (kind := 1) (N := N) (M' := mj_m_X3_startOf) (As := [.int s]) (rest := [.ref 2, .ref 20]) (I := (mj_upI (mj_fil I 23 3072 0) 20 4 0)) (P := mj_PP (2) d r) (I' := (mj_upI (mj_fil I 23 3072 0) 20 4 0)) (P' := mj_PP (2) d r) (v := some (.int (s_X3_startOf s (mj_upI (mj_fil I 23 3072 0) 20 4 0)))) rfl rfl rfl mj_mc29 mj_dc29 rfl rfl rfl rfl rfl rfl (x_X3_startOf l b base D z N s  (mj_upI (mj_fil I 23 3072 0) 20 4 0) (2) d r ) ?_
      refine R_seg (φ := []) (pc' := 26) (L' := [.ref 20, .ref 2, .int s, .int e, mj_mk, mj_mk]) (st' := [.int e, .int (s_X3_startOf s (mj_upI (mj_fil I 23 3072 0) 20 4 0)), .ref 2, .ref 20]) (σ' := (mj_KS N, (mj_upI (mj_fil I 23 3072 0) 20 4 0), mj_PP (2) d r)) 1 rfl trivial ?_
      refine R_ce (idx := 38) (mid := 31) (kind := 1) (N := N) (M' := mj_m_X3_behindDay) (As := [.ref 2, .int (s_X3_startOf s (mj_upI (mj_fil I 23 3072 0) 20 4 0)), .int e]) (rest := [.ref 20]) (I := (mj_upI (mj_fil I 23 3072 0) 20 4 0)) (P := mj_PP (2) d r) (I' := (mj_upI (mj_fil I 23 3072 0) 20 4 0)) (P' := mj_PP (2) d r) (v := some (.int (s_X3_behindDay (2) (s_X3_startOf s (mj_upI (mj_fil I 23 3072 0) 20 4 0)) e (mj_upI (mj_fil I 23 3072 0) 20 4 0)))) rfl rfl rfl mj_mc31 mj_dc31 rfl rfl rfl rfl rfl rfl (x_X3_behindDay l b base D z N (2) (s_X3_startOf s (mj_upI (mj_fil I 23 3072 0) 20 4 0)) e (by decide) (mj_upI (mj_fil I 23 3072 0) 20 4 0) d r he) ?_
      refine R_seg (φ := []) (pc' := 31) (L' := [.ref 20, .ref 2, .int s, .int e, mj_mk, mj_mk]) (st' := [.int 1, .int (-1), .int (s_X3_behindDay (2) (s_X3_startOf s (mj_upI (mj_fil I 23 3072 0) 20 4 0)) e (mj_upI (mj_fil I 23 3072 0) 20 4 0)), .ref 20]) (σ' := (mj_KS N, (mj_upI (mj_fil I 23 3072 0) 20 4 0), mj_PP (2) d r)) 2 rfl trivial ?_
      refine R_ce (idx := 42) (mid := 32) (kind := 0) (N := N) (M' := mj_m_X3_come) (As := [.ref 20, .int (s_X3_behindDay (2) (s_X3_startOf s (mj_upI (mj_fil I 23 3072 0) 20 4 0)) e (mj_upI (mj_fil I 23 3072 0) 20 4 0)), .int (-1), .int 1]) (rest := []) (I := (mj_upI (mj_fil I 23 3072 0) 20 4 0)) (P := mj_PP (2) d r) (I' := (s_X3_come (s_X3_behindDay (2) (s_X3_startOf s (mj_upI (mj_fil I 23 3072 0) 20 4 0)) e (mj_upI (mj_fil I 23 3072 0) 20 4 0)) (-1) 1 (mj_upI (mj_fil I 23 3072 0) 20 4 0))) (P' := mj_PP (2) d r) (v := none) rfl rfl rfl mj_mc32 mj_dc32 rfl rfl rfl rfl rfl rfl (x_X3_come l b base D z N (s_X3_behindDay (2) (s_X3_startOf s (mj_upI (mj_fil I 23 3072 0) 20 4 0)) e (mj_upI (mj_fil I 23 3072 0) 20 4 0)) (-1) 1  (mj_upI (mj_fil I 23 3072 0) 20 4 0) (2) d r (mj_SQ0 (m := m) (by decide) hs hb).2.1.1) ?_
      refine R_seg (φ := []) (pc' := 37) (L' := [.ref 20, .ref 2, .int s, .int e, .int 0, mj_mk]) (st' := []) (σ' := (mj_KS N, (s_X3_come (s_X3_behindDay (2) (s_X3_startOf s (mj_upI (mj_fil I 23 3072 0) 20 4 0)) e (mj_upI (mj_fil I 23 3072 0) 20 4 0)) (-1) 1 (mj_upI (mj_fil I 23 3072 0) 20 4 0)), mj_PP (2) d r)) 2 rfl trivial ?_
      simp only [s_X3_quickestDays, if_neg h1, Bool.false_eq_true, ↓reduceIte, Nat.reduceAdd, Nat.reduceMul, mj_tn0, mj_tn1, mj_tn2, mj_tn3]
      exact x_X3_qd l b base D z N (2) m s e (by decide) d r hm 3072 0  mj_mk (s_X3_come (s_X3_behindDay (2) (s_X3_startOf s (mj_upI (mj_fil I 23 3072 0) 20 4 0)) e (mj_upI (mj_fil I 23 3072 0) 20 4 0)) (-1) 1 (mj_upI (mj_fil I 23 3072 0) 20 4 0)) (by omega) (by omega) (by omega) (mj_come_SQ (by decide) (by decide) (by decide) (mj_SQ0 (by decide) hs hb))
  · skip
    refine R_seg (φ := []) (pc' := 1) (L' := [.ref 20, .ref 10, .int s, .int e, mj_mk, mj_mk]) (st' := [.int s]) (σ' := (mj_KS N, I, mj_PP (10) d r)) 1 rfl trivial ?_
    refine R_br (q := (s : Int32) = 0) (t := 4) (f := 6) (rest := []) rfl (fun h1 => ?_) (fun h1 => ?_)
    · skip
      refine R_seg (φ := []) (pc' := 5) (L' := [.ref 20, .ref 10, .int s, .int e, mj_mk, mj_mk]) (st' := [.int 0]) (σ' := (mj_KS N, I, mj_PP (10) d r)) 1 rfl trivial ?_
      exact R_ri rfl rfl (mj_leaf (by simp only [s_X3_quickestDays, if_pos h1, Bool.false_eq_true, ↓reduceIte, Nat.reduceAdd, Nat.reduceMul, mj_tn0, mj_tn1, mj_tn2, mj_tn3]) (by simp only [s_X3_quickestDays, if_pos h1, Bool.false_eq_true, ↓reduceIte, Nat.reduceAdd, Nat.reduceMul, mj_tn0, mj_tn1, mj_tn2, mj_tn3]))
    · skip
      refine R_seg (φ := []) (pc' := 11) (L' := [.ref 20, .ref 10, .int s, .int e, mj_mk, mj_mk]) (st' := [.int 0, .ref 23]) (σ' := (mj_KS N, I, mj_PP (10) d r)) 3 rfl trivial ?_
      refine R_ce (idx := 28) (mid := 161) (kind := 1) (N := N) (M' := mj_m_J7_fill_53178) (As := [.ref 23, .int 0]) (rest := []) (I := I) (P := mj_PP (10) d r) (I' := mj_fil I 23 3072 0) (P' := mj_PP (10) d r) (v := none) rfl rfl rfl mj_mc161 mj_dc161 rfl rfl rfl rfl rfl rfl (x_fill_23 l b base D z N I 0 (10) d r) ?_
      refine R_seg (φ := []) (pc' := 22) (L' := [.ref 20, .ref 10, .int s, .int e, mj_mk, mj_mk]) (st' := [.int s, .ref 10, .ref 20]) (σ' := (mj_KS N, (mj_upI (mj_fil I 23 3072 0) 20 4 0), mj_PP (10) d r)) 6 rfl trivial ?_
      refine R_ce (idx := 34) (mid := 29) (kind := 1) (N := N) (M' := mj_m_X3_startOf) (As := [.int s]) (rest := [.ref 10, .ref 20]) (I := (mj_upI (mj_fil I 23 3072 0) 20 4 0)) (P := mj_PP (10) d r) (I' := (mj_upI (mj_fil I 23 3072 0) 20 4 0)) (P' := mj_PP (10) d r) (v := some (.int (s_X3_startOf s (mj_upI (mj_fil I 23 3072 0) 20 4 0)))) rfl rfl rfl mj_mc29 mj_dc29 rfl rfl rfl rfl rfl rfl (x_X3_startOf l b base D z N s  (mj_upI (mj_fil I 23 3072 0) 20 4 0) (10) d r ) ?_
      refine R_seg (φ := []) (pc' := 26) (L' := [.ref 20, .ref 10, .int s, .int e, mj_mk, mj_mk]) (st' := [.int e, .int (s_X3_startOf s (mj_upI (mj_fil I 23 3072 0) 20 4 0)), .ref 10, .ref 20]) (σ' := (mj_KS N, (mj_upI (mj_fil I 23 3072 0) 20 4 0), mj_PP (10) d r)) 1 rfl trivial ?_
      refine R_ce (idx := 38) (mid := 31) (kind := 1) (N := N) (M' := mj_m_X3_behindDay) (As := [.ref 10, .int (s_X3_startOf s (mj_upI (mj_fil I 23 3072 0) 20 4 0)), .int e]) (rest := [.ref 20]) (I := (mj_upI (mj_fil I 23 3072 0) 20 4 0)) (P := mj_PP (10) d r) (I' := (mj_upI (mj_fil I 23 3072 0) 20 4 0)) (P' := mj_PP (10) d r) (v := some (.int (s_X3_behindDay (10) (s_X3_startOf s (mj_upI (mj_fil I 23 3072 0) 20 4 0)) e (mj_upI (mj_fil I 23 3072 0) 20 4 0)))) rfl rfl rfl mj_mc31 mj_dc31 rfl rfl rfl rfl rfl rfl (x_X3_behindDay l b base D z N (10) (s_X3_startOf s (mj_upI (mj_fil I 23 3072 0) 20 4 0)) e (by decide) (mj_upI (mj_fil I 23 3072 0) 20 4 0) d r he) ?_
      refine R_seg (φ := []) (pc' := 31) (L' := [.ref 20, .ref 10, .int s, .int e, mj_mk, mj_mk]) (st' := [.int 1, .int (-1), .int (s_X3_behindDay (10) (s_X3_startOf s (mj_upI (mj_fil I 23 3072 0) 20 4 0)) e (mj_upI (mj_fil I 23 3072 0) 20 4 0)), .ref 20]) (σ' := (mj_KS N, (mj_upI (mj_fil I 23 3072 0) 20 4 0), mj_PP (10) d r)) 2 rfl trivial ?_
      refine R_ce (idx := 42) (mid := 32) (kind := 0) (N := N) (M' := mj_m_X3_come) (As := [.ref 20, .int (s_X3_behindDay (10) (s_X3_startOf s (mj_upI (mj_fil I 23 3072 0) 20 4 0)) e (mj_upI (mj_fil I 23 3072 0) 20 4 0)), .int (-1), .int 1]) (rest := []) (I := (mj_upI (mj_fil I 23 3072 0) 20 4 0)) (P := mj_PP (10) d r) (I' := (s_X3_come (s_X3_behindDay (10) (s_X3_startOf s (mj_upI (mj_fil I 23 3072 0) 20 4 0)) e (mj_upI (mj_fil I 23 3072 0) 20 4 0)) (-1) 1 (mj_upI (mj_fil I 23 3072 0) 20 4 0))) (P' := mj_PP (10) d r) (v := none) rfl rfl rfl mj_mc32 mj_dc32 rfl rfl rfl rfl rfl rfl (x_X3_come l b base D z N (s_X3_behindDay (10) (s_X3_startOf s (mj_upI (mj_fil I 23 3072 0) 20 4 0)) e (mj_upI (mj_fil I 23 3072 0) 20 4 0)) (-1) 1  (mj_upI (mj_fil I 23 3072 0) 20 4 0) (10) d r (mj_SQ0 (m := m) (by decide) hs hb).2.1.1) ?_
      refine R_seg (φ := []) (pc' := 37) (L' := [.ref 20, .ref 10, .int s, .int e, .int 0, mj_mk]) (st' := []) (σ' := (mj_KS N, (s_X3_come (s_X3_behindDay (10) (s_X3_startOf s (mj_upI (mj_fil I 23 3072 0) 20 4 0)) e (mj_upI (mj_fil I 23 3072 0) 20 4 0)) (-1) 1 (mj_upI (mj_fil I 23 3072 0) 20 4 0)), mj_PP (10) d r)) 2 rfl trivial ?_
      simp only [s_X3_quickestDays, if_neg h1, Bool.false_eq_true, ↓reduceIte, Nat.reduceAdd, Nat.reduceMul, mj_tn0, mj_tn1, mj_tn2, mj_tn3]
      exact x_X3_qd l b base D z N (10) m s e (by decide) d r hm 3072 0  mj_mk (s_X3_come (s_X3_behindDay (10) (s_X3_startOf s (mj_upI (mj_fil I 23 3072 0) 20 4 0)) e (mj_upI (mj_fil I 23 3072 0) 20 4 0)) (-1) 1 (mj_upI (mj_fil I 23 3072 0) 20 4 0)) (by omega) (by omega) (by omega) (mj_come_SQ (by decide) (by decide) (by decide) (mj_SQ0 (by decide) hs hb))
theorem mj_k24 {k : Int32} (h1 : ¬ k < -1) (h2 : k < 24) (h3 : ¬ k = -1) : mj_in k 24 := by
  have a1 := mj_iN h1
  have a2 := mj_iL h2
  have a3 := mj_iE h3
  have e1 : ((-1) : Int32).toInt = -1 := by decide
  have e2 : (24 : Int32).toInt = 24 := by decide
  exact (show 0 ≤ k.toInt ∧ k.toInt < ((24 : Nat) : Int) from ⟨by omega, by omega⟩)
def s_X5_quickest (cc : Nat) (m : Nat) (s : Int32) (e : Int32) (k : Int32) (I : mj_I) : Int32 × mj_I := if sp_has (I cc 0) e then (if (s : Int32) < 0 then ((-2), I) else (if (s : Int32) < 1 <<< ((I cc 1) &&& 31) then (if (k : Int32) < (-1) then ((-2), I) else (if (k : Int32) < 24 then (if (k : Int32) = (-1) then ((s_X3_quickestDays (cc) m s e I).1, (s_X3_quickestDays (cc) m s e I).2) else (if (k : Int32) < (s_X3_quickestDays (cc) m s e I).1 then (((s_X3_quickestDays (cc) m s e I).2) 24 k, (s_X3_quickestDays (cc) m s e I).2) else ((-9), (s_X3_quickestDays (cc) m s e I).2))) else ((-2), I))) else ((-2), I))) else ((-1), I)
set_option maxHeartbeats 8000000 in
theorem x_X5_quickest (l : Launch) (b base : Nat) (D : va_G) (z : mj_K × (Int32 → Int32)) (N : Nat) (cc : Nat) (m : Nat) (s : Int32) (e : Int32) (k : Int32) (hcc : cc = 2 ∨ cc = 10) (I : mj_I) (d r : Nat) (hm : m ≤ 6) (hs : I cc 0 = nI m) (hn : (I cc 0).toInt ≤ 6) (hb : ∀ y, mj_in y 3072 → (I 22 y).toInt < 3072) : mj_Rn l b base D z mj_m_X5_quickest 0 [.ref 1, .int s, .int e, .int k, mj_mk] [] (mj_KS N, I, mj_PP cc d r) (mj_E N (some (.int (s_X5_quickest cc m s e k I).1)) (s_X5_quickest cc m s e k I).2 (mj_PP cc d r)) := by
  rcases hcc with rfl | rfl
  · skip
    refine R_seg (φ := []) (pc' := 5) (L' := [.ref 1, .int s, .int e, .int k, mj_mk]) (st' := [.int e, .ref 2]) (σ' := (mj_KS N, I, mj_PP (2) d r)) 3 rfl trivial ?_
    refine R_ce (idx := 110) (mid := 7) (kind := 3) (N := N) (M' := mj_m_X1_hasStreet) (As := [.ref 2, .int e]) (rest := []) (I := I) (P := mj_PP (2) d r) (I' := I) (P' := mj_PP (2) d r) (v := some (.int (bI (sp_has (I 2 0) e)))) rfl rfl rfl mj_mc7 mj_dc7 rfl rfl rfl rfl rfl rfl (x_hasStreet l b base D z N 2 (by decide) e I (2) d r) ?_
    refine R_seg (φ := []) (pc' := 8) (L' := [.ref 1, .int s, .int e, .int k, mj_mk]) (st' := [.int (bI (sp_has (I 2 0) e))]) (σ' := (mj_KS N, I, mj_PP (2) d r)) 0 rfl trivial ?_
    refine R_br (q := (bI (sp_has (I 2 0) e) : Int32) = 0) (t := 11) (f := 13) (rest := []) rfl (fun h1 => ?_) (fun h1 => ?_)
    · skip
      replace h1 := bI_0.mp h1
      refine R_seg (φ := []) (pc' := 12) (L' := [.ref 1, .int s, .int e, .int k, mj_mk]) (st' := [.int (-1)]) (σ' := (mj_KS N, I, mj_PP (2) d r)) 1 rfl trivial ?_
      exact R_ri rfl rfl (mj_leaf (by simp only [s_X5_quickest, h1, Bool.false_eq_true, ↓reduceIte, Nat.reduceAdd, Nat.reduceMul, mj_tn0, mj_tn1, mj_tn2, mj_tn3]) (by simp only [s_X5_quickest, h1, Bool.false_eq_true, ↓reduceIte, Nat.reduceAdd, Nat.reduceMul, mj_tn0, mj_tn1, mj_tn2, mj_tn3]))
    · skip
      replace h1 := bI_1 h1
      refine R_seg (φ := []) (pc' := 14) (L' := [.ref 1, .int s, .int e, .int k, mj_mk]) (st' := [.int s]) (σ' := (mj_KS N, I, mj_PP (2) d r)) 1 rfl trivial ?_
      refine R_br (q := (s : Int32) < 0) (t := 41) (f := 17) (rest := []) rfl (fun h2 => ?_) (fun h2 => ?_)
      · skip
        refine R_seg (φ := []) (pc' := 43) (L' := [.ref 1, .int s, .int e, .int k, mj_mk]) (st' := [.int (-2)]) (σ' := (mj_KS N, I, mj_PP (2) d r)) 1 rfl trivial ?_
        exact R_ri rfl rfl (mj_leaf (by simp only [s_X5_quickest, h1, if_pos h2, Bool.false_eq_true, ↓reduceIte, Nat.reduceAdd, Nat.reduceMul, mj_tn0, mj_tn1, mj_tn2, mj_tn3]) (by simp only [s_X5_quickest, h1, if_pos h2, Bool.false_eq_true, ↓reduceIte, Nat.reduceAdd, Nat.reduceMul, mj_tn0, mj_tn1, mj_tn2, mj_tn3]))
      · skip
        refine R_seg (φ := []) (pc' := 27) (L' := [.ref 1, .int s, .int e, .int k, mj_mk]) (st' := [.int (1 <<< ((I 2 1) &&& 31)), .int s]) (σ' := (mj_KS N, I, mj_PP (2) d r)) 6 rfl trivial ?_
        refine R_br (q := (s : Int32) < 1 <<< ((I 2 1) &&& 31)) (t := 30) (f := 41) (rest := []) rfl (fun h3 => ?_) (fun h3 => ?_)
        · skip
          refine R_seg (φ := []) (pc' := 32) (L' := [.ref 1, .int s, .int e, .int k, mj_mk]) (st' := [.int (-1), .int k]) (σ' := (mj_KS N, I, mj_PP (2) d r)) 2 rfl trivial ?_
          refine R_br (q := (k : Int32) < (-1)) (t := 41) (f := 35) (rest := []) rfl (fun h4 => ?_) (fun h4 => ?_)
          · skip
            refine R_seg (φ := []) (pc' := 43) (L' := [.ref 1, .int s, .int e, .int k, mj_mk]) (st' := [.int (-2)]) (σ' := (mj_KS N, I, mj_PP (2) d r)) 1 rfl trivial ?_
            exact R_ri rfl rfl (mj_leaf (by simp only [s_X5_quickest, h1, if_neg h2, if_pos h3, if_pos h4, Bool.false_eq_true, ↓reduceIte, Nat.reduceAdd, Nat.reduceMul, mj_tn0, mj_tn1, mj_tn2, mj_tn3]) (by simp only [s_X5_quickest, h1, if_neg h2, if_pos h3, if_pos h4, Bool.false_eq_true, ↓reduceIte, Nat.reduceAdd, Nat.reduceMul, mj_tn0, mj_tn1, mj_tn2, mj_tn3]))
          · skip
            refine R_seg (φ := []) (pc' := 38) (L' := [.ref 1, .int s, .int e, .int k, mj_mk]) (st' := [.int 24, .int k]) (σ' := (mj_KS N, I, mj_PP (2) d r)) 2 rfl trivial ?_
            refine R_br (q := (k : Int32) < 24) (t := 44) (f := 41) (rest := []) rfl (fun h5 => ?_) (fun h5 => ?_)
            · skip
              refine R_seg (φ := []) (pc' := 54) (L' := [.ref 1, .int s, .int e, .int k, mj_mk]) (st' := [.int e, .int s, .ref 2, .ref 20]) (σ' := (mj_KS N, I, mj_PP (2) d r)) 6 rfl trivial ?_
              refine R_ce (idx := 178) (mid := 28) (kind := 3) (N := N) (M' := mj_m_X3_quickestDays) (As := [.ref 20, .ref 2, .int s, .int e]) (rest := []) (I := I) (P := mj_PP (2) d r) (I' := (s_X3_quickestDays (2) m s e I).2) (P' := mj_PP (2) d r) (v := some (.int ((s_X3_quickestDays (2) m s e I).1))) rfl rfl rfl mj_mc28 mj_dc28 rfl rfl rfl rfl rfl rfl (x_X3_quickestDays l b base D z N (2) m s e (by decide) I d r hm (mj_hasin h1 hn) hs hb) ?_
              refine R_seg (φ := []) (pc' := 61) (L' := [.ref 1, .int s, .int e, .int k, .int ((s_X3_quickestDays (2) m s e I).1)]) (st' := [.int (-1), .int k]) (σ' := (mj_KS N, (s_X3_quickestDays (2) m s e I).2, mj_PP (2) d r)) 3 rfl trivial ?_
              refine R_br (q := (k : Int32) = (-1)) (t := 64) (f := 67) (rest := []) rfl (fun h6 => ?_) (fun h6 => ?_)
              · skip
                refine R_seg (φ := []) (pc' := 66) (L' := [.ref 1, .int s, .int e, .int k, .int ((s_X3_quickestDays (2) m s e I).1)]) (st' := [.int ((s_X3_quickestDays (2) m s e I).1)]) (σ' := (mj_KS N, (s_X3_quickestDays (2) m s e I).2, mj_PP (2) d r)) 1 rfl trivial ?_
                exact R_ri rfl rfl (mj_leaf (by simp only [s_X5_quickest, h1, if_neg h2, if_pos h3, if_neg h4, if_pos h5, if_pos h6, Bool.false_eq_true, ↓reduceIte, Nat.reduceAdd, Nat.reduceMul, mj_tn0, mj_tn1, mj_tn2, mj_tn3]) (by simp only [s_X5_quickest, h1, if_neg h2, if_pos h3, if_neg h4, if_pos h5, if_pos h6, Bool.false_eq_true, ↓reduceIte, Nat.reduceAdd, Nat.reduceMul, mj_tn0, mj_tn1, mj_tn2, mj_tn3]))
              · skip
                refine R_seg (φ := []) (pc' := 70) (L' := [.ref 1, .int s, .int e, .int k, .int ((s_X3_quickestDays (2) m s e I).1)]) (st' := [.int ((s_X3_quickestDays (2) m s e I).1), .int k]) (σ' := (mj_KS N, (s_X3_quickestDays (2) m s e I).2, mj_PP (2) d r)) 2 rfl trivial ?_
                refine R_br (q := (k : Int32) < (s_X3_quickestDays (2) m s e I).1) (t := 73) (f := 85) (rest := []) rfl (fun h7 => ?_) (fun h7 => ?_)
                · skip
                  refine R_seg (φ := [mj_in k 24]) (pc' := 87) (L' := [.ref 1, .int s, .int e, .int k, .int ((s_X3_quickestDays (2) m s e I).1)]) (st' := [.int (((s_X3_quickestDays (2) m s e I).2) 24 k)]) (σ' := (mj_KS N, (s_X3_quickestDays (2) m s e I).2, mj_PP (2) d r)) 6 rfl ⟨mj_k24 h4 h5 h6, trivial⟩ ?_
                  exact R_ri rfl rfl (mj_leaf (by simp only [s_X5_quickest, h1, if_neg h2, if_pos h3, if_neg h4, if_pos h5, if_neg h6, if_pos h7, Bool.false_eq_true, ↓reduceIte, Nat.reduceAdd, Nat.reduceMul, mj_tn0, mj_tn1, mj_tn2, mj_tn3]) (by simp only [s_X5_quickest, h1, if_neg h2, if_pos h3, if_neg h4, if_pos h5, if_neg h6, if_pos h7, Bool.false_eq_true, ↓reduceIte, Nat.reduceAdd, Nat.reduceMul, mj_tn0, mj_tn1, mj_tn2, mj_tn3]))
                · skip
                  refine R_seg (φ := []) (pc' := 87) (L' := [.ref 1, .int s, .int e, .int k, .int ((s_X3_quickestDays (2) m s e I).1)]) (st' := [.int (-9)]) (σ' := (mj_KS N, (s_X3_quickestDays (2) m s e I).2, mj_PP (2) d r)) 1 rfl trivial ?_
                  exact R_ri rfl rfl (mj_leaf (by simp only [s_X5_quickest, h1, if_neg h2, if_pos h3, if_neg h4, if_pos h5, if_neg h6, if_neg h7, Bool.false_eq_true, ↓reduceIte, Nat.reduceAdd, Nat.reduceMul, mj_tn0, mj_tn1, mj_tn2, mj_tn3]) (by simp only [s_X5_quickest, h1, if_neg h2, if_pos h3, if_neg h4, if_pos h5, if_neg h6, if_neg h7, Bool.false_eq_true, ↓reduceIte, Nat.reduceAdd, Nat.reduceMul, mj_tn0, mj_tn1, mj_tn2, mj_tn3]))
            · skip
              refine R_seg (φ := []) (pc' := 43) (L' := [.ref 1, .int s, .int e, .int k, mj_mk]) (st' := [.int (-2)]) (σ' := (mj_KS N, I, mj_PP (2) d r)) 1 rfl trivial ?_
              exact R_ri rfl rfl (mj_leaf (by simp only [s_X5_quickest, h1, if_neg h2, if_pos h3, if_neg h4, if_neg h5, Bool.false_eq_true, ↓reduceIte, Nat.reduceAdd, Nat.reduceMul, mj_tn0, mj_tn1, mj_tn2, mj_tn3]) (by simp only [s_X5_quickest, h1, if_neg h2, if_pos h3, if_neg h4, if_neg h5, Bool.false_eq_true, ↓reduceIte, Nat.reduceAdd, Nat.reduceMul, mj_tn0, mj_tn1, mj_tn2, mj_tn3]))
        · skip
          refine R_seg (φ := []) (pc' := 43) (L' := [.ref 1, .int s, .int e, .int k, mj_mk]) (st' := [.int (-2)]) (σ' := (mj_KS N, I, mj_PP (2) d r)) 1 rfl trivial ?_
          exact R_ri rfl rfl (mj_leaf (by simp only [s_X5_quickest, h1, if_neg h2, if_neg h3, Bool.false_eq_true, ↓reduceIte, Nat.reduceAdd, Nat.reduceMul, mj_tn0, mj_tn1, mj_tn2, mj_tn3]) (by simp only [s_X5_quickest, h1, if_neg h2, if_neg h3, Bool.false_eq_true, ↓reduceIte, Nat.reduceAdd, Nat.reduceMul, mj_tn0, mj_tn1, mj_tn2, mj_tn3]))
  · skip
    refine R_seg (φ := []) (pc' := 5) (L' := [.ref 1, .int s, .int e, .int k, mj_mk]) (st' := [.int e, .ref 10]) (σ' := (mj_KS N, I, mj_PP (10) d r)) 3 rfl trivial ?_
    refine R_ce (idx := 110) (mid := 7) (kind := 3) (N := N) (M' := mj_m_X1_hasStreet) (As := [.ref 10, .int e]) (rest := []) (I := I) (P := mj_PP (10) d r) (I' := I) (P' := mj_PP (10) d r) (v := some (.int (bI (sp_has (I 10 0) e)))) rfl rfl rfl mj_mc7 mj_dc7 rfl rfl rfl rfl rfl rfl (x_hasStreet l b base D z N 10 (by decide) e I (10) d r) ?_
    refine R_seg (φ := []) (pc' := 8) (L' := [.ref 1, .int s, .int e, .int k, mj_mk]) (st' := [.int (bI (sp_has (I 10 0) e))]) (σ' := (mj_KS N, I, mj_PP (10) d r)) 0 rfl trivial ?_
    refine R_br (q := (bI (sp_has (I 10 0) e) : Int32) = 0) (t := 11) (f := 13) (rest := []) rfl (fun h1 => ?_) (fun h1 => ?_)
    · skip
      replace h1 := bI_0.mp h1
      refine R_seg (φ := []) (pc' := 12) (L' := [.ref 1, .int s, .int e, .int k, mj_mk]) (st' := [.int (-1)]) (σ' := (mj_KS N, I, mj_PP (10) d r)) 1 rfl trivial ?_
      exact R_ri rfl rfl (mj_leaf (by simp only [s_X5_quickest, h1, Bool.false_eq_true, ↓reduceIte, Nat.reduceAdd, Nat.reduceMul, mj_tn0, mj_tn1, mj_tn2, mj_tn3]) (by simp only [s_X5_quickest, h1, Bool.false_eq_true, ↓reduceIte, Nat.reduceAdd, Nat.reduceMul, mj_tn0, mj_tn1, mj_tn2, mj_tn3]))
    · skip
      replace h1 := bI_1 h1
      refine R_seg (φ := []) (pc' := 14) (L' := [.ref 1, .int s, .int e, .int k, mj_mk]) (st' := [.int s]) (σ' := (mj_KS N, I, mj_PP (10) d r)) 1 rfl trivial ?_
      refine R_br (q := (s : Int32) < 0) (t := 41) (f := 17) (rest := []) rfl (fun h2 => ?_) (fun h2 => ?_)
      · skip
        refine R_seg (φ := []) (pc' := 43) (L' := [.ref 1, .int s, .int e, .int k, mj_mk]) (st' := [.int (-2)]) (σ' := (mj_KS N, I, mj_PP (10) d r)) 1 rfl trivial ?_
        exact R_ri rfl rfl (mj_leaf (by simp only [s_X5_quickest, h1, if_pos h2, Bool.false_eq_true, ↓reduceIte, Nat.reduceAdd, Nat.reduceMul, mj_tn0, mj_tn1, mj_tn2, mj_tn3]) (by simp only [s_X5_quickest, h1, if_pos h2, Bool.false_eq_true, ↓reduceIte, Nat.reduceAdd, Nat.reduceMul, mj_tn0, mj_tn1, mj_tn2, mj_tn3]))
      · skip
        refine R_seg (φ := []) (pc' := 27) (L' := [.ref 1, .int s, .int e, .int k, mj_mk]) (st' := [.int (1 <<< ((I 10 1) &&& 31)), .int s]) (σ' := (mj_KS N, I, mj_PP (10) d r)) 6 rfl trivial ?_
        refine R_br (q := (s : Int32) < 1 <<< ((I 10 1) &&& 31)) (t := 30) (f := 41) (rest := []) rfl (fun h3 => ?_) (fun h3 => ?_)
        · skip
          refine R_seg (φ := []) (pc' := 32) (L' := [.ref 1, .int s, .int e, .int k, mj_mk]) (st' := [.int (-1), .int k]) (σ' := (mj_KS N, I, mj_PP (10) d r)) 2 rfl trivial ?_
          refine R_br (q := (k : Int32) < (-1)) (t := 41) (f := 35) (rest := []) rfl (fun h4 => ?_) (fun h4 => ?_)
          · skip
            refine R_seg (φ := []) (pc' := 43) (L' := [.ref 1, .int s, .int e, .int k, mj_mk]) (st' := [.int (-2)]) (σ' := (mj_KS N, I, mj_PP (10) d r)) 1 rfl trivial ?_
            exact R_ri rfl rfl (mj_leaf (by simp only [s_X5_quickest, h1, if_neg h2, if_pos h3, if_pos h4, Bool.false_eq_true, ↓reduceIte, Nat.reduceAdd, Nat.reduceMul, mj_tn0, mj_tn1, mj_tn2, mj_tn3]) (by simp only [s_X5_quickest, h1, if_neg h2, if_pos h3, if_pos h4, Bool.false_eq_true, ↓reduceIte, Nat.reduceAdd, Nat.reduceMul, mj_tn0, mj_tn1, mj_tn2, mj_tn3]))
          · skip
            refine R_seg (φ := []) (pc' := 38) (L' := [.ref 1, .int s, .int e, .int k, mj_mk]) (st' := [.int 24, .int k]) (σ' := (mj_KS N, I, mj_PP (10) d r)) 2 rfl trivial ?_
            refine R_br (q := (k : Int32) < 24) (t := 44) (f := 41) (rest := []) rfl (fun h5 => ?_) (fun h5 => ?_)
            · skip
              refine R_seg (φ := []) (pc' := 54) (L' := [.ref 1, .int s, .int e, .int k, mj_mk]) (st' := [.int e, .int s, .ref 10, .ref 20]) (σ' := (mj_KS N, I, mj_PP (10) d r)) 6 rfl trivial ?_
              refine R_ce (idx := 178) (mid := 28) (kind := 3) (N := N) (M' := mj_m_X3_quickestDays) (As := [.ref 20, .ref 10, .int s, .int e]) (rest := []) (I := I) (P := mj_PP (10) d r) (I' := (s_X3_quickestDays (10) m s e I).2) (P' := mj_PP (10) d r) (v := some (.int ((s_X3_quickestDays (10) m s e I).1))) rfl rfl rfl mj_mc28 mj_dc28 rfl rfl rfl rfl rfl rfl (x_X3_quickestDays l b base D z N (10) m s e (by decide) I d r hm (mj_hasin h1 hn) hs hb) ?_
              refine R_seg (φ := []) (pc' := 61) (L' := [.ref 1, .int s, .int e, .int k, .int ((s_X3_quickestDays (10) m s e I).1)]) (st' := [.int (-1), .int k]) (σ' := (mj_KS N, (s_X3_quickestDays (10) m s e I).2, mj_PP (10) d r)) 3 rfl trivial ?_
              refine R_br (q := (k : Int32) = (-1)) (t := 64) (f := 67) (rest := []) rfl (fun h6 => ?_) (fun h6 => ?_)
              · skip
                refine R_seg (φ := []) (pc' := 66) (L' := [.ref 1, .int s, .int e, .int k, .int ((s_X3_quickestDays (10) m s e I).1)]) (st' := [.int ((s_X3_quickestDays (10) m s e I).1)]) (σ' := (mj_KS N, (s_X3_quickestDays (10) m s e I).2, mj_PP (10) d r)) 1 rfl trivial ?_
                exact R_ri rfl rfl (mj_leaf (by simp only [s_X5_quickest, h1, if_neg h2, if_pos h3, if_neg h4, if_pos h5, if_pos h6, Bool.false_eq_true, ↓reduceIte, Nat.reduceAdd, Nat.reduceMul, mj_tn0, mj_tn1, mj_tn2, mj_tn3]) (by simp only [s_X5_quickest, h1, if_neg h2, if_pos h3, if_neg h4, if_pos h5, if_pos h6, Bool.false_eq_true, ↓reduceIte, Nat.reduceAdd, Nat.reduceMul, mj_tn0, mj_tn1, mj_tn2, mj_tn3]))
              · skip
                refine R_seg (φ := []) (pc' := 70) (L' := [.ref 1, .int s, .int e, .int k, .int ((s_X3_quickestDays (10) m s e I).1)]) (st' := [.int ((s_X3_quickestDays (10) m s e I).1), .int k]) (σ' := (mj_KS N, (s_X3_quickestDays (10) m s e I).2, mj_PP (10) d r)) 2 rfl trivial ?_
                refine R_br (q := (k : Int32) < (s_X3_quickestDays (10) m s e I).1) (t := 73) (f := 85) (rest := []) rfl (fun h7 => ?_) (fun h7 => ?_)
                · skip
                  refine R_seg (φ := [mj_in k 24]) (pc' := 87) (L' := [.ref 1, .int s, .int e, .int k, .int ((s_X3_quickestDays (10) m s e I).1)]) (st' := [.int (((s_X3_quickestDays (10) m s e I).2) 24 k)]) (σ' := (mj_KS N, (s_X3_quickestDays (10) m s e I).2, mj_PP (10) d r)) 6 rfl ⟨mj_k24 h4 h5 h6, trivial⟩ ?_
                  exact R_ri rfl rfl (mj_leaf (by simp only [s_X5_quickest, h1, if_neg h2, if_pos h3, if_neg h4, if_pos h5, if_neg h6, if_pos h7, Bool.false_eq_true, ↓reduceIte, Nat.reduceAdd, Nat.reduceMul, mj_tn0, mj_tn1, mj_tn2, mj_tn3]) (by simp only [s_X5_quickest, h1, if_neg h2, if_pos h3, if_neg h4, if_pos h5, if_neg h6, if_pos h7, Bool.false_eq_true, ↓reduceIte, Nat.reduceAdd, Nat.reduceMul, mj_tn0, mj_tn1, mj_tn2, mj_tn3]))
                · skip
                  refine R_seg (φ := []) (pc' := 87) (L' := [.ref 1, .int s, .int e, .int k, .int ((s_X3_quickestDays (10) m s e I).1)]) (st' := [.int (-9)]) (σ' := (mj_KS N, (s_X3_quickestDays (10) m s e I).2, mj_PP (10) d r)) 1 rfl trivial ?_
                  exact R_ri rfl rfl (mj_leaf (by simp only [s_X5_quickest, h1, if_neg h2, if_pos h3, if_neg h4, if_pos h5, if_neg h6, if_neg h7, Bool.false_eq_true, ↓reduceIte, Nat.reduceAdd, Nat.reduceMul, mj_tn0, mj_tn1, mj_tn2, mj_tn3]) (by simp only [s_X5_quickest, h1, if_neg h2, if_pos h3, if_neg h4, if_pos h5, if_neg h6, if_neg h7, Bool.false_eq_true, ↓reduceIte, Nat.reduceAdd, Nat.reduceMul, mj_tn0, mj_tn1, mj_tn2, mj_tn3]))
            · skip
              refine R_seg (φ := []) (pc' := 43) (L' := [.ref 1, .int s, .int e, .int k, mj_mk]) (st' := [.int (-2)]) (σ' := (mj_KS N, I, mj_PP (10) d r)) 1 rfl trivial ?_
              exact R_ri rfl rfl (mj_leaf (by simp only [s_X5_quickest, h1, if_neg h2, if_pos h3, if_neg h4, if_neg h5, Bool.false_eq_true, ↓reduceIte, Nat.reduceAdd, Nat.reduceMul, mj_tn0, mj_tn1, mj_tn2, mj_tn3]) (by simp only [s_X5_quickest, h1, if_neg h2, if_pos h3, if_neg h4, if_neg h5, Bool.false_eq_true, ↓reduceIte, Nat.reduceAdd, Nat.reduceMul, mj_tn0, mj_tn1, mj_tn2, mj_tn3]))
        · skip
          refine R_seg (φ := []) (pc' := 43) (L' := [.ref 1, .int s, .int e, .int k, mj_mk]) (st' := [.int (-2)]) (σ' := (mj_KS N, I, mj_PP (10) d r)) 1 rfl trivial ?_
          exact R_ri rfl rfl (mj_leaf (by simp only [s_X5_quickest, h1, if_neg h2, if_neg h3, Bool.false_eq_true, ↓reduceIte, Nat.reduceAdd, Nat.reduceMul, mj_tn0, mj_tn1, mj_tn2, mj_tn3]) (by simp only [s_X5_quickest, h1, if_neg h2, if_neg h3, Bool.false_eq_true, ↓reduceIte, Nat.reduceAdd, Nat.reduceMul, mj_tn0, mj_tn1, mj_tn2, mj_tn3]))
