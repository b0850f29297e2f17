/-! the class: chances -/
theorem mj_gr8 (k : Int32) (W : Int32 → Int32) (g se : Int32) : ∃ u : Nat, u < 8 ∧ sp_gr k W g se = nI u := by
  unfold sp_gr
  by_cases h1 : g < 0
  · rw [if_pos h1]; exact ⟨6, by decide, rfl⟩
  · rw [if_neg h1]
    by_cases h2 : g < 6
    · rw [if_pos h2]
      obtain ⟨j, hj, rfl⟩ := mj_lit (M := 6) (n := 6) (by decide) h1 (fun q => absurd (mj_iL h2) (by have := Int32.le_iff_toInt_le.mp q; omega))
      have : j = 0 ∨ j = 1 ∨ j = 2 ∨ j = 3 ∨ j = 4 ∨ j = 5 := by omega
      rcases this with rfl | rfl | rfl | rfl | rfl | rfl
      all_goals
        repeat' split
      all_goals first
        | exact ⟨0, by decide, rfl⟩
        | exact ⟨1, by decide, rfl⟩
        | exact ⟨2, by decide, rfl⟩
        | exact ⟨3, by decide, rfl⟩
        | exact ⟨4, by decide, rfl⟩
        | exact ⟨5, by decide, rfl⟩
        | exact ⟨6, by decide, rfl⟩
        | exact ⟨7, by decide, rfl⟩
    · rw [if_neg h2]; exact ⟨6, by decide, rfl⟩
theorem mj_g8 (I : mj_I) (c : Nat) (q g se : Int32) : ∃ u : Nat, u < 8 ∧ sp_g I c q g se = nI u := mj_gr8 _ _ _ _
theorem mj_pack : ∀ s u : Nat, s < 6 → u < 8 → (nI s <<< ((3 : Int32) &&& 31)) ||| nI u = nI (8 * s + u) := by
  have h : ∀ s : Fin 6, ∀ u : Fin 8, (nI s.1 <<< ((3 : Int32) &&& 31)) ||| nI u.1 = nI (8 * s.1 + u.1) := by decide
  exact fun s u hs hu => h ⟨s, hs⟩ ⟨u, hu⟩
theorem mj_here : ∀ j : Nat, j < 48 → mj_in (nI j >>> ((3 : Int32) &&& 31)) 6 := by
  unfold mj_in
  decide
def s_X0_behindDay (cc : Nat) (q : Int32) (g : Int32) (e : Int32) (I : mj_I) : Int32 := (e <<< (3 &&& 31)) ||| (sp_g I cc q g (I (cc + 1) e))
set_option maxHeartbeats 8000000 in
theorem x_X0_behindDay (l : Launch) (b base : Nat) (D : va_G) (z : mj_K × (Int32 → Int32)) (N : Nat) (cc : Nat) (q : Int32) (g : Int32) (e : Int32) (hcc : cc = 2 ∨ cc = 10) (I : mj_I) (d r : Nat) (hq : q = 0 ∨ q = 1 ∨ q = 2) (he : mj_in e 6) : mj_Rn l b base D z mj_m_X0_behindDay 0 [.ref cc, .int q, .int g, .int e] [] (mj_KS N, I, mj_PP cc d r) (mj_E N (some (.int (s_X0_behindDay cc q g e I))) I (mj_PP cc d r)) := by
  rcases hcc with rfl | rfl
  · skip
    refine R_seg (φ := [mj_in e 6]) (pc' := 12) (L' := [.ref 2, .int q, .int g, .int e]) (st' := [.int (I 3 e), .int g, .int q, .ref 2, .int (e <<< (3 &&& 31))]) (σ' := (mj_KS N, I, mj_PP (2) d r)) 10 rfl ⟨he, trivial⟩ ?_
    refine R_ce (idx := 64) (mid := 14) (kind := 3) (N := N) (M' := mj_m_X1_grown) (As := [.ref 2, .int q, .int g, .int (I 3 e)]) (rest := [.int (e <<< (3 &&& 31))]) (I := I) (P := mj_PP (2) d r) (I' := I) (P' := mj_PP (2) d r) (v := some (.int (sp_g I 2 q g (I 3 e)))) rfl rfl rfl mj_mc14 mj_dc14 rfl rfl rfl rfl rfl rfl (x_grown l b base D z N 2 (by decide) q g (I 3 e) hq I (2) d r) ?_
    refine R_seg (φ := []) (pc' := 16) (L' := [.ref 2, .int q, .int g, .int e]) (st' := [.int ((e <<< (3 &&& 31)) ||| (sp_g I 2 q g (I 3 e)))]) (σ' := (mj_KS N, I, mj_PP (2) d r)) 1 rfl trivial ?_
    exact R_ri rfl rfl (mj_leaf (by simp only [s_X0_behindDay, Bool.false_eq_true, ↓reduceIte, Nat.reduceAdd, Nat.reduceMul, mj_tn0, mj_tn1, mj_tn2, mj_tn3]) (by simp only [s_X0_behindDay, Bool.false_eq_true, ↓reduceIte, Nat.reduceAdd, Nat.reduceMul, mj_tn0, mj_tn1, mj_tn2, mj_tn3]))
  · skip
    refine R_seg (φ := [mj_in e 6]) (pc' := 12) (L' := [.ref 10, .int q, .int g, .int e]) (st' := [.int (I 11 e), .int g, .int q, .ref 10, .int (e <<< (3 &&& 31))]) (σ' := (mj_KS N, I, mj_PP (10) d r)) 10 rfl ⟨he, trivial⟩ ?_
    refine R_ce (idx := 64) (mid := 14) (kind := 3) (N := N) (M' := mj_m_X1_grown) (As := [.ref 10, .int q, .int g, .int (I 11 e)]) (rest := [.int (e <<< (3 &&& 31))]) (I := I) (P := mj_PP (10) d r) (I' := I) (P' := mj_PP (10) d r) (v := some (.int (sp_g I 10 q g (I 11 e)))) rfl rfl rfl mj_mc14 mj_dc14 rfl rfl rfl rfl rfl rfl (x_grown l b base D z N 10 (by decide) q g (I 11 e) hq I (10) d r) ?_
    refine R_seg (φ := []) (pc' := 16) (L' := [.ref 10, .int q, .int g, .int e]) (st' := [.int ((e <<< (3 &&& 31)) ||| (sp_g I 10 q g (I 11 e)))]) (σ' := (mj_KS N, I, mj_PP (10) d r)) 1 rfl trivial ?_
    exact R_ri rfl rfl (mj_leaf (by simp only [s_X0_behindDay, Bool.false_eq_true, ↓reduceIte, Nat.reduceAdd, Nat.reduceMul, mj_tn0, mj_tn1, mj_tn2, mj_tn3]) (by simp only [s_X0_behindDay, Bool.false_eq_true, ↓reduceIte, Nat.reduceAdd, Nat.reduceMul, mj_tn0, mj_tn1, mj_tn2, mj_tn3]))
theorem mj_bd_in {cc : Nat} {q g : Int32} {j : Nat} {I : mj_I} (hj : j < 6) : mj_in (s_X0_behindDay cc q g (nI j) I) 48 := by
  obtain ⟨u, hu, e⟩ := mj_g8 I cc q g (I (cc + 1) (nI j))
  have e2 : s_X0_behindDay cc q g (nI j) I = nI (8 * j + u) := by
    unfold s_X0_behindDay
    rw [e]
    exact mj_pack j u hj hu
  rw [e2]
  exact mj_in_nI (by omega) (by omega)
def s_X0_go1 (cc : Nat) (m : Nat) (q : Int32) (s : Int32) (e : Int32) : Nat → Nat → mj_I → mj_I
  | 0, j, I => I
  | k + 1, j, I => if sp_can (I (cc + 2)) e (nI j) then (s_X0_go1 cc m q s e k (j + 1)  (mj_upI I 27 (s_X0_behindDay (cc) q (s &&& 7) (nI j) I) ((I 27 (s_X0_behindDay (cc) q (s &&& 7) (nI j) I)) + (I 26 s)))) else (s_X0_go1 cc m q s e k (j + 1)  I)
set_option maxHeartbeats 8000000 in
theorem x_X0_go1 (l : Launch) (b base : Nat) (D : va_G) (z : mj_K × (Int32 → Int32)) (N : Nat) (cc : Nat) (m : Nat) (q : Int32) (s : Int32) (e : Int32) (hcc : cc = 2 ∨ cc = 10) (d r : Nat) (hm : m ≤ 6) (hq : q = 0 ∨ q = 1 ∨ q = 2) (hst : mj_in s 48) (he : mj_in e 6) : ∀ (k j : Nat) (I : mj_I), k = m - j → 0 ≤ j → j ≤ m + 1 → I cc 0 = nI m → mj_Rn l b base D z mj_m_X0_goOn 8 [.ref 25, .ref cc, .int q, .int s, .int e, .int (nI j)] [] (mj_KS N, I, mj_PP cc d r) (mj_E N none (s_X0_go1 cc m q s e k j  I) (mj_PP cc d r)) := by
  rcases hcc with rfl | rfl
  · skip
    intro k
    induction k with
    | zero =>
      intro j I hk hlo hj hs
      refine R_seg (φ := []) (pc' := 14) (L' := [.ref 25, .ref 2, .int q, .int s, .int e, .int (nI j)]) (st' := [.int (I 2 0), .int (nI j)]) (σ' := (mj_KS N, I, mj_PP (2) d r)) 3 rfl trivial ?_
      refine R_br (q := (nI j : Int32) < I 2 0) (t := 17) (f := 59) (rest := []) rfl (fun h1 => absurd h1 (by rw [hs]; exact nI_nlt (by omega) (by omega))) (fun h1 => ?_)
      exact R_rv rfl rfl (mj_leaf (by simp only [s_X0_go1, Bool.false_eq_true, ↓reduceIte, Nat.reduceAdd, Nat.reduceMul, mj_tn0, mj_tn1, mj_tn2, mj_tn3]) (by simp only [s_X0_go1, Bool.false_eq_true, ↓reduceIte, Nat.reduceAdd, Nat.reduceMul, mj_tn0, mj_tn1, mj_tn2, mj_tn3]))
    | succ k ih =>
      intro j I hk hlo hj hs
      have hjm : j < m := by omega
      have hin : mj_in (nI j) 6 := mj_in_nI (by omega) (by omega)
      refine R_seg (φ := []) (pc' := 14) (L' := [.ref 25, .ref 2, .int q, .int s, .int e, .int (nI j)]) (st' := [.int (I 2 0), .int (nI j)]) (σ' := (mj_KS N, I, mj_PP (2) d r)) 3 rfl trivial ?_
      refine R_br (q := (nI j : Int32) < I 2 0) (t := 17) (f := 59) (rest := []) rfl (fun h1 => ?_) (fun h1 => absurd (by rw [hs]; exact nI_lt hjm (by omega)) h1)
      refine R_seg (φ := []) (pc' := 22) (L' := [.ref 25, .ref 2, .int q, .int s, .int e, .int (nI j)]) (st' := [.int (nI j), .int e, .ref 2]) (σ' := (mj_KS N, I, mj_PP (2) d r)) 3 rfl trivial ?_
      refine R_ce (idx := 57) (mid := 10) (kind := 3) (N := N) (M' := mj_m_X1_canStep) (As := [.ref 2, .int e, .int (nI j)]) (rest := []) (I := I) (P := mj_PP (2) d r) (I' := I) (P' := mj_PP (2) d r) (v := some (.int (bI (sp_can (I 4) e (nI j))))) rfl rfl rfl mj_mc10 mj_dc10 rfl rfl rfl rfl rfl rfl (x_canStep l b base D z N 2 (by decide) e (nI j) I (2) d r he) ?_
      refine R_seg (φ := []) (pc' := 25) (L' := [.ref 25, .ref 2, .int q, .int s, .int e, .int (nI j)]) (st' := [.int (bI (sp_can (I 4) e (nI j)))]) (σ' := (mj_KS N, I, mj_PP (2) d r)) 0 rfl trivial ?_
      refine R_br (q := (bI (sp_can (I 4) e (nI j)) : Int32) = 0) (t := 53) (f := 28) (rest := []) rfl (fun h2 => ?_) (fun h2 => ?_)
      · skip
        replace h2 := bI_0.mp h2
        refine R_seg (φ := []) (pc' := 8) (L' := [.ref 25, .ref 2, .int q, .int s, .int e, .int ((nI j) + 1)]) (st' := []) (σ' := (mj_KS N, I, mj_PP (2) d r)) 2 rfl trivial ?_
        rw [nI_1 j]
        rw [show s_X0_go1 2 m q s e (k + 1) j  I = s_X0_go1 2 m q s e k (j + 1)  I from by simp only [s_X0_go1, h2, Bool.false_eq_true, ↓reduceIte, Nat.reduceAdd, Nat.reduceMul, mj_tn0, mj_tn1, mj_tn2, mj_tn3]]
        exact ih (j + 1)  I (by omega) (by omega) (by omega) (hs)
      · skip
        replace h2 := bI_1 h2
        refine R_seg (φ := []) (pc' := 40) (L' := [.ref 25, .ref 2, .int q, .int s, .int e, .int (nI j)]) (st' := [.int (nI j), .int (s &&& 7), .int q, .ref 2, .ref 27]) (σ' := (mj_KS N, I, mj_PP (2) d r)) 8 rfl trivial ?_
        refine R_ce (idx := 31) (mid := 4) (kind := 1) (N := N) (M' := mj_m_X0_behindDay) (As := [.ref 2, .int q, .int (s &&& 7), .int (nI j)]) (rest := [.ref 27]) (I := I) (P := mj_PP (2) d r) (I' := I) (P' := mj_PP (2) d r) (v := some (.int (s_X0_behindDay (2) q (s &&& 7) (nI j) I))) rfl rfl rfl mj_mc4 mj_dc4 rfl rfl rfl rfl rfl rfl (x_X0_behindDay l b base D z N (2) q (s &&& 7) (nI j) (by decide) I d r hq hin) ?_
        refine R_seg (φ := [mj_in (s_X0_behindDay (2) q (s &&& 7) (nI j) I) 48, mj_in s 48, mj_in (s_X0_behindDay (2) q (s &&& 7) (nI j) I) 48]) (pc' := 8) (L' := [.ref 25, .ref 2, .int q, .int s, .int e, .int ((nI j) + 1)]) (st' := []) (σ' := (mj_KS N, (mj_upI I 27 (s_X0_behindDay (2) q (s &&& 7) (nI j) I) ((I 27 (s_X0_behindDay (2) q (s &&& 7) (nI j) I)) + (I 26 s))), mj_PP (2) d r)) 10 rfl ⟨mj_bd_in (by omega), hst, mj_bd_in (by omega), trivial⟩ ?_
        rw [nI_1 j]
        rw [show s_X0_go1 2 m q s e (k + 1) j  I = s_X0_go1 2 m q s e k (j + 1)  (mj_upI I 27 (s_X0_behindDay (2) q (s &&& 7) (nI j) I) ((I 27 (s_X0_behindDay (2) q (s &&& 7) (nI j) I)) + (I 26 s))) from by simp only [s_X0_go1, h2, Bool.false_eq_true, ↓reduceIte, Nat.reduceAdd, Nat.reduceMul, mj_tn0, mj_tn1, mj_tn2, mj_tn3]]
        exact ih (j + 1)  (mj_upI I 27 (s_X0_behindDay (2) q (s &&& 7) (nI j) I) ((I 27 (s_X0_behindDay (2) q (s &&& 7) (nI j) I)) + (I 26 s))) (by omega) (by omega) (by omega) ((congrFun (mj_upI_ne (by decide)) _).trans hs)
  · skip
    intro k
    induction k with
    | zero =>
      intro j I hk hlo hj hs
      refine R_seg (φ := []) (pc' := 14) (L' := [.ref 25, .ref 10, .int q, .int s, .int e, .int (nI j)]) (st' := [.int (I 10 0), .int (nI j)]) (σ' := (mj_KS N, I, mj_PP (10) d r)) 3 rfl trivial ?_
      refine R_br (q := (nI j : Int32) < I 10 0) (t := 17) (f := 59) (rest := []) rfl (fun h1 => absurd h1 (by rw [hs]; exact nI_nlt (by omega) (by omega))) (fun h1 => ?_)
      exact R_rv rfl rfl (mj_leaf (by simp only [s_X0_go1, Bool.false_eq_true, ↓reduceIte, Nat.reduceAdd, Nat.reduceMul, mj_tn0, mj_tn1, mj_tn2, mj_tn3]) (by simp only [s_X0_go1, Bool.false_eq_true, ↓reduceIte, Nat.reduceAdd, Nat.reduceMul, mj_tn0, mj_tn1, mj_tn2, mj_tn3]))
    | succ k ih =>
      intro j I hk hlo hj hs
      have hjm : j < m := by omega
      have hin : mj_in (nI j) 6 := mj_in_nI (by omega) (by omega)
      refine R_seg (φ := []) (pc' := 14) (L' := [.ref 25, .ref 10, .int q, .int s, .int e, .int (nI j)]) (st' := [.int (I 10 0), .int (nI j)]) (σ' := (mj_KS N, I, mj_PP (10) d r)) 3 rfl trivial ?_
      refine R_br (q := (nI j : Int32) < I 10 0) (t := 17) (f := 59) (rest := []) rfl (fun h1 => ?_) (fun h1 => absurd (by rw [hs]; exact nI_lt hjm (by omega)) h1)
      refine R_seg (φ := []) (pc' := 22) (L' := [.ref 25, .ref 10, .int q, .int s, .int e, .int (nI j)]) (st' := [.int (nI j), .int e, .ref 10]) (σ' := (mj_KS N, I, mj_PP (10) d r)) 3 rfl trivial ?_
      refine R_ce (idx := 57) (mid := 10) (kind := 3) (N := N) (M' := mj_m_X1_canStep) (As := [.ref 10, .int e, .int (nI j)]) (rest := []) (I := I) (P := mj_PP (10) d r) (I' := I) (P' := mj_PP (10) d r) (v := some (.int (bI (sp_can (I 12) e (nI j))))) rfl rfl rfl mj_mc10 mj_dc10 rfl rfl rfl rfl rfl rfl (x_canStep l b base D z N 10 (by decide) e (nI j) I (10) d r he) ?_
      refine R_seg (φ := []) (pc' := 25) (L' := [.ref 25, .ref 10, .int q, .int s, .int e, .int (nI j)]) (st' := [.int (bI (sp_can (I 12) e (nI j)))]) (σ' := (mj_KS N, I, mj_PP (10) d r)) 0 rfl trivial ?_
      refine R_br (q := (bI (sp_can (I 12) e (nI j)) : Int32) = 0) (t := 53) (f := 28) (rest := []) rfl (fun h2 => ?_) (fun h2 => ?_)
      · skip
        replace h2 := bI_0.mp h2
        refine R_seg (φ := []) (pc' := 8) (L' := [.ref 25, .ref 10, .int q, .int s, .int e, .int ((nI j) + 1)]) (st' := []) (σ' := (mj_KS N, I, mj_PP (10) d r)) 2 rfl trivial ?_
        rw [nI_1 j]
        rw [show s_X0_go1 10 m q s e (k + 1) j  I = s_X0_go1 10 m q s e k (j + 1)  I from by simp only [s_X0_go1, h2, Bool.false_eq_true, ↓reduceIte, Nat.reduceAdd, Nat.reduceMul, mj_tn0, mj_tn1, mj_tn2, mj_tn3]]
        exact ih (j + 1)  I (by omega) (by omega) (by omega) (hs)
      · skip
        replace h2 := bI_1 h2
        refine R_seg (φ := []) (pc' := 40) (L' := [.ref 25, .ref 10, .int q, .int s, .int e, .int (nI j)]) (st' := [.int (nI j), .int (s &&& 7), .int q, .ref 10, .ref 27]) (σ' := (mj_KS N, I, mj_PP (10) d r)) 8 rfl trivial ?_
        refine R_ce (idx := 31) (mid := 4) (kind := 1) (N := N) (M' := mj_m_X0_behindDay) (As := [.ref 10, .int q, .int (s &&& 7), .int (nI j)]) (rest := [.ref 27]) (I := I) (P := mj_PP (10) d r) (I' := I) (P' := mj_PP (10) d r) (v := some (.int (s_X0_behindDay (10) q (s &&& 7) (nI j) I))) rfl rfl rfl mj_mc4 mj_dc4 rfl rfl rfl rfl rfl rfl (x_X0_behindDay l b base D z N (10) q (s &&& 7) (nI j) (by decide) I d r hq hin) ?_
        refine R_seg (φ := [mj_in (s_X0_behindDay (10) q (s &&& 7) (nI j) I) 48, mj_in s 48, mj_in (s_X0_behindDay (10) q (s &&& 7) (nI j) I) 48]) (pc' := 8) (L' := [.ref 25, .ref 10, .int q, .int s, .int e, .int ((nI j) + 1)]) (st' := []) (σ' := (mj_KS N, (mj_upI I 27 (s_X0_behindDay (10) q (s &&& 7) (nI j) I) ((I 27 (s_X0_behindDay (10) q (s &&& 7) (nI j) I)) + (I 26 s))), mj_PP (10) d r)) 10 rfl ⟨mj_bd_in (by omega), hst, mj_bd_in (by omega), trivial⟩ ?_
        rw [nI_1 j]
        rw [show s_X0_go1 10 m q s e (k + 1) j  I = s_X0_go1 10 m q s e k (j + 1)  (mj_upI I 27 (s_X0_behindDay (10) q (s &&& 7) (nI j) I) ((I 27 (s_X0_behindDay (10) q (s &&& 7) (nI j) I)) + (I 26 s))) from by simp only [s_X0_go1, h2, Bool.false_eq_true, ↓reduceIte, Nat.reduceAdd, Nat.reduceMul, mj_tn0, mj_tn1, mj_tn2, mj_tn3]]
        exact ih (j + 1)  (mj_upI I 27 (s_X0_behindDay (10) q (s &&& 7) (nI j) I) ((I 27 (s_X0_behindDay (10) q (s &&& 7) (nI j) I)) + (I 26 s))) (by omega) (by omega) (by omega) ((congrFun (mj_upI_ne (by decide)) _).trans hs)
def s_X0_goOn (cc : Nat) (m : Nat) (q : Int32) (s : Int32) (I : mj_I) : mj_I := s_X0_go1 (cc) m q s (s >>> ((3 : Int32) &&& 31)) m 0  I
set_option maxHeartbeats 8000000 in
theorem x_X0_goOn (l : Launch) (b base : Nat) (D : va_G) (z : mj_K × (Int32 → Int32)) (N : Nat) (cc : Nat) (m : Nat) (q : Int32) (s : Int32) (hcc : cc = 2 ∨ cc = 10) (I : mj_I) (d r : Nat) (hm : m ≤ 6) (hq : q = 0 ∨ q = 1 ∨ q = 2) (hst : mj_in s 48) (he : mj_in (s >>> ((3 : Int32) &&& 31)) 6) (hs : I cc 0 = nI m) : mj_Rn l b base D z mj_m_X0_goOn 0 [.ref 25, .ref cc, .int q, .int s, mj_mk, mj_mk] [] (mj_KS N, I, mj_PP cc d r) (mj_E N none (s_X0_goOn cc m q s I) (mj_PP cc d r)) := by
  rcases hcc with rfl | rfl
  · skip
    refine R_seg (φ := []) (pc' := 8) (L' := [.ref 25, .ref 2, .int q, .int s, .int (s >>> (3 &&& 31)), .int 0]) (st' := []) (σ' := (mj_KS N, I, mj_PP (2) d r)) 6 rfl trivial ?_
    exact x_X0_go1 l b base D z N (2) m q s (s >>> ((3 : Int32) &&& 31)) (by decide) d r hm hq hst he m 0  I (by omega) (by omega) (by omega) hs
  · skip
    refine R_seg (φ := []) (pc' := 8) (L' := [.ref 25, .ref 10, .int q, .int s, .int (s >>> (3 &&& 31)), .int 0]) (st' := []) (σ' := (mj_KS N, I, mj_PP (10) d r)) 6 rfl trivial ?_
    exact x_X0_go1 l b base D z N (10) m q s (s >>> ((3 : Int32) &&& 31)) (by decide) d r hm hq hst he m 0  I (by omega) (by omega) (by omega) hs
theorem mj_go1_fr (cc m : Nat) (q s e : Int32) (x : Nat) (hx : x ≠ 27) : ∀ (k j : Nat) (I : mj_I), s_X0_go1 cc m q s e k j I x = I x := by
  intro k
  induction k with
  | zero => intro j I; rfl
  | succ k ih =>
    intro j I
    rw [s_X0_go1]
    split
    · rw [ih, mj_upI_ne hx]
    · rw [ih]
theorem mj_go_fr (cc m : Nat) (q s : Int32) (I : mj_I) (x : Nat) (hx : x ≠ 27) : s_X0_goOn cc m q s I x = I x := mj_go1_fr _ _ _ _ _ x hx _ _ I
def s_X0_od (cc : Nat) (m : Nat) (q : Int32) : Nat → Nat → mj_I → mj_I
  | 0, j, I => mj_cpy I 27 26 0 0 48
  | k + 1, j, I => if (0 : Int32) < I 26 (nI j) then (s_X0_od cc m q k (j + 1)  (s_X0_goOn (cc) m q (nI j) I)) else (s_X0_od cc m q k (j + 1)  I)
set_option maxHeartbeats 8000000 in
theorem x_X0_od (l : Launch) (b base : Nat) (D : va_G) (z : mj_K × (Int32 → Int32)) (N : Nat) (cc : Nat) (m : Nat) (q : Int32) (hcc : cc = 2 ∨ cc = 10) (d r : Nat) (hm : m ≤ 6) (hq : q = 0 ∨ q = 1 ∨ q = 2) : ∀ (k j : Nat) (I : mj_I), k = 48 - j → 0 ≤ j → j ≤ 48 + 1 → I cc 0 = nI m → mj_Rn l b base D z mj_m_X0_goOneDay 10 [.ref 25, .ref cc, .int q, .int (nI j)] [] (mj_KS N, I, mj_PP cc d r) (mj_E N none (s_X0_od cc m q k j  I) (mj_PP cc d r)) := by
  rcases hcc with rfl | rfl
  · skip
    intro k
    induction k with
    | zero =>
      intro j I hk hlo hj hs
      refine R_seg (φ := []) (pc' := 13) (L' := [.ref 25, .ref 2, .int q, .int (nI j)]) (st' := [.int 48, .int (nI j)]) (σ' := (mj_KS N, I, mj_PP (2) d r)) 2 rfl trivial ?_
      refine R_br (q := (nI j : Int32) < 48) (t := 16) (f := 38) (rest := []) rfl (fun h1 => absurd h1 (show ¬ nI j < nI 48 from nI_nlt (by omega) (by omega))) (fun h1 => ?_)
      refine R_seg (φ := [0 ≤ (0 : Int32).toInt ∧ 0 ≤ (0 : Int32).toInt ∧ 0 ≤ (48 : Int32).toInt ∧ (0 : Int32).toInt + (48 : Int32).toInt ≤ ((48 : Nat) : Int) ∧ (0 : Int32).toInt + (48 : Int32).toInt ≤ ((48 : Nat) : Int) ∧ ((48 : Nat) : Int) < 2147483648 ∧ ((48 : Nat) : Int) < 2147483648]) (pc' := 53) (L' := [.ref 25, .ref 2, .int q, .int (nI j)]) (st' := []) (σ' := (mj_KS N, mj_cpy I 27 26 0 0 48, mj_PP (2) d r)) 8 rfl ⟨by decide, trivial⟩ ?_
      exact R_rv rfl rfl (mj_leaf (by simp only [s_X0_od, Bool.false_eq_true, ↓reduceIte, Nat.reduceAdd, Nat.reduceMul, mj_tn0, mj_tn1, mj_tn2, mj_tn3]) (by simp only [s_X0_od, Bool.false_eq_true, ↓reduceIte, Nat.reduceAdd, Nat.reduceMul, mj_tn0, mj_tn1, mj_tn2, mj_tn3]))
    | succ k ih =>
      intro j I hk hlo hj hs
      have hjm : j < 48 := by omega
      have hin : mj_in (nI j) 48 := mj_in_nI (by omega) (by omega)
      refine R_seg (φ := []) (pc' := 13) (L' := [.ref 25, .ref 2, .int q, .int (nI j)]) (st' := [.int 48, .int (nI j)]) (σ' := (mj_KS N, I, mj_PP (2) d r)) 2 rfl trivial ?_
      refine R_br (q := (nI j : Int32) < 48) (t := 16) (f := 38) (rest := []) rfl (fun h1 => ?_) (fun h1 => absurd (show nI j < nI 48 from nI_lt hjm (by omega)) h1)
      refine R_seg (φ := [mj_in (nI j) 48]) (pc' := 22) (L' := [.ref 25, .ref 2, .int q, .int (nI j)]) (st' := [.int (I 26 (nI j))]) (σ' := (mj_KS N, I, mj_PP (2) d r)) 4 rfl ⟨hin, trivial⟩ ?_
      refine R_br (q := (0 : Int32) < I 26 (nI j)) (t := 25) (f := 32) (rest := []) rfl (fun h2 => ?_) (fun h2 => ?_)
      · skip
        refine R_seg (φ := []) (pc' := 29) (L' := [.ref 25, .ref 2, .int q, .int (nI j)]) (st' := [.int (nI j), .int q, .ref 2, .ref 25]) (σ' := (mj_KS N, I, mj_PP (2) d r)) 4 rfl trivial ?_
        refine R_ce (idx := 42) (mid := 3) (kind := 0) (N := N) (M' := mj_m_X0_goOn) (As := [.ref 25, .ref 2, .int q, .int (nI j)]) (rest := []) (I := I) (P := mj_PP (2) d r) (I' := (s_X0_goOn (2) m q (nI j) I)) (P' := mj_PP (2) d r) (v := none) rfl rfl rfl mj_mc3 mj_dc3 rfl rfl rfl rfl rfl rfl (x_X0_goOn l b base D z N (2) m q (nI j) (by decide) I d r hm hq hin (mj_here _ hjm) hs) ?_
        refine R_seg (φ := []) (pc' := 10) (L' := [.ref 25, .ref 2, .int q, .int ((nI j) + 1)]) (st' := []) (σ' := (mj_KS N, (s_X0_goOn (2) m q (nI j) I), mj_PP (2) d r)) 2 rfl trivial ?_
        rw [nI_1 j]
        rw [show s_X0_od 2 m q (k + 1) j  I = s_X0_od 2 m q k (j + 1)  (s_X0_goOn (2) m q (nI j) I) from by simp only [s_X0_od, if_pos h2, Bool.false_eq_true, ↓reduceIte, Nat.reduceAdd, Nat.reduceMul, mj_tn0, mj_tn1, mj_tn2, mj_tn3]]
        exact ih (j + 1)  (s_X0_goOn (2) m q (nI j) I) (by omega) (by omega) (by omega) ((congrFun (mj_go_fr _ _ _ _ _ _ (by decide)) _).trans hs)
      · skip
        refine R_seg (φ := []) (pc' := 10) (L' := [.ref 25, .ref 2, .int q, .int ((nI j) + 1)]) (st' := []) (σ' := (mj_KS N, I, mj_PP (2) d r)) 2 rfl trivial ?_
        rw [nI_1 j]
        rw [show s_X0_od 2 m q (k + 1) j  I = s_X0_od 2 m q k (j + 1)  I from by simp only [s_X0_od, if_neg h2, Bool.false_eq_true, ↓reduceIte, Nat.reduceAdd, Nat.reduceMul, mj_tn0, mj_tn1, mj_tn2, mj_tn3]]
        exact ih (j + 1)  I (by omega) (by omega) (by omega) (hs)
  · skip
    intro k
    induction k with
    | zero =>
      intro j I hk hlo hj hs
      refine R_seg (φ := []) (pc' := 13) (L' := [.ref 25, .ref 10, .int q, .int (nI j)]) (st' := [.int 48, .int (nI j)]) (σ' := (mj_KS N, I, mj_PP (10) d r)) 2 rfl trivial ?_
      refine R_br (q := (nI j : Int32) < 48) (t := 16) (f := 38) (rest := []) rfl (fun h1 => absurd h1 (show ¬ nI j < nI 48 from nI_nlt (by omega) (by omega))) (fun h1 => ?_)
      refine R_seg (φ := [0 ≤ (0 : Int32).toInt ∧ 0 ≤ (0 : Int32).toInt ∧ 0 ≤ (48 : Int32).toInt ∧ (0 : Int32).toInt + (48 : Int32).toInt ≤ ((48 : Nat) : Int) ∧ (0 : Int32).toInt + (48 : Int32).toInt ≤ ((48 : Nat) : Int) ∧ ((48 : Nat) : Int) < 2147483648 ∧ ((48 : Nat) : Int) < 2147483648]) (pc' := 53) (L' := [.ref 25, .ref 10, .int q, .int (nI j)]) (st' := []) (σ' := (mj_KS N, mj_cpy I 27 26 0 0 48, mj_PP (10) d r)) 8 rfl ⟨by decide, trivial⟩ ?_
      exact R_rv rfl rfl (mj_leaf (by simp only [s_X0_od, Bool.false_eq_true, ↓reduceIte, Nat.reduceAdd, Nat.reduceMul, mj_tn0, mj_tn1, mj_tn2, mj_tn3]) (by simp only [s_X0_od, Bool.false_eq_true, ↓reduceIte, Nat.reduceAdd, Nat.reduceMul, mj_tn0, mj_tn1, mj_tn2, mj_tn3]))
    | succ k ih =>
      intro j I hk hlo hj hs
      have hjm : j < 48 := by omega
      have hin : mj_in (nI j) 48 := mj_in_nI (by omega) (by omega)
      refine R_seg (φ := []) (pc' := 13) (L' := [.ref 25, .ref 10, .int q, .int (nI j)]) (st' := [.int 48, .int (nI j)]) (σ' := (mj_KS N, I, mj_PP (10) d r)) 2 rfl trivial ?_
      refine R_br (q := (nI j : Int32) < 48) (t := 16) (f := 38) (rest := []) rfl (fun h1 => ?_) (fun h1 => absurd (show nI j < nI 48 from nI_lt hjm (by omega)) h1)
      refine R_seg (φ := [mj_in (nI j) 48]) (pc' := 22) (L' := [.ref 25, .ref 10, .int q, .int (nI j)]) (st' := [.int (I 26 (nI j))]) (σ' := (mj_KS N, I, mj_PP (10) d r)) 4 rfl ⟨hin, trivial⟩ ?_
      refine R_br (q := (0 : Int32) < I 26 (nI j)) (t := 25) (f := 32) (rest := []) rfl (fun h2 => ?_) (fun h2 => ?_)
      · skip
        refine R_seg (φ := []) (pc' := 29) (L' := [.ref 25, .ref 10, .int q, .int (nI j)]) (st' := [.int (nI j), .int q, .ref 10, .ref 25]) (σ' := (mj_KS N, I, mj_PP (10) d r)) 4 rfl trivial ?_
        refine R_ce (idx := 42) (mid := 3) (kind := 0) (N := N) (M' := mj_m_X0_goOn) (As := [.ref 25, .ref 10, .int q, .int (nI j)]) (rest := []) (I := I) (P := mj_PP (10) d r) (I' := (s_X0_goOn (10) m q (nI j) I)) (P' := mj_PP (10) d r) (v := none) rfl rfl rfl mj_mc3 mj_dc3 rfl rfl rfl rfl rfl rfl (x_X0_goOn l b base D z N (10) m q (nI j) (by decide) I d r hm hq hin (mj_here _ hjm) hs) ?_
        refine R_seg (φ := []) (pc' := 10) (L' := [.ref 25, .ref 10, .int q, .int ((nI j) + 1)]) (st' := []) (σ' := (mj_KS N, (s_X0_goOn (10) m q (nI j) I), mj_PP (10) d r)) 2 rfl trivial ?_
        rw [nI_1 j]
        rw [show s_X0_od 10 m q (k + 1) j  I = s_X0_od 10 m q k (j + 1)  (s_X0_goOn (10) m q (nI j) I) from by simp only [s_X0_od, if_pos h2, Bool.false_eq_true, ↓reduceIte, Nat.reduceAdd, Nat.reduceMul, mj_tn0, mj_tn1, mj_tn2, mj_tn3]]
        exact ih (j + 1)  (s_X0_goOn (10) m q (nI j) I) (by omega) (by omega) (by omega) ((congrFun (mj_go_fr _ _ _ _ _ _ (by decide)) _).trans hs)
      · skip
        refine R_seg (φ := []) (pc' := 10) (L' := [.ref 25, .ref 10, .int q, .int ((nI j) + 1)]) (st' := []) (σ' := (mj_KS N, I, mj_PP (10) d r)) 2 rfl trivial ?_
        rw [nI_1 j]
        rw [show s_X0_od 10 m q (k + 1) j  I = s_X0_od 10 m q k (j + 1)  I from by simp only [s_X0_od, if_neg h2, Bool.false_eq_true, ↓reduceIte, Nat.reduceAdd, Nat.reduceMul, mj_tn0, mj_tn1, mj_tn2, mj_tn3]]
        exact ih (j + 1)  I (by omega) (by omega) (by omega) (hs)
def s_X0_goOneDay (cc : Nat) (m : Nat) (q : Int32) (I : mj_I) : mj_I := s_X0_od (cc) m q 48 0  (mj_fil I 27 48 0)
set_option maxHeartbeats 8000000 in
theorem x_X0_goOneDay (l : Launch) (b base : Nat) (D : va_G) (z : mj_K × (Int32 → Int32)) (N : Nat) (cc : Nat) (m : Nat) (q : Int32) (hcc : cc = 2 ∨ cc = 10) (I : mj_I) (d r : Nat) (hm : m ≤ 6) (hq : q = 0 ∨ q = 1 ∨ q = 2) (hs : I cc 0 = nI m) : mj_Rn l b base D z mj_m_X0_goOneDay 0 [.ref 25, .ref cc, .int q, mj_mk] [] (mj_KS N, I, mj_PP cc d r) (mj_E N none (s_X0_goOneDay cc m q I) (mj_PP cc d r)) := by
  rcases hcc with rfl | rfl
  · skip
    refine R_seg (φ := []) (pc' := 5) (L' := [.ref 25, .ref 2, .int q, mj_mk]) (st' := [.int 0, .ref 27]) (σ' := (mj_KS N, I, mj_PP (2) d r)) 3 rfl trivial ?_
    refine R_ce (idx := 25) (mid := 161) (kind := 1) (N := N) (M' := mj_m_J7_fill_53178) (As := [.ref 27, .int 0]) (rest := []) (I := I) (P := mj_PP (2) d r) (I' := mj_fil I 27 48 0) (P' := mj_PP (2) d r) (v := none) rfl rfl rfl mj_mc161 mj_dc161 rfl rfl rfl rfl rfl rfl (x_fill_27 l b base D z N I 0 (2) d r) ?_
    refine R_seg (φ := []) (pc' := 10) (L' := [.ref 25, .ref 2, .int q, .int 0]) (st' := []) (σ' := (mj_KS N, mj_fil I 27 48 0, mj_PP (2) d r)) 2 rfl trivial ?_
    exact x_X0_od l b base D z N (2) m q (by decide) d r hm hq 48 0  (mj_fil I 27 48 0) (by omega) (by omega) (by omega) ((congrFun (mj_fil_ne (by decide)) _).trans hs)
  · skip
    refine R_seg (φ := []) (pc' := 5) (L' := [.ref 25, .ref 10, .int q, mj_mk]) (st' := [.int 0, .ref 27]) (σ' := (mj_KS N, I, mj_PP (10) d r)) 3 rfl trivial ?_
    refine R_ce (idx := 25) (mid := 161) (kind := 1) (N := N) (M' := mj_m_J7_fill_53178) (As := [.ref 27, .int 0]) (rest := []) (I := I) (P := mj_PP (10) d r) (I' := mj_fil I 27 48 0) (P' := mj_PP (10) d r) (v := none) rfl rfl rfl mj_mc161 mj_dc161 rfl rfl rfl rfl rfl rfl (x_fill_27 l b base D z N I 0 (10) d r) ?_
    refine R_seg (φ := []) (pc' := 10) (L' := [.ref 25, .ref 10, .int q, .int 0]) (st' := []) (σ' := (mj_KS N, mj_fil I 27 48 0, mj_PP (10) d r)) 2 rfl trivial ?_
    exact x_X0_od l b base D z N (10) m q (by decide) d r hm hq 48 0  (mj_fil I 27 48 0) (by omega) (by omega) (by omega) ((congrFun (mj_fil_ne (by decide)) _).trans hs)
theorem mj_cpy_ne {I : mj_I} {a e x : Nat} {i j n : Int32} (h : x ≠ e) : mj_cpy I a e i j n x = I x := by
  unfold mj_cpy
  rw [mj_rwI_ne h]
theorem mj_od1_fr (cc m : Nat) (q : Int32) (x : Nat) (hx : x ≠ 27) (hx2 : x ≠ 26) : ∀ (k j : Nat) (I : mj_I), s_X0_od cc m q k j I x = I x := by
  intro k
  induction k with
  | zero => intro j I; exact mj_cpy_ne hx2
  | succ k ih =>
    intro j I
    rw [s_X0_od]
    split
    · rw [ih, mj_go_fr _ _ _ _ _ _ hx]
    · rw [ih]
theorem mj_od_fr (cc m : Nat) (q : Int32) (I : mj_I) (x : Nat) (hx : x ≠ 27) (hx2 : x ≠ 26) : s_X0_goOneDay cc m q I x = I x := by
  unfold s_X0_goOneDay
  rw [mj_od1_fr _ _ _ _ hx hx2, mj_fil_ne hx]
def s_X0_ct : Nat → Nat → mj_I → mj_I
  | 0, j, I => I
  | k + 1, j, I => if ((nI j) &&& 7 : Int32) = 6 then (s_X0_ct  k (j + 1)  (mj_upI (mj_upI I 25 0 ((I 25 0) + (I 26 (nI j)))) 25 1 ((I 25 1) + (I 26 (nI j))))) else (s_X0_ct  k (j + 1)  (mj_upI I 25 0 ((I 25 0) + (I 26 (nI j)))))
set_option maxHeartbeats 8000000 in
theorem x_X0_ct (l : Launch) (b base : Nat) (D : va_G) (z : mj_K × (Int32 → Int32)) (N : Nat) (c d r : Nat) : ∀ (k j : Nat) (I : mj_I), k = 48 - j → 0 ≤ j → j ≤ 48 + 1 → mj_Rn l b base D z mj_m_X0_count 12 [.ref 25, .int (nI j)] [] (mj_KS N, I, mj_PP c d r) (mj_E N none (s_X0_ct  k j  I) (mj_PP c d r)) := by
  intro k
  induction k with
  | zero =>
    intro j I hk hlo hj
    refine R_seg (φ := []) (pc' := 15) (L' := [.ref 25, .int (nI j)]) (st' := [.int 48, .int (nI j)]) (σ' := (mj_KS N, I, mj_PP c d r)) 2 rfl trivial ?_
    refine R_br (q := (nI j : Int32) < 48) (t := 18) (f := 63) (rest := []) rfl (fun h1 => absurd h1 (show ¬ nI j < nI 48 from nI_nlt (by omega) (by omega))) (fun h1 => ?_)
    exact R_rv rfl rfl (mj_leaf (by simp only [s_X0_ct, Bool.false_eq_true, ↓reduceIte, Nat.reduceAdd, Nat.reduceMul, mj_tn0, mj_tn1, mj_tn2, mj_tn3]) (by simp only [s_X0_ct, Bool.false_eq_true, ↓reduceIte, Nat.reduceAdd, Nat.reduceMul, mj_tn0, mj_tn1, mj_tn2, mj_tn3]))
  | succ k ih =>
    intro j I hk hlo hj
    have hjm : j < 48 := by omega
    have hin : mj_in (nI j) 48 := mj_in_nI (by omega) (by omega)
    refine R_seg (φ := []) (pc' := 15) (L' := [.ref 25, .int (nI j)]) (st' := [.int 48, .int (nI j)]) (σ' := (mj_KS N, I, mj_PP c d r)) 2 rfl trivial ?_
    refine R_br (q := (nI j : Int32) < 48) (t := 18) (f := 63) (rest := []) rfl (fun h1 => ?_) (fun h1 => absurd (show nI j < nI 48 from nI_lt hjm (by omega)) h1)
    refine R_seg (φ := [mj_in (nI j) 48]) (pc' := 39) (L' := [.ref 25, .int (nI j)]) (st' := [.int 6, .int ((nI j) &&& 7)]) (σ' := (mj_KS N, (mj_upI I 25 0 ((I 25 0) + (I 26 (nI j)))), mj_PP c d r)) 13 rfl ⟨hin, trivial⟩ ?_
    refine R_br (q := ((nI j) &&& 7 : Int32) = 6) (t := 42) (f := 57) (rest := []) rfl (fun h2 => ?_) (fun h2 => ?_)
    · skip
      refine R_seg (φ := [mj_in (nI j) 48]) (pc' := 12) (L' := [.ref 25, .int ((nI j) + 1)]) (st' := []) (σ' := (mj_KS N, (mj_upI (mj_upI I 25 0 ((I 25 0) + (I 26 (nI j)))) 25 1 ((I 25 1) + (I 26 (nI j)))), mj_PP c d r)) 11 rfl ⟨hin, trivial⟩ ?_
      rw [nI_1 j]
      rw [show s_X0_ct  (k + 1) j  I = s_X0_ct  k (j + 1)  (mj_upI (mj_upI I 25 0 ((I 25 0) + (I 26 (nI j)))) 25 1 ((I 25 1) + (I 26 (nI j)))) from by simp only [s_X0_ct, if_pos h2, Bool.false_eq_true, ↓reduceIte, Nat.reduceAdd, Nat.reduceMul, mj_tn0, mj_tn1, mj_tn2, mj_tn3]]
      exact ih (j + 1)  (mj_upI (mj_upI I 25 0 ((I 25 0) + (I 26 (nI j)))) 25 1 ((I 25 1) + (I 26 (nI j)))) (by omega) (by omega) (by omega)
    · skip
      refine R_seg (φ := []) (pc' := 12) (L' := [.ref 25, .int ((nI j) + 1)]) (st' := []) (σ' := (mj_KS N, (mj_upI I 25 0 ((I 25 0) + (I 26 (nI j)))), mj_PP c d r)) 2 rfl trivial ?_
      rw [nI_1 j]
      rw [show s_X0_ct  (k + 1) j  I = s_X0_ct  k (j + 1)  (mj_upI I 25 0 ((I 25 0) + (I 26 (nI j)))) from by simp only [s_X0_ct, if_neg h2, Bool.false_eq_true, ↓reduceIte, Nat.reduceAdd, Nat.reduceMul, mj_tn0, mj_tn1, mj_tn2, mj_tn3]]
      exact ih (j + 1)  (mj_upI I 25 0 ((I 25 0) + (I 26 (nI j)))) (by omega) (by omega) (by omega)
def s_X0_count (I : mj_I) : mj_I := s_X0_ct  48 0  (mj_upI (mj_upI I 25 0 0) 25 1 0)
set_option maxHeartbeats 8000000 in
theorem x_X0_count (l : Launch) (b base : Nat) (D : va_G) (z : mj_K × (Int32 → Int32)) (N : Nat) (I : mj_I) (c d r : Nat) : mj_Rn l b base D z mj_m_X0_count 0 [.ref 25, mj_mk] [] (mj_KS N, I, mj_PP c d r) (mj_E N none (s_X0_count  I) (mj_PP c d r)) := by
  refine R_seg (φ := []) (pc' := 12) (L' := [.ref 25, .int 0]) (st' := []) (σ' := (mj_KS N, (mj_upI (mj_upI I 25 0 0) 25 1 0), mj_PP c d r)) 8 rfl trivial ?_
  exact x_X0_ct l b base D z N  c d r  48 0  (mj_upI (mj_upI I 25 0 0) 25 1 0) (by omega) (by omega) (by omega)
def s_X0_gg (cc : Nat) (m : Nat) (q : Int32) (a : Int32) (v : Nat) : Nat → Nat → mj_I → mj_I
  | 0, j, I => (s_X0_count  I)
  | k + 1, j, I => s_X0_gg cc m q a v k (j + 1)  (s_X0_goOneDay (cc) m q I)
set_option maxHeartbeats 8000000 in
theorem x_X0_gg (l : Launch) (b base : Nat) (D : va_G) (z : mj_K × (Int32 → Int32)) (N : Nat) (cc : Nat) (m : Nat) (q : Int32) (a : Int32) (v : Nat) (hcc : cc = 2 ∨ cc = 10) (d r : Nat) (hm : m ≤ 6) (hq : q = 0 ∨ q = 1 ∨ q = 2) (hv : v ≤ 6) : ∀ (k j : Nat) (I : mj_I), k = v - j → 1 ≤ j → j ≤ v + 1 → I cc 0 = nI m → mj_Rn l b base D z mj_m_X0_go 24 [.ref 25, .ref cc, .int q, .int a, .int (nI v), .int (nI j)] [] (mj_KS N, I, mj_PP cc d r) (mj_E N none (s_X0_gg cc m q a v k j  I) (mj_PP cc d r)) := by
  rcases hcc with rfl | rfl
  · skip
    intro k
    induction k with
    | zero =>
      intro j I hk hlo hj hs
      refine R_seg (φ := []) (pc' := 28) (L' := [.ref 25, .ref 2, .int q, .int a, .int (nI v), .int (nI j)]) (st' := [.int (nI v), .int (nI j)]) (σ' := (mj_KS N, I, mj_PP (2) d r)) 2 rfl trivial ?_
      refine R_br (q := (nI j : Int32) < nI v) (t := 31) (f := 43) (rest := []) rfl (fun h1 => absurd h1 (by exact nI_nlt (by omega) (by omega))) (fun h1 => ?_)
      refine R_seg (φ := []) (pc' := 44) (L' := [.ref 25, .ref 2, .int q, .int a, .int (nI v), .int (nI j)]) (st' := [.ref 25]) (σ' := (mj_KS N, I, mj_PP (2) d r)) 1 rfl trivial ?_
      refine R_ce (idx := 39) (mid := 5) (kind := 0) (N := N) (M' := mj_m_X0_count) (As := [.ref 25]) (rest := []) (I := I) (P := mj_PP (2) d r) (I' := (s_X0_count  I)) (P' := mj_PP (2) d r) (v := none) rfl rfl rfl mj_mc5 mj_dc5 rfl rfl rfl rfl rfl rfl (x_X0_count l b base D z N   I (2) d r ) ?_
      refine R_seg (φ := []) (pc' := 47) (L' := [.ref 25, .ref 2, .int q, .int a, .int (nI v), .int (nI j)]) (st' := []) (σ' := (mj_KS N, (s_X0_count  I), mj_PP (2) d r)) 0 rfl trivial ?_
      exact R_rv rfl rfl (mj_leaf (by simp only [s_X0_gg, Bool.false_eq_true, ↓reduceIte, Nat.reduceAdd, Nat.reduceMul, mj_tn0, mj_tn1, mj_tn2, mj_tn3]) (by simp only [s_X0_gg, Bool.false_eq_true, ↓reduceIte, Nat.reduceAdd, Nat.reduceMul, mj_tn0, mj_tn1, mj_tn2, mj_tn3]))
    | succ k ih =>
      intro j I hk hlo hj hs
      have hjm : j < v := by omega
      refine R_seg (φ := []) (pc' := 28) (L' := [.ref 25, .ref 2, .int q, .int a, .int (nI v), .int (nI j)]) (st' := [.int (nI v), .int (nI j)]) (σ' := (mj_KS N, I, mj_PP (2) d r)) 2 rfl trivial ?_
      refine R_br (q := (nI j : Int32) < nI v) (t := 31) (f := 43) (rest := []) rfl (fun h1 => ?_) (fun h1 => absurd (by exact nI_lt hjm (by omega)) h1)
      refine R_seg (φ := []) (pc' := 34) (L' := [.ref 25, .ref 2, .int q, .int a, .int (nI v), .int (nI j)]) (st' := [.int q, .ref 2, .ref 25]) (σ' := (mj_KS N, I, mj_PP (2) d r)) 3 rfl trivial ?_
      refine R_ce (idx := 35) (mid := 2) (kind := 0) (N := N) (M' := mj_m_X0_goOneDay) (As := [.ref 25, .ref 2, .int q]) (rest := []) (I := I) (P := mj_PP (2) d r) (I' := (s_X0_goOneDay (2) m q I)) (P' := mj_PP (2) d r) (v := none) rfl rfl rfl mj_mc2 mj_dc2 rfl rfl rfl rfl rfl rfl (x_X0_goOneDay l b base D z N (2) m q (by decide) I d r hm hq hs) ?_
      refine R_seg (φ := []) (pc' := 24) (L' := [.ref 25, .ref 2, .int q, .int a, .int (nI v), .int ((nI j) + 1)]) (st' := []) (σ' := (mj_KS N, (s_X0_goOneDay (2) m q I), mj_PP (2) d r)) 2 rfl trivial ?_
      rw [nI_1 j]
      rw [show s_X0_gg 2 m q a v (k + 1) j  I = s_X0_gg 2 m q a v k (j + 1)  (s_X0_goOneDay (2) m q I) from by simp only [s_X0_gg, Bool.false_eq_true, ↓reduceIte, Nat.reduceAdd, Nat.reduceMul, mj_tn0, mj_tn1, mj_tn2, mj_tn3]]
      exact ih (j + 1)  (s_X0_goOneDay (2) m q I) (by omega) (by omega) (by omega) ((congrFun (mj_od_fr _ _ _ _ _ (by decide) (by decide)) _).trans hs)
  · skip
    intro k
    induction k with
    | zero =>
      intro j I hk hlo hj hs
      refine R_seg (φ := []) (pc' := 28) (L' := [.ref 25, .ref 10, .int q, .int a, .int (nI v), .int (nI j)]) (st' := [.int (nI v), .int (nI j)]) (σ' := (mj_KS N, I, mj_PP (10) d r)) 2 rfl trivial ?_
      refine R_br (q := (nI j : Int32) < nI v) (t := 31) (f := 43) (rest := []) rfl (fun h1 => absurd h1 (by exact nI_nlt (by omega) (by omega))) (fun h1 => ?_)
      refine R_seg (φ := []) (pc' := 44) (L' := [.ref 25, .ref 10, .int q, .int a, .int (nI v), .int (nI j)]) (st' := [.ref 25]) (σ' := (mj_KS N, I, mj_PP (10) d r)) 1 rfl trivial ?_
      refine R_ce (idx := 39) (mid := 5) (kind := 0) (N := N) (M' := mj_m_X0_count) (As := [.ref 25]) (rest := []) (I := I) (P := mj_PP (10) d r) (I' := (s_X0_count  I)) (P' := mj_PP (10) d r) (v := none) rfl rfl rfl mj_mc5 mj_dc5 rfl rfl rfl rfl rfl rfl (x_X0_count l b base D z N   I (10) d r ) ?_
      refine R_seg (φ := []) (pc' := 47) (L' := [.ref 25, .ref 10, .int q, .int a, .int (nI v), .int (nI j)]) (st' := []) (σ' := (mj_KS N, (s_X0_count  I), mj_PP (10) d r)) 0 rfl trivial ?_
      exact R_rv rfl rfl (mj_leaf (by simp only [s_X0_gg, Bool.false_eq_true, ↓reduceIte, Nat.reduceAdd, Nat.reduceMul, mj_tn0, mj_tn1, mj_tn2, mj_tn3]) (by simp only [s_X0_gg, Bool.false_eq_true, ↓reduceIte, Nat.reduceAdd, Nat.reduceMul, mj_tn0, mj_tn1, mj_tn2, mj_tn3]))
    | succ k ih =>
      intro j I hk hlo hj hs
      have hjm : j < v := by omega
      refine R_seg (φ := []) (pc' := 28) (L' := [.ref 25, .ref 10, .int q, .int a, .int (nI v), .int (nI j)]) (st' := [.int (nI v), .int (nI j)]) (σ' := (mj_KS N, I, mj_PP (10) d r)) 2 rfl trivial ?_
      refine R_br (q := (nI j : Int32) < nI v) (t := 31) (f := 43) (rest := []) rfl (fun h1 => ?_) (fun h1 => absurd (by exact nI_lt hjm (by omega)) h1)
      refine R_seg (φ := []) (pc' := 34) (L' := [.ref 25, .ref 10, .int q, .int a, .int (nI v), .int (nI j)]) (st' := [.int q, .ref 10, .ref 25]) (σ' := (mj_KS N, I, mj_PP (10) d r)) 3 rfl trivial ?_
      refine R_ce (idx := 35) (mid := 2) (kind := 0) (N := N) (M' := mj_m_X0_goOneDay) (As := [.ref 25, .ref 10, .int q]) (rest := []) (I := I) (P := mj_PP (10) d r) (I' := (s_X0_goOneDay (10) m q I)) (P' := mj_PP (10) d r) (v := none) rfl rfl rfl mj_mc2 mj_dc2 rfl rfl rfl rfl rfl rfl (x_X0_goOneDay l b base D z N (10) m q (by decide) I d r hm hq hs) ?_
      refine R_seg (φ := []) (pc' := 24) (L' := [.ref 25, .ref 10, .int q, .int a, .int (nI v), .int ((nI j) + 1)]) (st' := []) (σ' := (mj_KS N, (s_X0_goOneDay (10) m q I), mj_PP (10) d r)) 2 rfl trivial ?_
      rw [nI_1 j]
      rw [show s_X0_gg 10 m q a v (k + 1) j  I = s_X0_gg 10 m q a v k (j + 1)  (s_X0_goOneDay (10) m q I) from by simp only [s_X0_gg, Bool.false_eq_true, ↓reduceIte, Nat.reduceAdd, Nat.reduceMul, mj_tn0, mj_tn1, mj_tn2, mj_tn3]]
      exact ih (j + 1)  (s_X0_goOneDay (10) m q I) (by omega) (by omega) (by omega) ((congrFun (mj_od_fr _ _ _ _ _ (by decide) (by decide)) _).trans hs)
def s_X0_go (cc : Nat) (m : Nat) (q : Int32) (f : Nat) (v : Nat) (I : mj_I) : mj_I := s_X0_gg (cc) m q (nI f) v (v - 1) 1  (mj_upI (mj_fil I 26 48 0) 26 (s_X0_behindDay (cc) q 0 (nI f) (mj_fil I 26 48 0)) 1)
set_option maxHeartbeats 8000000 in
theorem x_X0_go (l : Launch) (b base : Nat) (D : va_G) (z : mj_K × (Int32 → Int32)) (N : Nat) (cc : Nat) (m : Nat) (q : Int32) (f : Nat) (v : Nat) (hcc : cc = 2 ∨ cc = 10) (I : mj_I) (d r : Nat) (hm : m ≤ 6) (hq : q = 0 ∨ q = 1 ∨ q = 2) (hf : f < 6) (hv : v ≤ 6) (hs : I cc 0 = nI m) : mj_Rn l b base D z mj_m_X0_go 0 [.ref 25, .ref cc, .int q, .int (nI f), .int (nI v), mj_mk] [] (mj_KS N, I, mj_PP cc d r) (mj_E N none (s_X0_go cc m q f v I) (mj_PP cc d r)) := by
  rcases hcc with rfl | rfl
  · skip
    refine R_seg (φ := []) (pc' := 5) (L' := [.ref 25, .ref 2, .int q, .int (nI f), .int (nI v), mj_mk]) (st' := [.int 0, .ref 26]) (σ' := (mj_KS N, I, mj_PP (2) d r)) 3 rfl trivial ?_
    refine R_ce (idx := 25) (mid := 161) (kind := 1) (N := N) (M' := mj_m_J7_fill_53178) (As := [.ref 26, .int 0]) (rest := []) (I := I) (P := mj_PP (2) d r) (I' := mj_fil I 26 48 0) (P' := mj_PP (2) d r) (v := none) rfl rfl rfl mj_mc161 mj_dc161 rfl rfl rfl rfl rfl rfl (x_fill_26 l b base D z N I 0 (2) d r) ?_
    refine R_seg (φ := []) (pc' := 16) (L' := [.ref 25, .ref 2, .int q, .int (nI f), .int (nI v), mj_mk]) (st' := [.int (nI f), .int 0, .int q, .ref 2, .ref 26]) (σ' := (mj_KS N, mj_fil I 26 48 0, mj_PP (2) d r)) 6 rfl trivial ?_
    refine R_ce (idx := 31) (mid := 4) (kind := 1) (N := N) (M' := mj_m_X0_behindDay) (As := [.ref 2, .int q, .int 0, .int (nI f)]) (rest := [.ref 26]) (I := mj_fil I 26 48 0) (P := mj_PP (2) d r) (I' := mj_fil I 26 48 0) (P' := mj_PP (2) d r) (v := some (.int (s_X0_behindDay (2) q 0 (nI f) (mj_fil I 26 48 0)))) rfl rfl rfl mj_mc4 mj_dc4 rfl rfl rfl rfl rfl rfl (x_X0_behindDay l b base D z N (2) q 0 (nI f) (by decide) (mj_fil I 26 48 0) d r hq (mj_in_nI hf (by omega))) ?_
    refine R_seg (φ := [mj_in (s_X0_behindDay (2) q 0 (nI f) (mj_fil I 26 48 0)) 48]) (pc' := 24) (L' := [.ref 25, .ref 2, .int q, .int (nI f), .int (nI v), .int 1]) (st' := []) (σ' := (mj_KS N, (mj_upI (mj_fil I 26 48 0) 26 (s_X0_behindDay (2) q 0 (nI f) (mj_fil I 26 48 0)) 1), mj_PP (2) d r)) 4 rfl ⟨mj_bd_in hf, trivial⟩ ?_
    exact x_X0_gg l b base D z N (2) m q (nI f) v (by decide) d r hm hq hv (v - 1) 1  (mj_upI (mj_fil I 26 48 0) 26 (s_X0_behindDay (2) q 0 (nI f) (mj_fil I 26 48 0)) 1) (by omega) (by omega) (by omega) ((congrFun ((mj_upI_ne (by decide)).trans (mj_fil_ne (by decide))) _).trans hs)
  · skip
    refine R_seg (φ := []) (pc' := 5) (L' := [.ref 25, .ref 10, .int q, .int (nI f), .int (nI v), mj_mk]) (st' := [.int 0, .ref 26]) (σ' := (mj_KS N, I, mj_PP (10) d r)) 3 rfl trivial ?_
    refine R_ce (idx := 25) (mid := 161) (kind := 1) (N := N) (M' := mj_m_J7_fill_53178) (As := [.ref 26, .int 0]) (rest := []) (I := I) (P := mj_PP (10) d r) (I' := mj_fil I 26 48 0) (P' := mj_PP (10) d r) (v := none) rfl rfl rfl mj_mc161 mj_dc161 rfl rfl rfl rfl rfl rfl (x_fill_26 l b base D z N I 0 (10) d r) ?_
    refine R_seg (φ := []) (pc' := 16) (L' := [.ref 25, .ref 10, .int q, .int (nI f), .int (nI v), mj_mk]) (st' := [.int (nI f), .int 0, .int q, .ref 10, .ref 26]) (σ' := (mj_KS N, mj_fil I 26 48 0, mj_PP (10) d r)) 6 rfl trivial ?_
    refine R_ce (idx := 31) (mid := 4) (kind := 1) (N := N) (M' := mj_m_X0_behindDay) (As := [.ref 10, .int q, .int 0, .int (nI f)]) (rest := [.ref 26]) (I := mj_fil I 26 48 0) (P := mj_PP (10) d r) (I' := mj_fil I 26 48 0) (P' := mj_PP (10) d r) (v := some (.int (s_X0_behindDay (10) q 0 (nI f) (mj_fil I 26 48 0)))) rfl rfl rfl mj_mc4 mj_dc4 rfl rfl rfl rfl rfl rfl (x_X0_behindDay l b base D z N (10) q 0 (nI f) (by decide) (mj_fil I 26 48 0) d r hq (mj_in_nI hf (by omega))) ?_
    refine R_seg (φ := [mj_in (s_X0_behindDay (10) q 0 (nI f) (mj_fil I 26 48 0)) 48]) (pc' := 24) (L' := [.ref 25, .ref 10, .int q, .int (nI f), .int (nI v), .int 1]) (st' := []) (σ' := (mj_KS N, (mj_upI (mj_fil I 26 48 0) 26 (s_X0_behindDay (10) q 0 (nI f) (mj_fil I 26 48 0)) 1), mj_PP (10) d r)) 4 rfl ⟨mj_bd_in hf, trivial⟩ ?_
    exact x_X0_gg l b base D z N (10) m q (nI f) v (by decide) d r hm hq hv (v - 1) 1  (mj_upI (mj_fil I 26 48 0) 26 (s_X0_behindDay (10) q 0 (nI f) (mj_fil I 26 48 0)) 1) (by omega) (by omega) (by omega) ((congrFun ((mj_upI_ne (by decide)).trans (mj_fil_ne (by decide))) _).trans hs)
theorem mj_ct_fr (x : Nat) (hx : x ≠ 25) : ∀ (k j : Nat) (I : mj_I), s_X0_ct k j I x = I x := by
  intro k
  induction k with
  | zero => intro j I; rfl
  | succ k ih =>
    intro j I
    rw [s_X0_ct]
    split
    · rw [ih, mj_upI_ne hx, mj_upI_ne hx]
    · rw [ih, mj_upI_ne hx]
theorem mj_gg1_fr (cc m : Nat) (q a : Int32) (v x : Nat) (hx : x ≠ 27) (hx2 : x ≠ 26) (hx3 : x ≠ 25) : ∀ (k j : Nat) (I : mj_I), s_X0_gg cc m q a v k j I x = I x := by
  intro k
  induction k with
  | zero =>
    intro j I
    rw [s_X0_gg, s_X0_count, mj_ct_fr _ hx3, mj_upI_ne hx3, mj_upI_ne hx3]
  | succ k ih =>
    intro j I
    rw [s_X0_gg, ih, mj_od_fr _ _ _ _ _ hx hx2]
theorem mj_gg_fr (cc m : Nat) (q : Int32) (f v : Nat) (I : mj_I) (x : Nat) (hx : x ≠ 27) (hx2 : x ≠ 26) (hx3 : x ≠ 25) : s_X0_go cc m q f v I x = I x := by
  unfold s_X0_go
  rw [mj_gg1_fr _ _ _ _ _ _ hx hx2 hx3, mj_upI_ne hx2, mj_fil_ne hx2]
theorem mj_ge1 {x : Int32} (h : ¬ x < 1) : ¬ x = 0 := by
  rintro rfl
  exact absurd h (by decide)
theorem mj_hasnat {n s : Int32} (h : sp_has n s = true) (hn : n.toInt ≤ 6) : ∃ f : Nat, f < 6 ∧ s = nI f := by
  have := sp_has_spec h
  refine ⟨s.toInt.toNat, by omega, mj_ofI ?_⟩
  rw [nI_toInt (by omega)]
  omega
theorem mj_v6 {n : Int32} (h1 : ¬ n < 1) (h2 : ¬ (6 : Int32) < n) : ∃ v : Nat, v ≤ 6 ∧ n = nI v := by
  have a1 : (1 : Int32).toInt ≤ n.toInt := mj_iN h1
  have a2 : n.toInt ≤ (6 : Int32).toInt := mj_iN h2
  have e1 : (1 : Int32).toInt = 1 := by decide
  have e6 : (6 : Int32).toInt = 6 := by decide
  refine ⟨n.toInt.toNat, by omega, mj_ofI ?_⟩
  rw [nI_toInt (by omega)]
  omega
def s_X5_odds (cc : Nat) (m : Nat) (q : Int32) (a : Int32) (n : Int32) (w : Int32) (I : mj_I) : Int64 × mj_I := if sp_has (I cc 1) q then (if sp_has (I cc 0) a then (if (n : Int32) < 1 then ((-9223372036854775808), I) else (if (6 : Int32) < n then ((-9223372036854775808), I) else (if (w : Int32) < 0 then ((-9223372036854775808), I) else (if (1 : Int32) < w then ((-9223372036854775808), I) else (if ((s_X5_greatestDivisor ((s_X0_go (cc) m q a.toNatClampNeg n.toNatClampNeg I) 25 0) ((s_X0_go (cc) m q a.toNatClampNeg n.toNatClampNeg I) 25 1) (s_X0_go (cc) m q a.toNatClampNeg n.toNatClampNeg I)) : Int32) < 1 then ((-9223372036854775808), (s_X0_go (cc) m q a.toNatClampNeg n.toNatClampNeg I)) else (if (w : Int32) = 0 then ((((s_X0_go (cc) m q a.toNatClampNeg n.toNatClampNeg I) 25 1) / (s_X5_greatestDivisor ((s_X0_go (cc) m q a.toNatClampNeg n.toNatClampNeg I) 25 0) ((s_X0_go (cc) m q a.toNatClampNeg n.toNatClampNeg I) 25 1) (s_X0_go (cc) m q a.toNatClampNeg n.toNatClampNeg I)) : Int32).toInt64, (s_X0_go (cc) m q a.toNatClampNeg n.toNatClampNeg I)) else ((((s_X0_go (cc) m q a.toNatClampNeg n.toNatClampNeg I) 25 0) / (s_X5_greatestDivisor ((s_X0_go (cc) m q a.toNatClampNeg n.toNatClampNeg I) 25 0) ((s_X0_go (cc) m q a.toNatClampNeg n.toNatClampNeg I) 25 1) (s_X0_go (cc) m q a.toNatClampNeg n.toNatClampNeg I)) : Int32).toInt64, (s_X0_go (cc) m q a.toNatClampNeg n.toNatClampNeg I)))))))) else ((-9223372036854775808), I)) else ((-9223372036854775808), I)
set_option maxHeartbeats 8000000 in
theorem x_X5_odds (l : Launch) (b base : Nat) (D : va_G) (z : mj_K × (Int32 → Int32)) (N : Nat) (cc : Nat) (m : Nat) (q : Int32) (a : Int32) (n : Int32) (w : Int32) (hcc : cc = 2 ∨ cc = 10) (I : mj_I) (d r : Nat) (hm : m ≤ 6) (hs : I cc 0 = nI m) (hn : (I cc 0).toInt ≤ 6) (hp : (I cc 1).toInt ≤ 3) : mj_Rn l b base D z mj_m_X5_odds 0 [.ref 1, .int q, .int a, .int n, .int w, mj_mk] [] (mj_KS N, I, mj_PP cc d r) (mj_E N (some (.long (s_X5_odds cc m q a n w I).1)) (s_X5_odds cc m q a n w I).2 (mj_PP cc d r)) := by
  rcases hcc with rfl | rfl
  · skip
    refine R_seg (φ := []) (pc' := 5) (L' := [.ref 1, .int q, .int a, .int n, .int w, mj_mk]) (st' := [.int q, .ref 2]) (σ' := (mj_KS N, I, mj_PP (2) d r)) 3 rfl trivial ?_
    refine R_ce (idx := 119) (mid := 8) (kind := 3) (N := N) (M' := mj_m_X1_hasPlant) (As := [.ref 2, .int q]) (rest := []) (I := I) (P := mj_PP (2) d r) (I' := I) (P' := mj_PP (2) d r) (v := some (.int (bI (sp_has (I 2 1) q)))) rfl rfl rfl mj_mc8 mj_dc8 rfl rfl rfl rfl rfl rfl (x_hasPlant l b base D z N 2 (by decide) q I (2) d r) ?_
    refine R_seg (φ := []) (pc' := 8) (L' := [.ref 1, .int q, .int a, .int n, .int w, mj_mk]) (st' := [.int (bI (sp_has (I 2 1) q))]) (σ' := (mj_KS N, I, mj_PP (2) d r)) 0 rfl trivial ?_
    refine R_br (q := (bI (sp_has (I 2 1) q) : Int32) = 0) (t := 22) (f := 11) (rest := []) rfl (fun h1 => ?_) (fun h1 => ?_)
    · skip
      replace h1 := bI_0.mp h1
      refine R_seg (φ := []) (pc' := 25) (L' := [.ref 1, .int q, .int a, .int n, .int w, mj_mk]) (st' := [.long (-9223372036854775808)]) (σ' := (mj_KS N, I, mj_PP (2) d r)) 1 rfl trivial ?_
      exact R_rl rfl rfl (mj_leaf (by simp only [s_X5_odds, h1, Bool.false_eq_true, ↓reduceIte, Nat.reduceAdd, Nat.reduceMul, mj_tn0, mj_tn1, mj_tn2, mj_tn3]) (by simp only [s_X5_odds, h1, Bool.false_eq_true, ↓reduceIte, Nat.reduceAdd, Nat.reduceMul, mj_tn0, mj_tn1, mj_tn2, mj_tn3]))
    · skip
      replace h1 := bI_1 h1
      refine R_seg (φ := []) (pc' := 16) (L' := [.ref 1, .int q, .int a, .int n, .int w, mj_mk]) (st' := [.int a, .ref 2]) (σ' := (mj_KS N, I, mj_PP (2) d r)) 3 rfl trivial ?_
      refine R_ce (idx := 110) (mid := 7) (kind := 3) (N := N) (M' := mj_m_X1_hasStreet) (As := [.ref 2, .int a]) (rest := []) (I := I) (P := mj_PP (2) d r) (I' := I) (P' := mj_PP (2) d r) (v := some (.int (bI (sp_has (I 2 0) a)))) rfl rfl rfl mj_mc7 mj_dc7 rfl rfl rfl rfl rfl rfl (x_hasStreet l b base D z N 2 (by decide) a I (2) d r) ?_
      refine R_seg (φ := []) (pc' := 19) (L' := [.ref 1, .int q, .int a, .int n, .int w, mj_mk]) (st' := [.int (bI (sp_has (I 2 0) a))]) (σ' := (mj_KS N, I, mj_PP (2) d r)) 0 rfl trivial ?_
      refine R_br (q := (bI (sp_has (I 2 0) a) : Int32) = 0) (t := 22) (f := 26) (rest := []) rfl (fun h2 => ?_) (fun h2 => ?_)
      · skip
        replace h2 := bI_0.mp h2
        refine R_seg (φ := []) (pc' := 25) (L' := [.ref 1, .int q, .int a, .int n, .int w, mj_mk]) (st' := [.long (-9223372036854775808)]) (σ' := (mj_KS N, I, mj_PP (2) d r)) 1 rfl trivial ?_
        exact R_rl rfl rfl (mj_leaf (by simp only [s_X5_odds, h1, h2, Bool.false_eq_true, ↓reduceIte, Nat.reduceAdd, Nat.reduceMul, mj_tn0, mj_tn1, mj_tn2, mj_tn3]) (by simp only [s_X5_odds, h1, h2, Bool.false_eq_true, ↓reduceIte, Nat.reduceAdd, Nat.reduceMul, mj_tn0, mj_tn1, mj_tn2, mj_tn3]))
      · skip
        replace h2 := bI_1 h2
        refine R_seg (φ := []) (pc' := 28) (L' := [.ref 1, .int q, .int a, .int n, .int w, mj_mk]) (st' := [.int 1, .int n]) (σ' := (mj_KS N, I, mj_PP (2) d r)) 2 rfl trivial ?_
        refine R_br (q := (n : Int32) < 1) (t := 48) (f := 31) (rest := []) rfl (fun h3 => ?_) (fun h3 => ?_)
        · skip
          refine R_seg (φ := []) (pc' := 51) (L' := [.ref 1, .int q, .int a, .int n, .int w, mj_mk]) (st' := [.long (-9223372036854775808)]) (σ' := (mj_KS N, I, mj_PP (2) d r)) 1 rfl trivial ?_
          exact R_rl rfl rfl (mj_leaf (by simp only [s_X5_odds, h1, h2, if_pos h3, Bool.false_eq_true, ↓reduceIte, Nat.reduceAdd, Nat.reduceMul, mj_tn0, mj_tn1, mj_tn2, mj_tn3]) (by simp only [s_X5_odds, h1, h2, if_pos h3, Bool.false_eq_true, ↓reduceIte, Nat.reduceAdd, Nat.reduceMul, mj_tn0, mj_tn1, mj_tn2, mj_tn3]))
        · skip
          refine R_seg (φ := []) (pc' := 34) (L' := [.ref 1, .int q, .int a, .int n, .int w, mj_mk]) (st' := [.int 6, .int n]) (σ' := (mj_KS N, I, mj_PP (2) d r)) 2 rfl trivial ?_
          refine R_br (q := (6 : Int32) < n) (t := 48) (f := 37) (rest := []) rfl (fun h4 => ?_) (fun h4 => ?_)
          · skip
            refine R_seg (φ := []) (pc' := 51) (L' := [.ref 1, .int q, .int a, .int n, .int w, mj_mk]) (st' := [.long (-9223372036854775808)]) (σ' := (mj_KS N, I, mj_PP (2) d r)) 1 rfl trivial ?_
            exact R_rl rfl rfl (mj_leaf (by simp only [s_X5_odds, h1, h2, if_neg h3, if_pos h4, Bool.false_eq_true, ↓reduceIte, Nat.reduceAdd, Nat.reduceMul, mj_tn0, mj_tn1, mj_tn2, mj_tn3]) (by simp only [s_X5_odds, h1, h2, if_neg h3, if_pos h4, Bool.false_eq_true, ↓reduceIte, Nat.reduceAdd, Nat.reduceMul, mj_tn0, mj_tn1, mj_tn2, mj_tn3]))
          · skip
            refine R_seg (φ := []) (pc' := 39) (L' := [.ref 1, .int q, .int a, .int n, .int w, mj_mk]) (st' := [.int w]) (σ' := (mj_KS N, I, mj_PP (2) d r)) 1 rfl trivial ?_
            refine R_br (q := (w : Int32) < 0) (t := 48) (f := 42) (rest := []) rfl (fun h5 => ?_) (fun h5 => ?_)
            · skip
              refine R_seg (φ := []) (pc' := 51) (L' := [.ref 1, .int q, .int a, .int n, .int w, mj_mk]) (st' := [.long (-9223372036854775808)]) (σ' := (mj_KS N, I, mj_PP (2) d r)) 1 rfl trivial ?_
              exact R_rl rfl rfl (mj_leaf (by simp only [s_X5_odds, h1, h2, if_neg h3, if_neg h4, if_pos h5, Bool.false_eq_true, ↓reduceIte, Nat.reduceAdd, Nat.reduceMul, mj_tn0, mj_tn1, mj_tn2, mj_tn3]) (by simp only [s_X5_odds, h1, h2, if_neg h3, if_neg h4, if_pos h5, Bool.false_eq_true, ↓reduceIte, Nat.reduceAdd, Nat.reduceMul, mj_tn0, mj_tn1, mj_tn2, mj_tn3]))
            · skip
              refine R_seg (φ := []) (pc' := 45) (L' := [.ref 1, .int q, .int a, .int n, .int w, mj_mk]) (st' := [.int 1, .int w]) (σ' := (mj_KS N, I, mj_PP (2) d r)) 2 rfl trivial ?_
              refine R_br (q := (1 : Int32) < w) (t := 48) (f := 52) (rest := []) rfl (fun h6 => ?_) (fun h6 => ?_)
              · skip
                refine R_seg (φ := []) (pc' := 51) (L' := [.ref 1, .int q, .int a, .int n, .int w, mj_mk]) (st' := [.long (-9223372036854775808)]) (σ' := (mj_KS N, I, mj_PP (2) d r)) 1 rfl trivial ?_
                exact R_rl rfl rfl (mj_leaf (by simp only [s_X5_odds, h1, h2, if_neg h3, if_neg h4, if_neg h5, if_pos h6, Bool.false_eq_true, ↓reduceIte, Nat.reduceAdd, Nat.reduceMul, mj_tn0, mj_tn1, mj_tn2, mj_tn3]) (by simp only [s_X5_odds, h1, h2, if_neg h3, if_neg h4, if_neg h5, if_pos h6, Bool.false_eq_true, ↓reduceIte, Nat.reduceAdd, Nat.reduceMul, mj_tn0, mj_tn1, mj_tn2, mj_tn3]))
              · skip
                obtain ⟨f, hf, rfl⟩ := mj_hasnat h2 hn
                · skip
                  refine R_seg (φ := []) (pc' := 53) (L' := [.ref 1, .int q, .int ((nI f)), .int n, .int w, mj_mk]) (st' := [.ref 1]) (σ' := (mj_KS N, I, mj_PP (2) d r)) 1 rfl trivial ?_
                  obtain ⟨v, hv, rfl⟩ := mj_v6 (by assumption) (by assumption)
                  · skip
                    refine R_seg (φ := []) (pc' := 63) (L' := [.ref 1, .int q, .int ((nI f)), .int ((nI v)), .int w, mj_mk]) (st' := [.int ((nI v)), .int ((nI f)), .int q, .ref 2, .ref 25]) (σ' := (mj_KS N, I, mj_PP (2) d r)) 6 rfl trivial ?_
                    refine R_ce (idx := 218) (mid := 1) (kind := 3) (N := N) (M' := mj_m_X0_go) (As := [.ref 25, .ref 2, .int q, .int ((nI f)), .int ((nI v))]) (rest := []) (I := I) (P := mj_PP (2) d r) (I' := (s_X0_go (2) m q f v I)) (P' := mj_PP (2) d r) (v := none) rfl rfl rfl mj_mc1 mj_dc1 rfl rfl rfl rfl rfl rfl (x_X0_go l b base D z N (2) m q f v (by decide) I d r hm (mj_has3 h1 hp) hf hv hs) ?_
                    refine R_seg (φ := []) (pc' := 80) (L' := [.ref 1, .int q, .int ((nI f)), .int ((nI v)), .int w, mj_mk]) (st' := [.int ((s_X0_go (2) m q f v I) 25 1), .int ((s_X0_go (2) m q f v I) 25 0)]) (σ' := (mj_KS N, (s_X0_go (2) m q f v I), mj_PP (2) d r)) 6 rfl trivial ?_
                    refine R_ce (idx := 228) (mid := 70) (kind := 1) (N := N) (M' := mj_m_X5_greatestDivisor) (As := [.int ((s_X0_go (2) m q f v I) 25 0), .int ((s_X0_go (2) m q f v I) 25 1)]) (rest := []) (I := (s_X0_go (2) m q f v I)) (P := mj_PP (2) d r) (I' := (s_X0_go (2) m q f v I)) (P' := mj_PP (2) d r) (v := some (.int (s_X5_greatestDivisor ((s_X0_go (2) m q f v I) 25 0) ((s_X0_go (2) m q f v I) 25 1) (s_X0_go (2) m q f v I)))) rfl rfl rfl mj_mc70 mj_dc70 rfl rfl rfl rfl rfl rfl (x_X5_greatestDivisor l b base D z N ((s_X0_go (2) m q f v I) 25 0) ((s_X0_go (2) m q f v I) 25 1)  (s_X0_go (2) m q f v I) (2) d r ) ?_
                    refine R_seg (φ := []) (pc' := 88) (L' := [.ref 1, .int q, .int ((nI f)), .int ((nI v)), .int w, .int (s_X5_greatestDivisor ((s_X0_go (2) m q f v I) 25 0) ((s_X0_go (2) m q f v I) 25 1) (s_X0_go (2) m q f v I))]) (st' := [.int 1, .int (s_X5_greatestDivisor ((s_X0_go (2) m q f v I) 25 0) ((s_X0_go (2) m q f v I) 25 1) (s_X0_go (2) m q f v I))]) (σ' := (mj_KS N, (s_X0_go (2) m q f v I), mj_PP (2) d r)) 3 rfl trivial ?_
                    refine R_br (q := ((s_X5_greatestDivisor ((s_X0_go (2) m q f v I) 25 0) ((s_X0_go (2) m q f v I) 25 1) (s_X0_go (2) m q f v I)) : Int32) < 1) (t := 91) (f := 95) (rest := []) rfl (fun h7 => ?_) (fun h7 => ?_)
                    · skip
                      refine R_seg (φ := []) (pc' := 94) (L' := [.ref 1, .int q, .int ((nI f)), .int ((nI v)), .int w, .int (s_X5_greatestDivisor ((s_X0_go (2) m q f v I) 25 0) ((s_X0_go (2) m q f v I) 25 1) (s_X0_go (2) m q f v I))]) (st' := [.long (-9223372036854775808)]) (σ' := (mj_KS N, (s_X0_go (2) m q f v I), mj_PP (2) d r)) 1 rfl trivial ?_
                      exact R_rl rfl rfl (mj_leaf (by simp only [s_X5_odds, mj_tnm (show f < 2147483648 by omega), mj_tnm (show v < 2147483648 by omega), h1, h2, if_neg h3, if_neg h4, if_neg h5, if_neg h6, if_pos h7, Bool.false_eq_true, ↓reduceIte, Nat.reduceAdd, Nat.reduceMul, mj_tn0, mj_tn1, mj_tn2, mj_tn3]) (by simp only [s_X5_odds, mj_tnm (show f < 2147483648 by omega), mj_tnm (show v < 2147483648 by omega), h1, h2, if_neg h3, if_neg h4, if_neg h5, if_neg h6, if_pos h7, Bool.false_eq_true, ↓reduceIte, Nat.reduceAdd, Nat.reduceMul, mj_tn0, mj_tn1, mj_tn2, mj_tn3]))
                    · skip
                      refine R_seg (φ := []) (pc' := 97) (L' := [.ref 1, .int q, .int ((nI f)), .int ((nI v)), .int w, .int (s_X5_greatestDivisor ((s_X0_go (2) m q f v I) 25 0) ((s_X0_go (2) m q f v I) 25 1) (s_X0_go (2) m q f v I))]) (st' := [.int w]) (σ' := (mj_KS N, (s_X0_go (2) m q f v I), mj_PP (2) d r)) 1 rfl trivial ?_
                      refine R_br (q := (w : Int32) = 0) (t := 100) (f := 110) (rest := []) rfl (fun h8 => ?_) (fun h8 => ?_)
                      · skip
                        refine R_seg (φ := [¬ ((s_X5_greatestDivisor ((s_X0_go (2) m q f v I) 25 0) ((s_X0_go (2) m q f v I) 25 1) (s_X0_go (2) m q f v I)) : Int32) = 0]) (pc' := 121) (L' := [.ref 1, .int q, .int ((nI f)), .int ((nI v)), .int w, .int (s_X5_greatestDivisor ((s_X0_go (2) m q f v I) 25 0) ((s_X0_go (2) m q f v I) 25 1) (s_X0_go (2) m q f v I))]) (st' := [.long ((((s_X0_go (2) m q f v I) 25 1) / (s_X5_greatestDivisor ((s_X0_go (2) m q f v I) 25 0) ((s_X0_go (2) m q f v I) 25 1) (s_X0_go (2) m q f v I)) : Int32).toInt64)]) (σ' := (mj_KS N, (s_X0_go (2) m q f v I), mj_PP (2) d r)) 7 rfl ⟨mj_ge1 (by assumption), trivial⟩ ?_
                        exact R_rl rfl rfl (mj_leaf (by simp only [s_X5_odds, mj_tnm (show f < 2147483648 by omega), mj_tnm (show v < 2147483648 by omega), h1, h2, if_neg h3, if_neg h4, if_neg h5, if_neg h6, if_neg h7, if_pos h8, Bool.false_eq_true, ↓reduceIte, Nat.reduceAdd, Nat.reduceMul, mj_tn0, mj_tn1, mj_tn2, mj_tn3]) (by simp only [s_X5_odds, mj_tnm (show f < 2147483648 by omega), mj_tnm (show v < 2147483648 by omega), h1, h2, if_neg h3, if_neg h4, if_neg h5, if_neg h6, if_neg h7, if_pos h8, Bool.false_eq_true, ↓reduceIte, Nat.reduceAdd, Nat.reduceMul, mj_tn0, mj_tn1, mj_tn2, mj_tn3]))
                      · skip
                        refine R_seg (φ := [¬ ((s_X5_greatestDivisor ((s_X0_go (2) m q f v I) 25 0) ((s_X0_go (2) m q f v I) 25 1) (s_X0_go (2) m q f v I)) : Int32) = 0]) (pc' := 121) (L' := [.ref 1, .int q, .int ((nI f)), .int ((nI v)), .int w, .int (s_X5_greatestDivisor ((s_X0_go (2) m q f v I) 25 0) ((s_X0_go (2) m q f v I) 25 1) (s_X0_go (2) m q f v I))]) (st' := [.long ((((s_X0_go (2) m q f v I) 25 0) / (s_X5_greatestDivisor ((s_X0_go (2) m q f v I) 25 0) ((s_X0_go (2) m q f v I) 25 1) (s_X0_go (2) m q f v I)) : Int32).toInt64)]) (σ' := (mj_KS N, (s_X0_go (2) m q f v I), mj_PP (2) d r)) 6 rfl ⟨mj_ge1 (by assumption), trivial⟩ ?_
                        exact R_rl rfl rfl (mj_leaf (by simp only [s_X5_odds, mj_tnm (show f < 2147483648 by omega), mj_tnm (show v < 2147483648 by omega), h1, h2, if_neg h3, if_neg h4, if_neg h5, if_neg h6, if_neg h7, if_neg h8, Bool.false_eq_true, ↓reduceIte, Nat.reduceAdd, Nat.reduceMul, mj_tn0, mj_tn1, mj_tn2, mj_tn3]) (by simp only [s_X5_odds, mj_tnm (show f < 2147483648 by omega), mj_tnm (show v < 2147483648 by omega), h1, h2, if_neg h3, if_neg h4, if_neg h5, if_neg h6, if_neg h7, if_neg h8, Bool.false_eq_true, ↓reduceIte, Nat.reduceAdd, Nat.reduceMul, mj_tn0, mj_tn1, mj_tn2, mj_tn3]))
  · skip
    refine R_seg (φ := []) (pc' := 5) (L' := [.ref 1, .int q, .int a, .int n, .int w, mj_mk]) (st' := [.int q, .ref 10]) (σ' := (mj_KS N, I, mj_PP (10) d r)) 3 rfl trivial ?_
    refine R_ce (idx := 119) (mid := 8) (kind := 3) (N := N) (M' := mj_m_X1_hasPlant) (As := [.ref 10, .int q]) (rest := []) (I := I) (P := mj_PP (10) d r) (I' := I) (P' := mj_PP (10) d r) (v := some (.int (bI (sp_has (I 10 1) q)))) rfl rfl rfl mj_mc8 mj_dc8 rfl rfl rfl rfl rfl rfl (x_hasPlant l b base D z N 10 (by decide) q I (10) d r) ?_
    refine R_seg (φ := []) (pc' := 8) (L' := [.ref 1, .int q, .int a, .int n, .int w, mj_mk]) (st' := [.int (bI (sp_has (I 10 1) q))]) (σ' := (mj_KS N, I, mj_PP (10) d r)) 0 rfl trivial ?_
    refine R_br (q := (bI (sp_has (I 10 1) q) : Int32) = 0) (t := 22) (f := 11) (rest := []) rfl (fun h1 => ?_) (fun h1 => ?_)
    · skip
      replace h1 := bI_0.mp h1
      refine R_seg (φ := []) (pc' := 25) (L' := [.ref 1, .int q, .int a, .int n, .int w, mj_mk]) (st' := [.long (-9223372036854775808)]) (σ' := (mj_KS N, I, mj_PP (10) d r)) 1 rfl trivial ?_
      exact R_rl rfl rfl (mj_leaf (by simp only [s_X5_odds, h1, Bool.false_eq_true, ↓reduceIte, Nat.reduceAdd, Nat.reduceMul, mj_tn0, mj_tn1, mj_tn2, mj_tn3]) (by simp only [s_X5_odds, h1, Bool.false_eq_true, ↓reduceIte, Nat.reduceAdd, Nat.reduceMul, mj_tn0, mj_tn1, mj_tn2, mj_tn3]))
    · skip
      replace h1 := bI_1 h1
      refine R_seg (φ := []) (pc' := 16) (L' := [.ref 1, .int q, .int a, .int n, .int w, mj_mk]) (st' := [.int a, .ref 10]) (σ' := (mj_KS N, I, mj_PP (10) d r)) 3 rfl trivial ?_
      refine R_ce (idx := 110) (mid := 7) (kind := 3) (N := N) (M' := mj_m_X1_hasStreet) (As := [.ref 10, .int a]) (rest := []) (I := I) (P := mj_PP (10) d r) (I' := I) (P' := mj_PP (10) d r) (v := some (.int (bI (sp_has (I 10 0) a)))) rfl rfl rfl mj_mc7 mj_dc7 rfl rfl rfl rfl rfl rfl (x_hasStreet l b base D z N 10 (by decide) a I (10) d r) ?_
      refine R_seg (φ := []) (pc' := 19) (L' := [.ref 1, .int q, .int a, .int n, .int w, mj_mk]) (st' := [.int (bI (sp_has (I 10 0) a))]) (σ' := (mj_KS N, I, mj_PP (10) d r)) 0 rfl trivial ?_
      refine R_br (q := (bI (sp_has (I 10 0) a) : Int32) = 0) (t := 22) (f := 26) (rest := []) rfl (fun h2 => ?_) (fun h2 => ?_)
      · skip
        replace h2 := bI_0.mp h2
        refine R_seg (φ := []) (pc' := 25) (L' := [.ref 1, .int q, .int a, .int n, .int w, mj_mk]) (st' := [.long (-9223372036854775808)]) (σ' := (mj_KS N, I, mj_PP (10) d r)) 1 rfl trivial ?_
        exact R_rl rfl rfl (mj_leaf (by simp only [s_X5_odds, h1, h2, Bool.false_eq_true, ↓reduceIte, Nat.reduceAdd, Nat.reduceMul, mj_tn0, mj_tn1, mj_tn2, mj_tn3]) (by simp only [s_X5_odds, h1, h2, Bool.false_eq_true, ↓reduceIte, Nat.reduceAdd, Nat.reduceMul, mj_tn0, mj_tn1, mj_tn2, mj_tn3]))
      · skip
        replace h2 := bI_1 h2
        refine R_seg (φ := []) (pc' := 28) (L' := [.ref 1, .int q, .int a, .int n, .int w, mj_mk]) (st' := [.int 1, .int n]) (σ' := (mj_KS N, I, mj_PP (10) d r)) 2 rfl trivial ?_
        refine R_br (q := (n : Int32) < 1) (t := 48) (f := 31) (rest := []) rfl (fun h3 => ?_) (fun h3 => ?_)
        · skip
          refine R_seg (φ := []) (pc' := 51) (L' := [.ref 1, .int q, .int a, .int n, .int w, mj_mk]) (st' := [.long (-9223372036854775808)]) (σ' := (mj_KS N, I, mj_PP (10) d r)) 1 rfl trivial ?_
          exact R_rl rfl rfl (mj_leaf (by simp only [s_X5_odds, h1, h2, if_pos h3, Bool.false_eq_true, ↓reduceIte, Nat.reduceAdd, Nat.reduceMul, mj_tn0, mj_tn1, mj_tn2, mj_tn3]) (by simp only [s_X5_odds, h1, h2, if_pos h3, Bool.false_eq_true, ↓reduceIte, Nat.reduceAdd, Nat.reduceMul, mj_tn0, mj_tn1, mj_tn2, mj_tn3]))
        · skip
          refine R_seg (φ := []) (pc' := 34) (L' := [.ref 1, .int q, .int a, .int n, .int w, mj_mk]) (st' := [.int 6, .int n]) (σ' := (mj_KS N, I, mj_PP (10) d r)) 2 rfl trivial ?_
          refine R_br (q := (6 : Int32) < n) (t := 48) (f := 37) (rest := []) rfl (fun h4 => ?_) (fun h4 => ?_)
          · skip
            refine R_seg (φ := []) (pc' := 51) (L' := [.ref 1, .int q, .int a, .int n, .int w, mj_mk]) (st' := [.long (-9223372036854775808)]) (σ' := (mj_KS N, I, mj_PP (10) d r)) 1 rfl trivial ?_
            exact R_rl rfl rfl (mj_leaf (by simp only [s_X5_odds, h1, h2, if_neg h3, if_pos h4, Bool.false_eq_true, ↓reduceIte, Nat.reduceAdd, Nat.reduceMul, mj_tn0, mj_tn1, mj_tn2, mj_tn3]) (by simp only [s_X5_odds, h1, h2, if_neg h3, if_pos h4, Bool.false_eq_true, ↓reduceIte, Nat.reduceAdd, Nat.reduceMul, mj_tn0, mj_tn1, mj_tn2, mj_tn3]))
          · skip
            refine R_seg (φ := []) (pc' := 39) (L' := [.ref 1, .int q, .int a, .int n, .int w, mj_mk]) (st' := [.int w]) (σ' := (mj_KS N, I, mj_PP (10) d r)) 1 rfl trivial ?_
            refine R_br (q := (w : Int32) < 0) (t := 48) (f := 42) (rest := []) rfl (fun h5 => ?_) (fun h5 => ?_)
            · skip
              refine R_seg (φ := []) (pc' := 51) (L' := [.ref 1, .int q, .int a, .int n, .int w, mj_mk]) (st' := [.long (-9223372036854775808)]) (σ' := (mj_KS N, I, mj_PP (10) d r)) 1 rfl trivial ?_
              exact R_rl rfl rfl (mj_leaf (by simp only [s_X5_odds, h1, h2, if_neg h3, if_neg h4, if_pos h5, Bool.false_eq_true, ↓reduceIte, Nat.reduceAdd, Nat.reduceMul, mj_tn0, mj_tn1, mj_tn2, mj_tn3]) (by simp only [s_X5_odds, h1, h2, if_neg h3, if_neg h4, if_pos h5, Bool.false_eq_true, ↓reduceIte, Nat.reduceAdd, Nat.reduceMul, mj_tn0, mj_tn1, mj_tn2, mj_tn3]))
            · skip
              refine R_seg (φ := []) (pc' := 45) (L' := [.ref 1, .int q, .int a, .int n, .int w, mj_mk]) (st' := [.int 1, .int w]) (σ' := (mj_KS N, I, mj_PP (10) d r)) 2 rfl trivial ?_
              refine R_br (q := (1 : Int32) < w) (t := 48) (f := 52) (rest := []) rfl (fun h6 => ?_) (fun h6 => ?_)
              · skip
                refine R_seg (φ := []) (pc' := 51) (L' := [.ref 1, .int q, .int a, .int n, .int w, mj_mk]) (st' := [.long (-9223372036854775808)]) (σ' := (mj_KS N, I, mj_PP (10) d r)) 1 rfl trivial ?_
                exact R_rl rfl rfl (mj_leaf (by simp only [s_X5_odds, h1, h2, if_neg h3, if_neg h4, if_neg h5, if_pos h6, Bool.false_eq_true, ↓reduceIte, Nat.reduceAdd, Nat.reduceMul, mj_tn0, mj_tn1, mj_tn2, mj_tn3]) (by simp only [s_X5_odds, h1, h2, if_neg h3, if_neg h4, if_neg h5, if_pos h6, Bool.false_eq_true, ↓reduceIte, Nat.reduceAdd, Nat.reduceMul, mj_tn0, mj_tn1, mj_tn2, mj_tn3]))
              · skip
                obtain ⟨f, hf, rfl⟩ := mj_hasnat h2 hn
                · skip
                  refine R_seg (φ := []) (pc' := 53) (L' := [.ref 1, .int q, .int ((nI f)), .int n, .int w, mj_mk]) (st' := [.ref 1]) (σ' := (mj_KS N, I, mj_PP (10) d r)) 1 rfl trivial ?_
                  obtain ⟨v, hv, rfl⟩ := mj_v6 (by assumption) (by assumption)
                  · skip
                    refine R_seg (φ := []) (pc' := 63) (L' := [.ref 1, .int q, .int ((nI f)), .int ((nI v)), .int w, mj_mk]) (st' := [.int ((nI v)), .int ((nI f)), .int q, .ref 10, .ref 25]) (σ' := (mj_KS N, I, mj_PP (10) d r)) 6 rfl trivial ?_
                    refine R_ce (idx := 218) (mid := 1) (kind := 3) (N := N) (M' := mj_m_X0_go) (As := [.ref 25, .ref 10, .int q, .int ((nI f)), .int ((nI v))]) (rest := []) (I := I) (P := mj_PP (10) d r) (I' := (s_X0_go (10) m q f v I)) (P' := mj_PP (10) d r) (v := none) rfl rfl rfl mj_mc1 mj_dc1 rfl rfl rfl rfl rfl rfl (x_X0_go l b base D z N (10) m q f v (by decide) I d r hm (mj_has3 h1 hp) hf hv hs) ?_
                    refine R_seg (φ := []) (pc' := 80) (L' := [.ref 1, .int q, .int ((nI f)), .int ((nI v)), .int w, mj_mk]) (st' := [.int ((s_X0_go (10) m q f v I) 25 1), .int ((s_X0_go (10) m q f v I) 25 0)]) (σ' := (mj_KS N, (s_X0_go (10) m q f v I), mj_PP (10) d r)) 6 rfl trivial ?_
                    refine R_ce (idx := 228) (mid := 70) (kind := 1) (N := N) (M' := mj_m_X5_greatestDivisor) (As := [.int ((s_X0_go (10) m q f v I) 25 0), .int ((s_X0_go (10) m q f v I) 25 1)]) (rest := []) (I := (s_X0_go (10) m q f v I)) (P := mj_PP (10) d r) (I' := (s_X0_go (10) m q f v I)) (P' := mj_PP (10) d r) (v := some (.int (s_X5_greatestDivisor ((s_X0_go (10) m q f v I) 25 0) ((s_X0_go (10) m q f v I) 25 1) (s_X0_go (10) m q f v I)))) rfl rfl rfl mj_mc70 mj_dc70 rfl rfl rfl rfl rfl rfl (x_X5_greatestDivisor l b base D z N ((s_X0_go (10) m q f v I) 25 0) ((s_X0_go (10) m q f v I) 25 1)  (s_X0_go (10) m q f v I) (10) d r ) ?_
                    refine R_seg (φ := []) (pc' := 88) (L' := [.ref 1, .int q, .int ((nI f)), .int ((nI v)), .int w, .int (s_X5_greatestDivisor ((s_X0_go (10) m q f v I) 25 0) ((s_X0_go (10) m q f v I) 25 1) (s_X0_go (10) m q f v I))]) (st' := [.int 1, .int (s_X5_greatestDivisor ((s_X0_go (10) m q f v I) 25 0) ((s_X0_go (10) m q f v I) 25 1) (s_X0_go (10) m q f v I))]) (σ' := (mj_KS N, (s_X0_go (10) m q f v I), mj_PP (10) d r)) 3 rfl trivial ?_
                    refine R_br (q := ((s_X5_greatestDivisor ((s_X0_go (10) m q f v I) 25 0) ((s_X0_go (10) m q f v I) 25 1) (s_X0_go (10) m q f v I)) : Int32) < 1) (t := 91) (f := 95) (rest := []) rfl (fun h7 => ?_) (fun h7 => ?_)
                    · skip
                      refine R_seg (φ := []) (pc' := 94) (L' := [.ref 1, .int q, .int ((nI f)), .int ((nI v)), .int w, .int (s_X5_greatestDivisor ((s_X0_go (10) m q f v I) 25 0) ((s_X0_go (10) m q f v I) 25 1) (s_X0_go (10) m q f v I))]) (st' := [.long (-9223372036854775808)]) (σ' := (mj_KS N, (s_X0_go (10) m q f v I), mj_PP (10) d r)) 1 rfl trivial ?_
                      exact R_rl rfl rfl (mj_leaf (by simp only [s_X5_odds, mj_tnm (show f < 2147483648 by omega), mj_tnm (show v < 2147483648 by omega), h1, h2, if_neg h3, if_neg h4, if_neg h5, if_neg h6, if_pos h7, Bool.false_eq_true, ↓reduceIte, Nat.reduceAdd, Nat.reduceMul, mj_tn0, mj_tn1, mj_tn2, mj_tn3]) (by simp only [s_X5_odds, mj_tnm (show f < 2147483648 by omega), mj_tnm (show v < 2147483648 by omega), h1, h2, if_neg h3, if_neg h4, if_neg h5, if_neg h6, if_pos h7, Bool.false_eq_true, ↓reduceIte, Nat.reduceAdd, Nat.reduceMul, mj_tn0, mj_tn1, mj_tn2, mj_tn3]))
                    · skip
                      refine R_seg (φ := []) (pc' := 97) (L' := [.ref 1, .int q, .int ((nI f)), .int ((nI v)), .int w, .int (s_X5_greatestDivisor ((s_X0_go (10) m q f v I) 25 0) ((s_X0_go (10) m q f v I) 25 1) (s_X0_go (10) m q f v I))]) (st' := [.int w]) (σ' := (mj_KS N, (s_X0_go (10) m q f v I), mj_PP (10) d r)) 1 rfl trivial ?_
                      refine R_br (q := (w : Int32) = 0) (t := 100) (f := 110) (rest := []) rfl (fun h8 => ?_) (fun h8 => ?_)
                      · skip
                        refine R_seg (φ := [¬ ((s_X5_greatestDivisor ((s_X0_go (10) m q f v I) 25 0) ((s_X0_go (10) m q f v I) 25 1) (s_X0_go (10) m q f v I)) : Int32) = 0]) (pc' := 121) (L' := [.ref 1, .int q, .int ((nI f)), .int ((nI v)), .int w, .int (s_X5_greatestDivisor ((s_X0_go (10) m q f v I) 25 0) ((s_X0_go (10) m q f v I) 25 1) (s_X0_go (10) m q f v I))]) (st' := [.long ((((s_X0_go (10) m q f v I) 25 1) / (s_X5_greatestDivisor ((s_X0_go (10) m q f v I) 25 0) ((s_X0_go (10) m q f v I) 25 1) (s_X0_go (10) m q f v I)) : Int32).toInt64)]) (σ' := (mj_KS N, (s_X0_go (10) m q f v I), mj_PP (10) d r)) 7 rfl ⟨mj_ge1 (by assumption), trivial⟩ ?_
                        exact R_rl rfl rfl (mj_leaf (by simp only [s_X5_odds, mj_tnm (show f < 2147483648 by omega), mj_tnm (show v < 2147483648 by omega), h1, h2, if_neg h3, if_neg h4, if_neg h5, if_neg h6, if_neg h7, if_pos h8, Bool.false_eq_true, ↓reduceIte, Nat.reduceAdd, Nat.reduceMul, mj_tn0, mj_tn1, mj_tn2, mj_tn3]) (by simp only [s_X5_odds, mj_tnm (show f < 2147483648 by omega), mj_tnm (show v < 2147483648 by omega), h1, h2, if_neg h3, if_neg h4, if_neg h5, if_neg h6, if_neg h7, if_pos h8, Bool.false_eq_true, ↓reduceIte, Nat.reduceAdd, Nat.reduceMul, mj_tn0, mj_tn1, mj_tn2, mj_tn3]))
                      · skip
                        refine R_seg (φ := [¬ ((s_X5_greatestDivisor ((s_X0_go (10) m q f v I) 25 0) ((s_X0_go (10) m q f v I) 25 1) (s_X0_go (10) m q f v I)) : Int32) = 0]) (pc' := 121) (L' := [.ref 1, .int q, .int ((nI f)), .int ((nI v)), .int w, .int (s_X5_greatestDivisor ((s_X0_go (10) m q f v I) 25 0) ((s_X0_go (10) m q f v I) 25 1) (s_X0_go (10) m q f v I))]) (st' := [.long ((((s_X0_go (10) m q f v I) 25 0) / (s_X5_greatestDivisor ((s_X0_go (10) m q f v I) 25 0) ((s_X0_go (10) m q f v I) 25 1) (s_X0_go (10) m q f v I)) : Int32).toInt64)]) (σ' := (mj_KS N, (s_X0_go (10) m q f v I), mj_PP (10) d r)) 6 rfl ⟨mj_ge1 (by assumption), trivial⟩ ?_
                        exact R_rl rfl rfl (mj_leaf (by simp only [s_X5_odds, mj_tnm (show f < 2147483648 by omega), mj_tnm (show v < 2147483648 by omega), h1, h2, if_neg h3, if_neg h4, if_neg h5, if_neg h6, if_neg h7, if_neg h8, Bool.false_eq_true, ↓reduceIte, Nat.reduceAdd, Nat.reduceMul, mj_tn0, mj_tn1, mj_tn2, mj_tn3]) (by simp only [s_X5_odds, mj_tnm (show f < 2147483648 by omega), mj_tnm (show v < 2147483648 by omega), h1, h2, if_neg h3, if_neg h4, if_neg h5, if_neg h6, if_neg h7, if_neg h8, Bool.false_eq_true, ↓reduceIte, Nat.reduceAdd, Nat.reduceMul, mj_tn0, mj_tn1, mj_tn2, mj_tn3]))
