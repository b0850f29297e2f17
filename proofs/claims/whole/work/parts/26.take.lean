/-! the class: a row of cells as a route -/
theorem mj_fot0 {has lane len a i n : Int32} (h : sp_fot has lane len a i n = 0) : ¬ has = 0 ∧ lane = a ∧ ¬ n < 0 ∧ sp_hc len i n = true := by
  unfold sp_fot at h
  by_cases h1 : has = 0
  · rw [if_pos h1] at h; exact absurd h (by decide)
  · rw [if_neg h1] at h
    by_cases h2 : lane = a
    · rw [if_pos h2] at h
      by_cases h3 : n < 0
      · rw [if_pos h3] at h; exact absurd h (by decide)
      · rw [if_neg h3] at h
        refine ⟨h1, h2, h3, ?_⟩
        cases e : sp_hc len i n with
        | true => rfl
        | false => rw [e] at h; exact absurd h (by decide)
    · rw [if_neg h2] at h; exact absurd h (by decide)
theorem mj_hcS {len i n : Int32} (h : sp_hc len i n = true) (hn : 0 ≤ n.toInt) (hl : 0 ≤ len.toInt ∧ len.toInt ≤ 60) : 0 ≤ i.toInt ∧ i.toInt + n.toInt ≤ len.toInt := by
  unfold sp_hc at h
  by_cases h1 : i < 0
  · rw [if_pos h1] at h; cases h
  · rw [if_neg h1] at h
    by_cases h2 : len - n < i
    · rw [if_pos h2] at h; cases h
    · have a1 := mj_i0 h1
      have a2 := mj_iN h2
      have a3 : n.toInt < 2147483648 := Int32.toInt_lt n
      rw [mj_isub (by omega) (by omega)] at a2
      omega
theorem mj_addin {i : Int32} {j m n : Nat} (h : 0 ≤ i.toInt ∧ i.toInt + (m : Int) ≤ (n : Int)) (hj : j < m) (hn : n < 2147483648) : mj_in (i + nI j) n := by
  have e : (nI j).toInt = (j : Int) := nI_toInt (by omega)
  have e2 : (i + nI j).toInt = i.toInt + (j : Int) := by rw [mj_iadd (by omega) (by omega), e]
  exact (show 0 ≤ (i + nI j).toInt ∧ (i + nI j).toInt < (n : Int) from ⟨by omega, by omega⟩)
def s_X5_tw (cc : Nat) (u : Int32) (a : Int32) (i : Int32) (m : Nat) (f : Int32) : Nat → Nat → mj_I → Int32 × mj_I
  | 0, j, I => (0, I)
  | k + 1, j, I => if sp_has (I cc 0) (I (34 + 2 * u.toNatClampNeg + 1) (i + (nI j))) then (s_X5_tw cc u a i m f k (j + 1)  (mj_upI I 29 (nI j) (I (34 + 2 * u.toNatClampNeg + 1) (i + (nI j))))) else ((-1), I)
set_option maxHeartbeats 8000000 in
theorem x_X5_tw (l : Launch) (b base : Nat) (D : va_G) (z : mj_K × (Int32 → Int32)) (N : Nat) (cc : Nat) (u : Int32) (a : Int32) (i : Int32) (m : Nat) (f : Int32) (hcc : cc = 2 ∨ cc = 10) (hu : u = 0 ∨ u = 1 ∨ u = 2 ∨ u = 3) (d r : Nat) (hm : m ≤ 24) (hi : 0 ≤ i.toInt ∧ i.toInt + (m : Int) ≤ ((60 : Nat) : Int)) : ∀ (k j : Nat) (w7 : Value) (I : mj_I), k = m - j → 0 ≤ j → j ≤ m + 1 → mj_Rn l b base D z mj_m_X5_takeWay 48 [.ref 1, .int u, .int a, .int i, .int (nI m), .int f, .int (nI j), w7] [] (mj_KS N, I, mj_PP cc d r) (mj_E N (some (.int (s_X5_tw cc u a i m f k j  I).1)) (s_X5_tw cc u a i m f k j  I).2 (mj_PP cc d r)) := by
  rcases hcc with rfl | rfl <;> rcases hu with rfl | rfl | rfl | rfl
  · skip
    intro k
    induction k with
    | zero =>
      intro j w7 I hk hlo hj
      refine R_seg (φ := []) (pc' := 52) (L' := [.ref 1, .int (0), .int a, .int i, .int (nI m), .int f, .int (nI j), w7]) (st' := [.int (nI m), .int (nI j)]) (σ' := (mj_KS N, I, mj_PP (2) d r)) 2 rfl trivial ?_
      refine R_br (q := (nI j : Int32) < nI m) (t := 55) (f := 100) (rest := []) rfl (fun h1 => absurd h1 (by exact nI_nlt (by omega) (by omega))) (fun h1 => ?_)
      refine R_seg (φ := []) (pc' := 101) (L' := [.ref 1, .int (0), .int a, .int i, .int (nI m), .int f, .int (nI j), w7]) (st' := [.int 0]) (σ' := (mj_KS N, I, mj_PP (2) d r)) 1 rfl trivial ?_
      exact R_ri rfl rfl (mj_leaf (by simp only [s_X5_tw, Bool.false_eq_true, ↓reduceIte, Nat.reduceAdd, Nat.reduceMul, mj_tn0, mj_tn1, mj_tn2, mj_tn3]) (by simp only [s_X5_tw, Bool.false_eq_true, ↓reduceIte, Nat.reduceAdd, Nat.reduceMul, mj_tn0, mj_tn1, mj_tn2, mj_tn3]))
    | succ k ih =>
      intro j w7 I hk hlo hj
      have hjm : j < m := by omega
      have hin : mj_in (nI j) 24 := mj_in_nI (by omega) (by omega)
      have hin2 : mj_in (i + nI j) 60 := mj_addin hi hjm (by omega)
      refine R_seg (φ := []) (pc' := 52) (L' := [.ref 1, .int (0), .int a, .int i, .int (nI m), .int f, .int (nI j), w7]) (st' := [.int (nI m), .int (nI j)]) (σ' := (mj_KS N, I, mj_PP (2) d r)) 2 rfl trivial ?_
      refine R_br (q := (nI j : Int32) < nI m) (t := 55) (f := 100) (rest := []) rfl (fun h1 => ?_) (fun h1 => absurd (by exact nI_lt hjm (by omega)) h1)
      refine R_seg (φ := [mj_in (0) 4, mj_in (i + (nI j)) 60]) (pc' := 77) (L' := [.ref 1, .int (0), .int a, .int i, .int (nI m), .int f, .int (nI j), .int (I 35 (i + (nI j)))]) (st' := [.int (I 35 (i + (nI j))), .ref 2]) (σ' := (mj_KS N, I, mj_PP (2) d r)) 13 rfl ⟨mj_in_d (by decide), hin2, trivial⟩ ?_
      refine R_ce (idx := 110) (mid := 7) (kind := 3) (N := N) (M' := mj_m_X1_hasStreet) (As := [.ref 2, .int (I 35 (i + (nI j)))]) (rest := []) (I := I) (P := mj_PP (2) d r) (I' := I) (P' := mj_PP (2) d r) (v := some (.int (bI (sp_has (I 2 0) (I 35 (i + (nI j))))))) rfl rfl rfl mj_mc7 mj_dc7 rfl rfl rfl rfl rfl rfl (x_hasStreet l b base D z N 2 (by decide) (I 35 (i + (nI j))) I (2) d r) ?_
      refine R_seg (φ := []) (pc' := 80) (L' := [.ref 1, .int (0), .int a, .int i, .int (nI m), .int f, .int (nI j), .int (I 35 (i + (nI j)))]) (st' := [.int (bI (sp_has (I 2 0) (I 35 (i + (nI j)))))]) (σ' := (mj_KS N, I, mj_PP (2) d r)) 0 rfl trivial ?_
      refine R_br (q := (bI (sp_has (I 2 0) (I 35 (i + (nI j)))) : Int32) = 0) (t := 83) (f := 85) (rest := []) rfl (fun h2 => ?_) (fun h2 => ?_)
      · skip
        replace h2 := bI_0.mp h2
        refine R_seg (φ := []) (pc' := 84) (L' := [.ref 1, .int (0), .int a, .int i, .int (nI m), .int f, .int (nI j), .int (I 35 (i + (nI j)))]) (st' := [.int (-1)]) (σ' := (mj_KS N, I, mj_PP (2) d r)) 1 rfl trivial ?_
        exact R_ri rfl rfl (mj_leaf (by simp only [s_X5_tw, h2, Bool.false_eq_true, ↓reduceIte, Nat.reduceAdd, Nat.reduceMul, mj_tn0, mj_tn1, mj_tn2, mj_tn3]) (by simp only [s_X5_tw, h2, Bool.false_eq_true, ↓reduceIte, Nat.reduceAdd, Nat.reduceMul, mj_tn0, mj_tn1, mj_tn2, mj_tn3]))
      · skip
        replace h2 := bI_1 h2
        refine R_seg (φ := [mj_in (nI j) 24]) (pc' := 48) (L' := [.ref 1, .int (0), .int a, .int i, .int (nI m), .int f, .int ((nI j) + 1), .int (I 35 (i + (nI j)))]) (st' := []) (σ' := (mj_KS N, (mj_upI I 29 (nI j) (I 35 (i + (nI j)))), mj_PP (2) d r)) 7 rfl ⟨hin, trivial⟩ ?_
        rw [nI_1 j]
        rw [show s_X5_tw 2 0 a i m f (k + 1) j  I = s_X5_tw 2 0 a i m f k (j + 1)  (mj_upI I 29 (nI j) (I 35 (i + (nI j)))) from by simp only [s_X5_tw, h2, Bool.false_eq_true, ↓reduceIte, Nat.reduceAdd, Nat.reduceMul, mj_tn0, mj_tn1, mj_tn2, mj_tn3]]
        exact ih (j + 1)  (.int (I 35 (i + (nI j)))) (mj_upI I 29 (nI j) (I 35 (i + (nI j)))) (by omega) (by omega) (by omega)
  · skip
    intro k
    induction k with
    | zero =>
      intro j w7 I hk hlo hj
      refine R_seg (φ := []) (pc' := 52) (L' := [.ref 1, .int (1), .int a, .int i, .int (nI m), .int f, .int (nI j), w7]) (st' := [.int (nI m), .int (nI j)]) (σ' := (mj_KS N, I, mj_PP (2) d r)) 2 rfl trivial ?_
      refine R_br (q := (nI j : Int32) < nI m) (t := 55) (f := 100) (rest := []) rfl (fun h1 => absurd h1 (by exact nI_nlt (by omega) (by omega))) (fun h1 => ?_)
      refine R_seg (φ := []) (pc' := 101) (L' := [.ref 1, .int (1), .int a, .int i, .int (nI m), .int f, .int (nI j), w7]) (st' := [.int 0]) (σ' := (mj_KS N, I, mj_PP (2) d r)) 1 rfl trivial ?_
      exact R_ri rfl rfl (mj_leaf (by simp only [s_X5_tw, Bool.false_eq_true, ↓reduceIte, Nat.reduceAdd, Nat.reduceMul, mj_tn0, mj_tn1, mj_tn2, mj_tn3]) (by simp only [s_X5_tw, Bool.false_eq_true, ↓reduceIte, Nat.reduceAdd, Nat.reduceMul, mj_tn0, mj_tn1, mj_tn2, mj_tn3]))
    | succ k ih =>
      intro j w7 I hk hlo hj
      have hjm : j < m := by omega
      have hin : mj_in (nI j) 24 := mj_in_nI (by omega) (by omega)
      have hin2 : mj_in (i + nI j) 60 := mj_addin hi hjm (by omega)
      refine R_seg (φ := []) (pc' := 52) (L' := [.ref 1, .int (1), .int a, .int i, .int (nI m), .int f, .int (nI j), w7]) (st' := [.int (nI m), .int (nI j)]) (σ' := (mj_KS N, I, mj_PP (2) d r)) 2 rfl trivial ?_
      refine R_br (q := (nI j : Int32) < nI m) (t := 55) (f := 100) (rest := []) rfl (fun h1 => ?_) (fun h1 => absurd (by exact nI_lt hjm (by omega)) h1)
      refine R_seg (φ := [mj_in (1) 4, mj_in (i + (nI j)) 60]) (pc' := 77) (L' := [.ref 1, .int (1), .int a, .int i, .int (nI m), .int f, .int (nI j), .int (I 37 (i + (nI j)))]) (st' := [.int (I 37 (i + (nI j))), .ref 2]) (σ' := (mj_KS N, I, mj_PP (2) d r)) 13 rfl ⟨mj_in_d (by decide), hin2, trivial⟩ ?_
      refine R_ce (idx := 110) (mid := 7) (kind := 3) (N := N) (M' := mj_m_X1_hasStreet) (As := [.ref 2, .int (I 37 (i + (nI j)))]) (rest := []) (I := I) (P := mj_PP (2) d r) (I' := I) (P' := mj_PP (2) d r) (v := some (.int (bI (sp_has (I 2 0) (I 37 (i + (nI j))))))) rfl rfl rfl mj_mc7 mj_dc7 rfl rfl rfl rfl rfl rfl (x_hasStreet l b base D z N 2 (by decide) (I 37 (i + (nI j))) I (2) d r) ?_
      refine R_seg (φ := []) (pc' := 80) (L' := [.ref 1, .int (1), .int a, .int i, .int (nI m), .int f, .int (nI j), .int (I 37 (i + (nI j)))]) (st' := [.int (bI (sp_has (I 2 0) (I 37 (i + (nI j)))))]) (σ' := (mj_KS N, I, mj_PP (2) d r)) 0 rfl trivial ?_
      refine R_br (q := (bI (sp_has (I 2 0) (I 37 (i + (nI j)))) : Int32) = 0) (t := 83) (f := 85) (rest := []) rfl (fun h2 => ?_) (fun h2 => ?_)
      · skip
        replace h2 := bI_0.mp h2
        refine R_seg (φ := []) (pc' := 84) (L' := [.ref 1, .int (1), .int a, .int i, .int (nI m), .int f, .int (nI j), .int (I 37 (i + (nI j)))]) (st' := [.int (-1)]) (σ' := (mj_KS N, I, mj_PP (2) d r)) 1 rfl trivial ?_
        exact R_ri rfl rfl (mj_leaf (by simp only [s_X5_tw, h2, Bool.false_eq_true, ↓reduceIte, Nat.reduceAdd, Nat.reduceMul, mj_tn0, mj_tn1, mj_tn2, mj_tn3]) (by simp only [s_X5_tw, h2, Bool.false_eq_true, ↓reduceIte, Nat.reduceAdd, Nat.reduceMul, mj_tn0, mj_tn1, mj_tn2, mj_tn3]))
      · skip
        replace h2 := bI_1 h2
        refine R_seg (φ := [mj_in (nI j) 24]) (pc' := 48) (L' := [.ref 1, .int (1), .int a, .int i, .int (nI m), .int f, .int ((nI j) + 1), .int (I 37 (i + (nI j)))]) (st' := []) (σ' := (mj_KS N, (mj_upI I 29 (nI j) (I 37 (i + (nI j)))), mj_PP (2) d r)) 7 rfl ⟨hin, trivial⟩ ?_
        rw [nI_1 j]
        rw [show s_X5_tw 2 1 a i m f (k + 1) j  I = s_X5_tw 2 1 a i m f k (j + 1)  (mj_upI I 29 (nI j) (I 37 (i + (nI j)))) from by simp only [s_X5_tw, h2, Bool.false_eq_true, ↓reduceIte, Nat.reduceAdd, Nat.reduceMul, mj_tn0, mj_tn1, mj_tn2, mj_tn3]]
        exact ih (j + 1)  (.int (I 37 (i + (nI j)))) (mj_upI I 29 (nI j) (I 37 (i + (nI j)))) (by omega) (by omega) (by omega)
  · skip
    intro k
    induction k with
    | zero =>
      intro j w7 I hk hlo hj
      refine R_seg (φ := []) (pc' := 52) (L' := [.ref 1, .int (2), .int a, .int i, .int (nI m), .int f, .int (nI j), w7]) (st' := [.int (nI m), .int (nI j)]) (σ' := (mj_KS N, I, mj_PP (2) d r)) 2 rfl trivial ?_
      refine R_br (q := (nI j : Int32) < nI m) (t := 55) (f := 100) (rest := []) rfl (fun h1 => absurd h1 (by exact nI_nlt (by omega) (by omega))) (fun h1 => ?_)
      refine R_seg (φ := []) (pc' := 101) (L' := [.ref 1, .int (2), .int a, .int i, .int (nI m), .int f, .int (nI j), w7]) (st' := [.int 0]) (σ' := (mj_KS N, I, mj_PP (2) d r)) 1 rfl trivial ?_
      exact R_ri rfl rfl (mj_leaf (by simp only [s_X5_tw, Bool.false_eq_true, ↓reduceIte, Nat.reduceAdd, Nat.reduceMul, mj_tn0, mj_tn1, mj_tn2, mj_tn3]) (by simp only [s_X5_tw, Bool.false_eq_true, ↓reduceIte, Nat.reduceAdd, Nat.reduceMul, mj_tn0, mj_tn1, mj_tn2, mj_tn3]))
    | succ k ih =>
      intro j w7 I hk hlo hj
      have hjm : j < m := by omega
      have hin : mj_in (nI j) 24 := mj_in_nI (by omega) (by omega)
      have hin2 : mj_in (i + nI j) 60 := mj_addin hi hjm (by omega)
      refine R_seg (φ := []) (pc' := 52) (L' := [.ref 1, .int (2), .int a, .int i, .int (nI m), .int f, .int (nI j), w7]) (st' := [.int (nI m), .int (nI j)]) (σ' := (mj_KS N, I, mj_PP (2) d r)) 2 rfl trivial ?_
      refine R_br (q := (nI j : Int32) < nI m) (t := 55) (f := 100) (rest := []) rfl (fun h1 => ?_) (fun h1 => absurd (by exact nI_lt hjm (by omega)) h1)
      refine R_seg (φ := [mj_in (2) 4, mj_in (i + (nI j)) 60]) (pc' := 77) (L' := [.ref 1, .int (2), .int a, .int i, .int (nI m), .int f, .int (nI j), .int (I 39 (i + (nI j)))]) (st' := [.int (I 39 (i + (nI j))), .ref 2]) (σ' := (mj_KS N, I, mj_PP (2) d r)) 13 rfl ⟨mj_in_d (by decide), hin2, trivial⟩ ?_
      refine R_ce (idx := 110) (mid := 7) (kind := 3) (N := N) (M' := mj_m_X1_hasStreet) (As := [.ref 2, .int (I 39 (i + (nI j)))]) (rest := []) (I := I) (P := mj_PP (2) d r) (I' := I) (P' := mj_PP (2) d r) (v := some (.int (bI (sp_has (I 2 0) (I 39 (i + (nI j))))))) rfl rfl rfl mj_mc7 mj_dc7 rfl rfl rfl rfl rfl rfl (x_hasStreet l b base D z N 2 (by decide) (I 39 (i + (nI j))) I (2) d r) ?_
      refine R_seg (φ := []) (pc' := 80) (L' := [.ref 1, .int (2), .int a, .int i, .int (nI m), .int f, .int (nI j), .int (I 39 (i + (nI j)))]) (st' := [.int (bI (sp_has (I 2 0) (I 39 (i + (nI j)))))]) (σ' := (mj_KS N, I, mj_PP (2) d r)) 0 rfl trivial ?_
      refine R_br (q := (bI (sp_has (I 2 0) (I 39 (i + (nI j)))) : Int32) = 0) (t := 83) (f := 85) (rest := []) rfl (fun h2 => ?_) (fun h2 => ?_)
      · skip
        replace h2 := bI_0.mp h2
        refine R_seg (φ := []) (pc' := 84) (L' := [.ref 1, .int (2), .int a, .int i, .int (nI m), .int f, .int (nI j), .int (I 39 (i + (nI j)))]) (st' := [.int (-1)]) (σ' := (mj_KS N, I, mj_PP (2) d r)) 1 rfl trivial ?_
        exact R_ri rfl rfl (mj_leaf (by simp only [s_X5_tw, h2, Bool.false_eq_true, ↓reduceIte, Nat.reduceAdd, Nat.reduceMul, mj_tn0, mj_tn1, mj_tn2, mj_tn3]) (by simp only [s_X5_tw, h2, Bool.false_eq_true, ↓reduceIte, Nat.reduceAdd, Nat.reduceMul, mj_tn0, mj_tn1, mj_tn2, mj_tn3]))
      · skip
        replace h2 := bI_1 h2
        refine R_seg (φ := [mj_in (nI j) 24]) (pc' := 48) (L' := [.ref 1, .int (2), .int a, .int i, .int (nI m), .int f, .int ((nI j) + 1), .int (I 39 (i + (nI j)))]) (st' := []) (σ' := (mj_KS N, (mj_upI I 29 (nI j) (I 39 (i + (nI j)))), mj_PP (2) d r)) 7 rfl ⟨hin, trivial⟩ ?_
        rw [nI_1 j]
        rw [show s_X5_tw 2 2 a i m f (k + 1) j  I = s_X5_tw 2 2 a i m f k (j + 1)  (mj_upI I 29 (nI j) (I 39 (i + (nI j)))) from by simp only [s_X5_tw, h2, Bool.false_eq_true, ↓reduceIte, Nat.reduceAdd, Nat.reduceMul, mj_tn0, mj_tn1, mj_tn2, mj_tn3]]
        exact ih (j + 1)  (.int (I 39 (i + (nI j)))) (mj_upI I 29 (nI j) (I 39 (i + (nI j)))) (by omega) (by omega) (by omega)
  · skip
    intro k
    induction k with
    | zero =>
      intro j w7 I hk hlo hj
      refine R_seg (φ := []) (pc' := 52) (L' := [.ref 1, .int (3), .int a, .int i, .int (nI m), .int f, .int (nI j), w7]) (st' := [.int (nI m), .int (nI j)]) (σ' := (mj_KS N, I, mj_PP (2) d r)) 2 rfl trivial ?_
      refine R_br (q := (nI j : Int32) < nI m) (t := 55) (f := 100) (rest := []) rfl (fun h1 => absurd h1 (by exact nI_nlt (by omega) (by omega))) (fun h1 => ?_)
      refine R_seg (φ := []) (pc' := 101) (L' := [.ref 1, .int (3), .int a, .int i, .int (nI m), .int f, .int (nI j), w7]) (st' := [.int 0]) (σ' := (mj_KS N, I, mj_PP (2) d r)) 1 rfl trivial ?_
      exact R_ri rfl rfl (mj_leaf (by simp only [s_X5_tw, Bool.false_eq_true, ↓reduceIte, Nat.reduceAdd, Nat.reduceMul, mj_tn0, mj_tn1, mj_tn2, mj_tn3]) (by simp only [s_X5_tw, Bool.false_eq_true, ↓reduceIte, Nat.reduceAdd, Nat.reduceMul, mj_tn0, mj_tn1, mj_tn2, mj_tn3]))
    | succ k ih =>
      intro j w7 I hk hlo hj
      have hjm : j < m := by omega
      have hin : mj_in (nI j) 24 := mj_in_nI (by omega) (by omega)
      have hin2 : mj_in (i + nI j) 60 := mj_addin hi hjm (by omega)
      refine R_seg (φ := []) (pc' := 52) (L' := [.ref 1, .int (3), .int a, .int i, .int (nI m), .int f, .int (nI j), w7]) (st' := [.int (nI m), .int (nI j)]) (σ' := (mj_KS N, I, mj_PP (2) d r)) 2 rfl trivial ?_
      refine R_br (q := (nI j : Int32) < nI m) (t := 55) (f := 100) (rest := []) rfl (fun h1 => ?_) (fun h1 => absurd (by exact nI_lt hjm (by omega)) h1)
      refine R_seg (φ := [mj_in (3) 4, mj_in (i + (nI j)) 60]) (pc' := 77) (L' := [.ref 1, .int (3), .int a, .int i, .int (nI m), .int f, .int (nI j), .int (I 41 (i + (nI j)))]) (st' := [.int (I 41 (i + (nI j))), .ref 2]) (σ' := (mj_KS N, I, mj_PP (2) d r)) 13 rfl ⟨mj_in_d (by decide), hin2, trivial⟩ ?_
      refine R_ce (idx := 110) (mid := 7) (kind := 3) (N := N) (M' := mj_m_X1_hasStreet) (As := [.ref 2, .int (I 41 (i + (nI j)))]) (rest := []) (I := I) (P := mj_PP (2) d r) (I' := I) (P' := mj_PP (2) d r) (v := some (.int (bI (sp_has (I 2 0) (I 41 (i + (nI j))))))) rfl rfl rfl mj_mc7 mj_dc7 rfl rfl rfl rfl rfl rfl (x_hasStreet l b base D z N 2 (by decide) (I 41 (i + (nI j))) I (2) d r) ?_
      refine R_seg (φ := []) (pc' := 80) (L' := [.ref 1, .int (3), .int a, .int i, .int (nI m), .int f, .int (nI j), .int (I 41 (i + (nI j)))]) (st' := [.int (bI (sp_has (I 2 0) (I 41 (i + (nI j)))))]) (σ' := (mj_KS N, I, mj_PP (2) d r)) 0 rfl trivial ?_
      refine R_br (q := (bI (sp_has (I 2 0) (I 41 (i + (nI j)))) : Int32) = 0) (t := 83) (f := 85) (rest := []) rfl (fun h2 => ?_) (fun h2 => ?_)
      · skip
        replace h2 := bI_0.mp h2
        refine R_seg (φ := []) (pc' := 84) (L' := [.ref 1, .int (3), .int a, .int i, .int (nI m), .int f, .int (nI j), .int (I 41 (i + (nI j)))]) (st' := [.int (-1)]) (σ' := (mj_KS N, I, mj_PP (2) d r)) 1 rfl trivial ?_
        exact R_ri rfl rfl (mj_leaf (by simp only [s_X5_tw, h2, Bool.false_eq_true, ↓reduceIte, Nat.reduceAdd, Nat.reduceMul, mj_tn0, mj_tn1, mj_tn2, mj_tn3]) (by simp only [s_X5_tw, h2, Bool.false_eq_true, ↓reduceIte, Nat.reduceAdd, Nat.reduceMul, mj_tn0, mj_tn1, mj_tn2, mj_tn3]))
      · skip
        replace h2 := bI_1 h2
        refine R_seg (φ := [mj_in (nI j) 24]) (pc' := 48) (L' := [.ref 1, .int (3), .int a, .int i, .int (nI m), .int f, .int ((nI j) + 1), .int (I 41 (i + (nI j)))]) (st' := []) (σ' := (mj_KS N, (mj_upI I 29 (nI j) (I 41 (i + (nI j)))), mj_PP (2) d r)) 7 rfl ⟨hin, trivial⟩ ?_
        rw [nI_1 j]
        rw [show s_X5_tw 2 3 a i m f (k + 1) j  I = s_X5_tw 2 3 a i m f k (j + 1)  (mj_upI I 29 (nI j) (I 41 (i + (nI j)))) from by simp only [s_X5_tw, h2, Bool.false_eq_true, ↓reduceIte, Nat.reduceAdd, Nat.reduceMul, mj_tn0, mj_tn1, mj_tn2, mj_tn3]]
        exact ih (j + 1)  (.int (I 41 (i + (nI j)))) (mj_upI I 29 (nI j) (I 41 (i + (nI j)))) (by omega) (by omega) (by omega)
  · skip
    intro k
    induction k with
    | zero =>
      intro j w7 I hk hlo hj
      refine R_seg (φ := []) (pc' := 52) (L' := [.ref 1, .int (0), .int a, .int i, .int (nI m), .int f, .int (nI j), w7]) (st' := [.int (nI m), .int (nI j)]) (σ' := (mj_KS N, I, mj_PP (10) d r)) 2 rfl trivial ?_
      refine R_br (q := (nI j : Int32) < nI m) (t := 55) (f := 100) (rest := []) rfl (fun h1 => absurd h1 (by exact nI_nlt (by omega) (by omega))) (fun h1 => ?_)
      refine R_seg (φ := []) (pc' := 101) (L' := [.ref 1, .int (0), .int a, .int i, .int (nI m), .int f, .int (nI j), w7]) (st' := [.int 0]) (σ' := (mj_KS N, I, mj_PP (10) d r)) 1 rfl trivial ?_
      exact R_ri rfl rfl (mj_leaf (by simp only [s_X5_tw, Bool.false_eq_true, ↓reduceIte, Nat.reduceAdd, Nat.reduceMul, mj_tn0, mj_tn1, mj_tn2, mj_tn3]) (by simp only [s_X5_tw, Bool.false_eq_true, ↓reduceIte, Nat.reduceAdd, Nat.reduceMul, mj_tn0, mj_tn1, mj_tn2, mj_tn3]))
    | succ k ih =>
      intro j w7 I hk hlo hj
      have hjm : j < m := by omega
      have hin : mj_in (nI j) 24 := mj_in_nI (by omega) (by omega)
      have hin2 : mj_in (i + nI j) 60 := mj_addin hi hjm (by omega)
      refine R_seg (φ := []) (pc' := 52) (L' := [.ref 1, .int (0), .int a, .int i, .int (nI m), .int f, .int (nI j), w7]) (st' := [.int (nI m), .int (nI j)]) (σ' := (mj_KS N, I, mj_PP (10) d r)) 2 rfl trivial ?_
      refine R_br (q := (nI j : Int32) < nI m) (t := 55) (f := 100) (rest := []) rfl (fun h1 => ?_) (fun h1 => absurd (by exact nI_lt hjm (by omega)) h1)
      refine R_seg (φ := [mj_in (0) 4, mj_in (i + (nI j)) 60]) (pc' := 77) (L' := [.ref 1, .int (0), .int a, .int i, .int (nI m), .int f, .int (nI j), .int (I 35 (i + (nI j)))]) (st' := [.int (I 35 (i + (nI j))), .ref 10]) (σ' := (mj_KS N, I, mj_PP (10) d r)) 13 rfl ⟨mj_in_d (by decide), hin2, trivial⟩ ?_
      refine R_ce (idx := 110) (mid := 7) (kind := 3) (N := N) (M' := mj_m_X1_hasStreet) (As := [.ref 10, .int (I 35 (i + (nI j)))]) (rest := []) (I := I) (P := mj_PP (10) d r) (I' := I) (P' := mj_PP (10) d r) (v := some (.int (bI (sp_has (I 10 0) (I 35 (i + (nI j))))))) rfl rfl rfl mj_mc7 mj_dc7 rfl rfl rfl rfl rfl rfl (x_hasStreet l b base D z N 10 (by decide) (I 35 (i + (nI j))) I (10) d r) ?_
      refine R_seg (φ := []) (pc' := 80) (L' := [.ref 1, .int (0), .int a, .int i, .int (nI m), .int f, .int (nI j), .int (I 35 (i + (nI j)))]) (st' := [.int (bI (sp_has (I 10 0) (I 35 (i + (nI j)))))]) (σ' := (mj_KS N, I, mj_PP (10) d r)) 0 rfl trivial ?_
      refine R_br (q := (bI (sp_has (I 10 0) (I 35 (i + (nI j)))) : Int32) = 0) (t := 83) (f := 85) (rest := []) rfl (fun h2 => ?_) (fun h2 => ?_)
      · skip
        replace h2 := bI_0.mp h2
        refine R_seg (φ := []) (pc' := 84) (L' := [.ref 1, .int (0), .int a, .int i, .int (nI m), .int f, .int (nI j), .int (I 35 (i + (nI j)))]) (st' := [.int (-1)]) (σ' := (mj_KS N, I, mj_PP (10) d r)) 1 rfl trivial ?_
        exact R_ri rfl rfl (mj_leaf (by simp only [s_X5_tw, h2, Bool.false_eq_true, ↓reduceIte, Nat.reduceAdd, Nat.reduceMul, mj_tn0, mj_tn1, mj_tn2, mj_tn3]) (by simp only [s_X5_tw, h2, Bool.false_eq_true, ↓reduceIte, Nat.reduceAdd, Nat.reduceMul, mj_tn0, mj_tn1, mj_tn2, mj_tn3]))
      · skip
        replace h2 := bI_1 h2
        refine R_seg (φ := [mj_in (nI j) 24]) (pc' := 48) (L' := [.ref 1, .int (0), .int a, .int i, .int (nI m), .int f, .int ((nI j) + 1), .int (I 35 (i + (nI j)))]) (st' := []) (σ' := (mj_KS N, (mj_upI I 29 (nI j) (I 35 (i + (nI j)))), mj_PP (10) d r)) 7 rfl ⟨hin, trivial⟩ ?_
        rw [nI_1 j]
        rw [show s_X5_tw 10 0 a i m f (k + 1) j  I = s_X5_tw 10 0 a i m f k (j + 1)  (mj_upI I 29 (nI j) (I 35 (i + (nI j)))) from by simp only [s_X5_tw, h2, Bool.false_eq_true, ↓reduceIte, Nat.reduceAdd, Nat.reduceMul, mj_tn0, mj_tn1, mj_tn2, mj_tn3]]
        exact ih (j + 1)  (.int (I 35 (i + (nI j)))) (mj_upI I 29 (nI j) (I 35 (i + (nI j)))) (by omega) (by omega) (by omega)
  · skip
    intro k
    induction k with
    | zero =>
      intro j w7 I hk hlo hj
      refine R_seg (φ := []) (pc' := 52) (L' := [.ref 1, .int (1), .int a, .int i, .int (nI m), .int f, .int (nI j), w7]) (st' := [.int (nI m), .int (nI j)]) (σ' := (mj_KS N, I, mj_PP (10) d r)) 2 rfl trivial ?_
      refine R_br (q := (nI j : Int32) < nI m) (t := 55) (f := 100) (rest := []) rfl (fun h1 => absurd h1 (by exact nI_nlt (by omega) (by omega))) (fun h1 => ?_)
      refine R_seg (φ := []) (pc' := 101) (L' := [.ref 1, .int (1), .int a, .int i, .int (nI m), .int f, .int (nI j), w7]) (st' := [.int 0]) (σ' := (mj_KS N, I, mj_PP (10) d r)) 1 rfl trivial ?_
      exact R_ri rfl rfl (mj_leaf (by simp only [s_X5_tw, Bool.false_eq_true, ↓reduceIte, Nat.reduceAdd, Nat.reduceMul, mj_tn0, mj_tn1, mj_tn2, mj_tn3]) (by simp only [s_X5_tw, Bool.false_eq_true, ↓reduceIte, Nat.reduceAdd, Nat.reduceMul, mj_tn0, mj_tn1, mj_tn2, mj_tn3]))
    | succ k ih =>
      intro j w7 I hk hlo hj
      have hjm : j < m := by omega
      have hin : mj_in (nI j) 24 := mj_in_nI (by omega) (by omega)
      have hin2 : mj_in (i + nI j) 60 := mj_addin hi hjm (by omega)
      refine R_seg (φ := []) (pc' := 52) (L' := [.ref 1, .int (1), .int a, .int i, .int (nI m), .int f, .int (nI j), w7]) (st' := [.int (nI m), .int (nI j)]) (σ' := (mj_KS N, I, mj_PP (10) d r)) 2 rfl trivial ?_
      refine R_br (q := (nI j : Int32) < nI m) (t := 55) (f := 100) (rest := []) rfl (fun h1 => ?_) (fun h1 => absurd (by exact nI_lt hjm (by omega)) h1)
      refine R_seg (φ := [mj_in (1) 4, mj_in (i + (nI j)) 60]) (pc' := 77) (L' := [.ref 1, .int (1), .int a, .int i, .int (nI m), .int f, .int (nI j), .int (I 37 (i + (nI j)))]) (st' := [.int (I 37 (i + (nI j))), .ref 10]) (σ' := (mj_KS N, I, mj_PP (10) d r)) 13 rfl ⟨mj_in_d (by decide), hin2, trivial⟩ ?_
      refine R_ce (idx := 110) (mid := 7) (kind := 3) (N := N) (M' := mj_m_X1_hasStreet) (As := [.ref 10, .int (I 37 (i + (nI j)))]) (rest := []) (I := I) (P := mj_PP (10) d r) (I' := I) (P' := mj_PP (10) d r) (v := some (.int (bI (sp_has (I 10 0) (I 37 (i + (nI j))))))) rfl rfl rfl mj_mc7 mj_dc7 rfl rfl rfl rfl rfl rfl (x_hasStreet l b base D z N 10 (by decide) (I 37 (i + (nI j))) I (10) d r) ?_
      refine R_seg (φ := []) (pc' := 80) (L' := [.ref 1, .int (1), .int a, .int i, .int (nI m), .int f, .int (nI j), .int (I 37 (i + (nI j)))]) (st' := [.int (bI (sp_has (I 10 0) (I 37 (i + (nI j)))))]) (σ' := (mj_KS N, I, mj_PP (10) d r)) 0 rfl trivial ?_
      refine R_br (q := (bI (sp_has (I 10 0) (I 37 (i + (nI j)))) : Int32) = 0) (t := 83) (f := 85) (rest := []) rfl (fun h2 => ?_) (fun h2 => ?_)
      · skip
        replace h2 := bI_0.mp h2
        refine R_seg (φ := []) (pc' := 84) (L' := [.ref 1, .int (1), .int a, .int i, .int (nI m), .int f, .int (nI j), .int (I 37 (i + (nI j)))]) (st' := [.int (-1)]) (σ' := (mj_KS N, I, mj_PP (10) d r)) 1 rfl trivial ?_
        exact R_ri rfl rfl (mj_leaf (by simp only [s_X5_tw, h2, Bool.false_eq_true, ↓reduceIte, Nat.reduceAdd, Nat.reduceMul, mj_tn0, mj_tn1, mj_tn2, mj_tn3]) (by simp only [s_X5_tw, h2, Bool.false_eq_true, ↓reduceIte, Nat.reduceAdd, Nat.reduceMul, mj_tn0, mj_tn1, mj_tn2, mj_tn3]))
      · skip
        replace h2 := bI_1 h2
        refine R_seg (φ := [mj_in (nI j) 24]) (pc' := 48) (L' := [.ref 1, .int (1), .int a, .int i, .int (nI m), .int f, .int ((nI j) + 1), .int (I 37 (i + (nI j)))]) (st' := []) (σ' := (mj_KS N, (mj_upI I 29 (nI j) (I 37 (i + (nI j)))), mj_PP (10) d r)) 7 rfl ⟨hin, trivial⟩ ?_
        rw [nI_1 j]
        rw [show s_X5_tw 10 1 a i m f (k + 1) j  I = s_X5_tw 10 1 a i m f k (j + 1)  (mj_upI I 29 (nI j) (I 37 (i + (nI j)))) from by simp only [s_X5_tw, h2, Bool.false_eq_true, ↓reduceIte, Nat.reduceAdd, Nat.reduceMul, mj_tn0, mj_tn1, mj_tn2, mj_tn3]]
        exact ih (j + 1)  (.int (I 37 (i + (nI j)))) (mj_upI I 29 (nI j) (I 37 (i + (nI j)))) (by omega) (by omega) (by omega)
  · skip
    intro k
    induction k with
    | zero =>
      intro j w7 I hk hlo hj
      refine R_seg (φ := []) (pc' := 52) (L' := [.ref 1, .int (2), .int a, .int i, .int (nI m), .int f, .int (nI j), w7]) (st' := [.int (nI m), .int (nI j)]) (σ' := (mj_KS N, I, mj_PP (10) d r)) 2 rfl trivial ?_
      refine R_br (q := (nI j : Int32) < nI m) (t := 55) (f := 100) (rest := []) rfl (fun h1 => absurd h1 (by exact nI_nlt (by omega) (by omega))) (fun h1 => ?_)
      refine R_seg (φ := []) (pc' := 101) (L' := [.ref 1, .int (2), .int a, .int i, .int (nI m), .int f, .int (nI j), w7]) (st' := [.int 0]) (σ' := (mj_KS N, I, mj_PP (10) d r)) 1 rfl trivial ?_
      exact R_ri rfl rfl (mj_leaf (by simp only [s_X5_tw, Bool.false_eq_true, ↓reduceIte, Nat.reduceAdd, Nat.reduceMul, mj_tn0, mj_tn1, mj_tn2, mj_tn3]) (by simp only [s_X5_tw, Bool.false_eq_true, ↓reduceIte, Nat.reduceAdd, Nat.reduceMul, mj_tn0, mj_tn1, mj_tn2, mj_tn3]))
    | succ k ih =>
      intro j w7 I hk hlo hj
      have hjm : j < m := by omega
      have hin : mj_in (nI j) 24 := mj_in_nI (by omega) (by omega)
      have hin2 : mj_in (i + nI j) 60 := mj_addin hi hjm (by omega)
      refine R_seg (φ := []) (pc' := 52) (L' := [.ref 1, .int (2), .int a, .int i, .int (nI m), .int f, .int (nI j), w7]) (st' := [.int (nI m), .int (nI j)]) (σ' := (mj_KS N, I, mj_PP (10) d r)) 2 rfl trivial ?_
      refine R_br (q := (nI j : Int32) < nI m) (t := 55) (f := 100) (rest := []) rfl (fun h1 => ?_) (fun h1 => absurd (by exact nI_lt hjm (by omega)) h1)
      refine R_seg (φ := [mj_in (2) 4, mj_in (i + (nI j)) 60]) (pc' := 77) (L' := [.ref 1, .int (2), .int a, .int i, .int (nI m), .int f, .int (nI j), .int (I 39 (i + (nI j)))]) (st' := [.int (I 39 (i + (nI j))), .ref 10]) (σ' := (mj_KS N, I, mj_PP (10) d r)) 13 rfl ⟨mj_in_d (by decide), hin2, trivial⟩ ?_
      refine R_ce (idx := 110) (mid := 7) (kind := 3) (N := N) (M' := mj_m_X1_hasStreet) (As := [.ref 10, .int (I 39 (i + (nI j)))]) (rest := []) (I := I) (P := mj_PP (10) d r) (I' := I) (P' := mj_PP (10) d r) (v := some (.int (bI (sp_has (I 10 0) (I 39 (i + (nI j))))))) rfl rfl rfl mj_mc7 mj_dc7 rfl rfl rfl rfl rfl rfl (x_hasStreet l b base D z N 10 (by decide) (I 39 (i + (nI j))) I (10) d r) ?_
      refine R_seg (φ := []) (pc' := 80) (L' := [.ref 1, .int (2), .int a, .int i, .int (nI m), .int f, .int (nI j), .int (I 39 (i + (nI j)))]) (st' := [.int (bI (sp_has (I 10 0) (I 39 (i + (nI j)))))]) (σ' := (mj_KS N, I, mj_PP (10) d r)) 0 rfl trivial ?_
      refine R_br (q := (bI (sp_has (I 10 0) (I 39 (i + (nI j)))) : Int32) = 0) (t := 83) (f := 85) (rest := []) rfl (fun h2 => ?_) (fun h2 => ?_)
      · skip
        replace h2 := bI_0.mp h2
        refine R_seg (φ := []) (pc' := 84) (L' := [.ref 1, .int (2), .int a, .int i, .int (nI m), .int f, .int (nI j), .int (I 39 (i + (nI j)))]) (st' := [.int (-1)]) (σ' := (mj_KS N, I, mj_PP (10) d r)) 1 rfl trivial ?_
        exact R_ri rfl rfl (mj_leaf (by simp only [s_X5_tw, h2, Bool.false_eq_true, ↓reduceIte, Nat.reduceAdd, Nat.reduceMul, mj_tn0, mj_tn1, mj_tn2, mj_tn3]) (by simp only [s_X5_tw, h2, Bool.false_eq_true, ↓reduceIte, Nat.reduceAdd, Nat.reduceMul, mj_tn0, mj_tn1, mj_tn2, mj_tn3]))
      · skip
        replace h2 := bI_1 h2
        refine R_seg (φ := [mj_in (nI j) 24]) (pc' := 48) (L' := [.ref 1, .int (2), .int a, .int i, .int (nI m), .int f, .int ((nI j) + 1), .int (I 39 (i + (nI j)))]) (st' := []) (σ' := (mj_KS N, (mj_upI I 29 (nI j) (I 39 (i + (nI j)))), mj_PP (10) d r)) 7 rfl ⟨hin, trivial⟩ ?_
        rw [nI_1 j]
        rw [show s_X5_tw 10 2 a i m f (k + 1) j  I = s_X5_tw 10 2 a i m f k (j + 1)  (mj_upI I 29 (nI j) (I 39 (i + (nI j)))) from by simp only [s_X5_tw, h2, Bool.false_eq_true, ↓reduceIte, Nat.reduceAdd, Nat.reduceMul, mj_tn0, mj_tn1, mj_tn2, mj_tn3]]
        exact ih (j + 1)  (.int (I 39 (i + (nI j)))) (mj_upI I 29 (nI j) (I 39 (i + (nI j)))) (by omega) (by omega) (by omega)
  · skip
    intro k
    induction k with
    | zero =>
      intro j w7 I hk hlo hj
      refine R_seg (φ := []) (pc' := 52) (L' := [.ref 1, .int (3), .int a, .int i, .int (nI m), .int f, .int (nI j), w7]) (st' := [.int (nI m), .int (nI j)]) (σ' := (mj_KS N, I, mj_PP (10) d r)) 2 rfl trivial ?_
      refine R_br (q := (nI j : Int32) < nI m) (t := 55) (f := 100) (rest := []) rfl (fun h1 => absurd h1 (by exact nI_nlt (by omega) (by omega))) (fun h1 => ?_)
      refine R_seg (φ := []) (pc' := 101) (L' := [.ref 1, .int (3), .int a, .int i, .int (nI m), .int f, .int (nI j), w7]) (st' := [.int 0]) (σ' := (mj_KS N, I, mj_PP (10) d r)) 1 rfl trivial ?_
      exact R_ri rfl rfl (mj_leaf (by simp only [s_X5_tw, Bool.false_eq_true, ↓reduceIte, Nat.reduceAdd, Nat.reduceMul, mj_tn0, mj_tn1, mj_tn2, mj_tn3]) (by simp only [s_X5_tw, Bool.false_eq_true, ↓reduceIte, Nat.reduceAdd, Nat.reduceMul, mj_tn0, mj_tn1, mj_tn2, mj_tn3]))
    | succ k ih =>
      intro j w7 I hk hlo hj
      have hjm : j < m := by omega
      have hin : mj_in (nI j) 24 := mj_in_nI (by omega) (by omega)
      have hin2 : mj_in (i + nI j) 60 := mj_addin hi hjm (by omega)
      refine R_seg (φ := []) (pc' := 52) (L' := [.ref 1, .int (3), .int a, .int i, .int (nI m), .int f, .int (nI j), w7]) (st' := [.int (nI m), .int (nI j)]) (σ' := (mj_KS N, I, mj_PP (10) d r)) 2 rfl trivial ?_
      refine R_br (q := (nI j : Int32) < nI m) (t := 55) (f := 100) (rest := []) rfl (fun h1 => ?_) (fun h1 => absurd (by exact nI_lt hjm (by omega)) h1)
      refine R_seg (φ := [mj_in (3) 4, mj_in (i + (nI j)) 60]) (pc' := 77) (L' := [.ref 1, .int (3), .int a, .int i, .int (nI m), .int f, .int (nI j), .int (I 41 (i + (nI j)))]) (st' := [.int (I 41 (i + (nI j))), .ref 10]) (σ' := (mj_KS N, I, mj_PP (10) d r)) 13 rfl ⟨mj_in_d (by decide), hin2, trivial⟩ ?_
      refine R_ce (idx := 110) (mid := 7) (kind := 3) (N := N) (M' := mj_m_X1_hasStreet) (As := [.ref 10, .int (I 41 (i + (nI j)))]) (rest := []) (I := I) (P := mj_PP (10) d r) (I' := I) (P' := mj_PP (10) d r) (v := some (.int (bI (sp_has (I 10 0) (I 41 (i + (nI j))))))) rfl rfl rfl mj_mc7 mj_dc7 rfl rfl rfl rfl rfl rfl (x_hasStreet l b base D z N 10 (by decide) (I 41 (i + (nI j))) I (10) d r) ?_
      refine R_seg (φ := []) (pc' := 80) (L' := [.ref 1, .int (3), .int a, .int i, .int (nI m), .int f, .int (nI j), .int (I 41 (i + (nI j)))]) (st' := [.int (bI (sp_has (I 10 0) (I 41 (i + (nI j)))))]) (σ' := (mj_KS N, I, mj_PP (10) d r)) 0 rfl trivial ?_
      refine R_br (q := (bI (sp_has (I 10 0) (I 41 (i + (nI j)))) : Int32) = 0) (t := 83) (f := 85) (rest := []) rfl (fun h2 => ?_) (fun h2 => ?_)
      · skip
        replace h2 := bI_0.mp h2
        refine R_seg (φ := []) (pc' := 84) (L' := [.ref 1, .int (3), .int a, .int i, .int (nI m), .int f, .int (nI j), .int (I 41 (i + (nI j)))]) (st' := [.int (-1)]) (σ' := (mj_KS N, I, mj_PP (10) d r)) 1 rfl trivial ?_
        exact R_ri rfl rfl (mj_leaf (by simp only [s_X5_tw, h2, Bool.false_eq_true, ↓reduceIte, Nat.reduceAdd, Nat.reduceMul, mj_tn0, mj_tn1, mj_tn2, mj_tn3]) (by simp only [s_X5_tw, h2, Bool.false_eq_true, ↓reduceIte, Nat.reduceAdd, Nat.reduceMul, mj_tn0, mj_tn1, mj_tn2, mj_tn3]))
      · skip
        replace h2 := bI_1 h2
        refine R_seg (φ := [mj_in (nI j) 24]) (pc' := 48) (L' := [.ref 1, .int (3), .int a, .int i, .int (nI m), .int f, .int ((nI j) + 1), .int (I 41 (i + (nI j)))]) (st' := []) (σ' := (mj_KS N, (mj_upI I 29 (nI j) (I 41 (i + (nI j)))), mj_PP (10) d r)) 7 rfl ⟨hin, trivial⟩ ?_
        rw [nI_1 j]
        rw [show s_X5_tw 10 3 a i m f (k + 1) j  I = s_X5_tw 10 3 a i m f k (j + 1)  (mj_upI I 29 (nI j) (I 41 (i + (nI j)))) from by simp only [s_X5_tw, h2, Bool.false_eq_true, ↓reduceIte, Nat.reduceAdd, Nat.reduceMul, mj_tn0, mj_tn1, mj_tn2, mj_tn3]]
        exact ih (j + 1)  (.int (I 41 (i + (nI j)))) (mj_upI I 29 (nI j) (I 41 (i + (nI j)))) (by omega) (by omega) (by omega)
theorem mj_hi {has lane len a i : Int32} {m : Nat} (h : sp_fot has lane len a i (nI m) = 0) (hm : m ≤ 24) (hl : 0 ≤ len.toInt ∧ len.toInt ≤ 60) : 0 ≤ i.toInt ∧ i.toInt + (m : Int) ≤ ((60 : Nat) : Int) := by
  have e : (nI m).toInt = (m : Int) := nI_toInt (by omega)
  have := mj_hcS (mj_fot0 h).2.2.2 (by omega) hl
  omega
theorem mj_rl {n : Int32} {I : mj_I} (h : ¬ s_X5_isRouteLength n I = 0) : ∃ m : Nat, m ≤ 24 ∧ n = nI m := by
  unfold s_X5_isRouteLength at h
  by_cases h1 : n < 0
  · rw [if_pos h1] at h; exact absurd rfl h
  · rw [if_neg h1] at h
    by_cases h2 : (24 : Int32) < n
    · rw [if_pos h2] at h; exact absurd rfl h
    · have a1 := mj_i0 h1
      have a2 : n.toInt ≤ 24 := mj_iN h2
      refine ⟨n.toInt.toNat, by omega, ?_⟩
      exact mj_ofI (by rw [nI_toInt (by omega)]; omega)
theorem mj_tnm {m : Nat} (h : m < 2147483648) : (nI m).toNatClampNeg = m := by
  show (nI m).toInt.toNat = m
  rw [nI_toInt (by omega)]
  omega
theorem mj_ct {has lane len a i n : Int32} (h : ¬ sp_fot has lane len a i n = 0) : ¬ (-10) - sp_fot has lane len a i n = 0 := by
  have : sp_fot has lane len a i n = 0 ∨ sp_fot has lane len a i n = 1 ∨ sp_fot has lane len a i n = 2 ∨ sp_fot has lane len a i n = 3 ∨ sp_fot has lane len a i n = 4 := by
    unfold sp_fot
    repeat' split
    all_goals simp
  rcases this with e | e | e | e | e
  · exact absurd e h
  all_goals (rw [e]; decide)
def s_X5_takeWay (cc : Nat) (u : Int32) (a : Int32) (i : Int32) (m : Nat) (I : mj_I) : Int32 × mj_I := if (sp_fot (I (34 + 2 * u.toNatClampNeg) 0) (I (34 + 2 * u.toNatClampNeg) 1) (I (34 + 2 * u.toNatClampNeg) 2) a i (nI m) : Int32) = 0 then (if (I cc 0 : Int32) = 0 then ((-3), (mj_upI I 1 13 0)) else ((s_X5_tw (cc) (u) a i m (sp_fot (I (34 + 2 * u.toNatClampNeg) 0) (I (34 + 2 * u.toNatClampNeg) 1) (I (34 + 2 * u.toNatClampNeg) 2) a i (nI m)) m 0  (mj_upI I 1 13 0)).1, (s_X5_tw (cc) (u) a i m (sp_fot (I (34 + 2 * u.toNatClampNeg) 0) (I (34 + 2 * u.toNatClampNeg) 1) (I (34 + 2 * u.toNatClampNeg) 2) a i (nI m)) m 0  (mj_upI I 1 13 0)).2)) else ((s_X5_comeTo (sp_fot (I (34 + 2 * u.toNatClampNeg) 0) (I (34 + 2 * u.toNatClampNeg) 1) (I (34 + 2 * u.toNatClampNeg) 2) a i (nI m)) I).1, (s_X5_comeTo (sp_fot (I (34 + 2 * u.toNatClampNeg) 0) (I (34 + 2 * u.toNatClampNeg) 1) (I (34 + 2 * u.toNatClampNeg) 2) a i (nI m)) I).2)
set_option maxHeartbeats 8000000 in
theorem x_X5_takeWay (l : Launch) (b base : Nat) (D : va_G) (z : mj_K × (Int32 → Int32)) (N : Nat) (cc : Nat) (u : Int32) (a : Int32) (i : Int32) (m : Nat) (hcc : cc = 2 ∨ cc = 10) (hu : u = 0 ∨ u = 1 ∨ u = 2 ∨ u = 3) (I : mj_I) (d r : Nat) (hm : m ≤ 24) (hl : ∀ j : Nat, j < 4 → 0 ≤ (I (34 + 2 * j) 2).toInt ∧ (I (34 + 2 * j) 2).toInt ≤ 60) : mj_Rn l b base D z mj_m_X5_takeWay 0 [.ref 1, .int u, .int a, .int i, .int (nI m), mj_mk, mj_mk, mj_mk] [] (mj_KS N, I, mj_PP cc d r) (mj_E N (some (.int (s_X5_takeWay cc u a i m I).1)) (s_X5_takeWay cc u a i m I).2 (mj_PP cc d r)) := by
  rcases hcc with rfl | rfl <;> rcases hu with rfl | rfl | rfl | rfl
  · skip
    refine R_seg (φ := [mj_in (0) 4]) (pc' := 10) (L' := [.ref 1, .int (0), .int a, .int i, .int (nI m), mj_mk, mj_mk, mj_mk]) (st' := [.int (nI m), .int i, .int a, .ref 34]) (σ' := (mj_KS N, I, mj_PP (2) d r)) 7 rfl ⟨mj_in_d (by decide), trivial⟩ ?_
    refine R_ce (idx := 86) (mid := 37) (kind := 3) (N := N) (M' := mj_m_X4_faultOfTaking) (As := [.ref 34, .int a, .int i, .int (nI m)]) (rest := []) (I := I) (P := mj_PP (2) d r) (I' := I) (P' := mj_PP (2) d r) (v := some (.int (sp_fot (I 34 0) (I 34 1) (I 34 2) a i (nI m)))) rfl rfl rfl mj_mc37 mj_dc37 rfl rfl rfl rfl rfl rfl (x_fot l b base D z N 34 (by decide) a i (nI m) I (2) d r) ?_
    refine R_seg (φ := []) (pc' := 17) (L' := [.ref 1, .int (0), .int a, .int i, .int (nI m), .int (sp_fot (I 34 0) (I 34 1) (I 34 2) a i (nI m)), mj_mk, mj_mk]) (st' := [.int (sp_fot (I 34 0) (I 34 1) (I 34 2) a i (nI m))]) (σ' := (mj_KS N, I, mj_PP (2) d r)) 2 rfl trivial ?_
    refine R_br (q := (sp_fot (I 34 0) (I 34 1) (I 34 2) a i (nI m) : Int32) = 0) (t := 27) (f := 20) (rest := []) rfl (fun h1 => ?_) (fun h1 => ?_)
    · skip
      refine R_seg (φ := []) (pc' := 39) (L' := [.ref 1, .int (0), .int a, .int i, .int (nI m), .int (sp_fot (I 34 0) (I 34 1) (I 34 2) a i (nI m)), mj_mk, mj_mk]) (st' := [.int (I 2 0)]) (σ' := (mj_KS N, (mj_upI I 1 13 0), mj_PP (2) d r)) 6 rfl trivial ?_
      refine R_br (q := (I 2 0 : Int32) = 0) (t := 42) (f := 45) (rest := []) rfl (fun h2 => ?_) (fun h2 => ?_)
      · skip
        refine R_seg (φ := []) (pc' := 44) (L' := [.ref 1, .int (0), .int a, .int i, .int (nI m), .int (sp_fot (I 34 0) (I 34 1) (I 34 2) a i (nI m)), mj_mk, mj_mk]) (st' := [.int (-3)]) (σ' := (mj_KS N, (mj_upI I 1 13 0), mj_PP (2) d r)) 1 rfl trivial ?_
        exact R_ri rfl rfl (mj_leaf (by simp only [s_X5_takeWay, if_pos h1, if_pos h2, Bool.false_eq_true, ↓reduceIte, Nat.reduceAdd, Nat.reduceMul, mj_tn0, mj_tn1, mj_tn2, mj_tn3]) (by simp only [s_X5_takeWay, if_pos h1, if_pos h2, Bool.false_eq_true, ↓reduceIte, Nat.reduceAdd, Nat.reduceMul, mj_tn0, mj_tn1, mj_tn2, mj_tn3]))
      · skip
        refine R_seg (φ := []) (pc' := 48) (L' := [.ref 1, .int (0), .int a, .int i, .int (nI m), .int (sp_fot (I 34 0) (I 34 1) (I 34 2) a i (nI m)), .int 0, mj_mk]) (st' := []) (σ' := (mj_KS N, (mj_upI I 1 13 0), mj_PP (2) d r)) 2 rfl trivial ?_
        simp only [s_X5_takeWay, if_pos h1, if_neg h2, Bool.false_eq_true, ↓reduceIte, Nat.reduceAdd, Nat.reduceMul, mj_tn0, mj_tn1, mj_tn2, mj_tn3]
        exact x_X5_tw l b base D z N (2) (0) a i m (sp_fot (I 34 0) (I 34 1) (I 34 2) a i (nI m)) (by decide) (by decide) d r hm (mj_hi h1 hm (hl 0 (by decide))) m 0  mj_mk (mj_upI I 1 13 0) (by omega) (by omega) (by omega)
    · skip
      refine R_seg (φ := []) (pc' := 23) (L' := [.ref 1, .int (0), .int a, .int i, .int (nI m), .int (sp_fot (I 34 0) (I 34 1) (I 34 2) a i (nI m)), mj_mk, mj_mk]) (st' := [.int (sp_fot (I 34 0) (I 34 1) (I 34 2) a i (nI m)), .ref 1]) (σ' := (mj_KS N, I, mj_PP (2) d r)) 2 rfl trivial ?_
      refine R_ce (idx := 90) (mid := 91) (kind := 0) (N := N) (M' := mj_m_X5_comeTo) (As := [.ref 1, .int (sp_fot (I 34 0) (I 34 1) (I 34 2) a i (nI m))]) (rest := []) (I := I) (P := mj_PP (2) d r) (I' := (s_X5_comeTo (sp_fot (I 34 0) (I 34 1) (I 34 2) a i (nI m)) I).2) (P' := mj_PP (2) d r) (v := some (.int ((s_X5_comeTo (sp_fot (I 34 0) (I 34 1) (I 34 2) a i (nI m)) I).1))) rfl rfl rfl mj_mc91 mj_dc91 rfl rfl rfl rfl rfl rfl (x_X5_comeTo l b base D z N (sp_fot (I 34 0) (I 34 1) (I 34 2) a i (nI m)) I (2) d r) ?_
      refine R_seg (φ := []) (pc' := 26) (L' := [.ref 1, .int (0), .int a, .int i, .int (nI m), .int (sp_fot (I 34 0) (I 34 1) (I 34 2) a i (nI m)), mj_mk, mj_mk]) (st' := [.int ((s_X5_comeTo (sp_fot (I 34 0) (I 34 1) (I 34 2) a i (nI m)) I).1)]) (σ' := (mj_KS N, (s_X5_comeTo (sp_fot (I 34 0) (I 34 1) (I 34 2) a i (nI m)) I).2, mj_PP (2) d r)) 0 rfl trivial ?_
      exact R_ri rfl rfl (mj_leaf (by simp only [s_X5_takeWay, if_neg h1, Bool.false_eq_true, ↓reduceIte, Nat.reduceAdd, Nat.reduceMul, mj_tn0, mj_tn1, mj_tn2, mj_tn3]) (by simp only [s_X5_takeWay, if_neg h1, Bool.false_eq_true, ↓reduceIte, Nat.reduceAdd, Nat.reduceMul, mj_tn0, mj_tn1, mj_tn2, mj_tn3]))
  · skip
    refine R_seg (φ := [mj_in (1) 4]) (pc' := 10) (L' := [.ref 1, .int (1), .int a, .int i, .int (nI m), mj_mk, mj_mk, mj_mk]) (st' := [.int (nI m), .int i, .int a, .ref 36]) (σ' := (mj_KS N, I, mj_PP (2) d r)) 7 rfl ⟨mj_in_d (by decide), trivial⟩ ?_
    refine R_ce (idx := 86) (mid := 37) (kind := 3) (N := N) (M' := mj_m_X4_faultOfTaking) (As := [.ref 36, .int a, .int i, .int (nI m)]) (rest := []) (I := I) (P := mj_PP (2) d r) (I' := I) (P' := mj_PP (2) d r) (v := some (.int (sp_fot (I 36 0) (I 36 1) (I 36 2) a i (nI m)))) rfl rfl rfl mj_mc37 mj_dc37 rfl rfl rfl rfl rfl rfl (x_fot l b base D z N 36 (by decide) a i (nI m) I (2) d r) ?_
    refine R_seg (φ := []) (pc' := 17) (L' := [.ref 1, .int (1), .int a, .int i, .int (nI m), .int (sp_fot (I 36 0) (I 36 1) (I 36 2) a i (nI m)), mj_mk, mj_mk]) (st' := [.int (sp_fot (I 36 0) (I 36 1) (I 36 2) a i (nI m))]) (σ' := (mj_KS N, I, mj_PP (2) d r)) 2 rfl trivial ?_
    refine R_br (q := (sp_fot (I 36 0) (I 36 1) (I 36 2) a i (nI m) : Int32) = 0) (t := 27) (f := 20) (rest := []) rfl (fun h1 => ?_) (fun h1 => ?_)
    · skip
      refine R_seg (φ := []) (pc' := 39) (L' := [.ref 1, .int (1), .int a, .int i, .int (nI m), .int (sp_fot (I 36 0) (I 36 1) (I 36 2) a i (nI m)), mj_mk, mj_mk]) (st' := [.int (I 2 0)]) (σ' := (mj_KS N, (mj_upI I 1 13 0), mj_PP (2) d r)) 6 rfl trivial ?_
      refine R_br (q := (I 2 0 : Int32) = 0) (t := 42) (f := 45) (rest := []) rfl (fun h2 => ?_) (fun h2 => ?_)
      · skip
        refine R_seg (φ := []) (pc' := 44) (L' := [.ref 1, .int (1), .int a, .int i, .int (nI m), .int (sp_fot (I 36 0) (I 36 1) (I 36 2) a i (nI m)), mj_mk, mj_mk]) (st' := [.int (-3)]) (σ' := (mj_KS N, (mj_upI I 1 13 0), mj_PP (2) d r)) 1 rfl trivial ?_
        exact R_ri rfl rfl (mj_leaf (by simp only [s_X5_takeWay, if_pos h1, if_pos h2, Bool.false_eq_true, ↓reduceIte, Nat.reduceAdd, Nat.reduceMul, mj_tn0, mj_tn1, mj_tn2, mj_tn3]) (by simp only [s_X5_takeWay, if_pos h1, if_pos h2, Bool.false_eq_true, ↓reduceIte, Nat.reduceAdd, Nat.reduceMul, mj_tn0, mj_tn1, mj_tn2, mj_tn3]))
      · skip
        refine R_seg (φ := []) (pc' := 48) (L' := [.ref 1, .int (1), .int a, .int i, .int (nI m), .int (sp_fot (I 36 0) (I 36 1) (I 36 2) a i (nI m)), .int 0, mj_mk]) (st' := []) (σ' := (mj_KS N, (mj_upI I 1 13 0), mj_PP (2) d r)) 2 rfl trivial ?_
        simp only [s_X5_takeWay, if_pos h1, if_neg h2, Bool.false_eq_true, ↓reduceIte, Nat.reduceAdd, Nat.reduceMul, mj_tn0, mj_tn1, mj_tn2, mj_tn3]
        exact x_X5_tw l b base D z N (2) (1) a i m (sp_fot (I 36 0) (I 36 1) (I 36 2) a i (nI m)) (by decide) (by decide) d r hm (mj_hi h1 hm (hl 1 (by decide))) m 0  mj_mk (mj_upI I 1 13 0) (by omega) (by omega) (by omega)
    · skip
      refine R_seg (φ := []) (pc' := 23) (L' := [.ref 1, .int (1), .int a, .int i, .int (nI m), .int (sp_fot (I 36 0) (I 36 1) (I 36 2) a i (nI m)), mj_mk, mj_mk]) (st' := [.int (sp_fot (I 36 0) (I 36 1) (I 36 2) a i (nI m)), .ref 1]) (σ' := (mj_KS N, I, mj_PP (2) d r)) 2 rfl trivial ?_
      refine R_ce (idx := 90) (mid := 91) (kind := 0) (N := N) (M' := mj_m_X5_comeTo) (As := [.ref 1, .int (sp_fot (I 36 0) (I 36 1) (I 36 2) a i (nI m))]) (rest := []) (I := I) (P := mj_PP (2) d r) (I' := (s_X5_comeTo (sp_fot (I 36 0) (I 36 1) (I 36 2) a i (nI m)) I).2) (P' := mj_PP (2) d r) (v := some (.int ((s_X5_comeTo (sp_fot (I 36 0) (I 36 1) (I 36 2) a i (nI m)) I).1))) rfl rfl rfl mj_mc91 mj_dc91 rfl rfl rfl rfl rfl rfl (x_X5_comeTo l b base D z N (sp_fot (I 36 0) (I 36 1) (I 36 2) a i (nI m)) I (2) d r) ?_
      refine R_seg (φ := []) (pc' := 26) (L' := [.ref 1, .int (1), .int a, .int i, .int (nI m), .int (sp_fot (I 36 0) (I 36 1) (I 36 2) a i (nI m)), mj_mk, mj_mk]) (st' := [.int ((s_X5_comeTo (sp_fot (I 36 0) (I 36 1) (I 36 2) a i (nI m)) I).1)]) (σ' := (mj_KS N, (s_X5_comeTo (sp_fot (I 36 0) (I 36 1) (I 36 2) a i (nI m)) I).2, mj_PP (2) d r)) 0 rfl trivial ?_
      exact R_ri rfl rfl (mj_leaf (by simp only [s_X5_takeWay, if_neg h1, Bool.false_eq_true, ↓reduceIte, Nat.reduceAdd, Nat.reduceMul, mj_tn0, mj_tn1, mj_tn2, mj_tn3]) (by simp only [s_X5_takeWay, if_neg h1, Bool.false_eq_true, ↓reduceIte, Nat.reduceAdd, Nat.reduceMul, mj_tn0, mj_tn1, mj_tn2, mj_tn3]))
  · skip
    refine R_seg (φ := [mj_in (2) 4]) (pc' := 10) (L' := [.ref 1, .int (2), .int a, .int i, .int (nI m), mj_mk, mj_mk, mj_mk]) (st' := [.int (nI m), .int i, .int a, .ref 38]) (σ' := (mj_KS N, I, mj_PP (2) d r)) 7 rfl ⟨mj_in_d (by decide), trivial⟩ ?_
    refine R_ce (idx := 86) (mid := 37) (kind := 3) (N := N) (M' := mj_m_X4_faultOfTaking) (As := [.ref 38, .int a, .int i, .int (nI m)]) (rest := []) (I := I) (P := mj_PP (2) d r) (I' := I) (P' := mj_PP (2) d r) (v := some (.int (sp_fot (I 38 0) (I 38 1) (I 38 2) a i (nI m)))) rfl rfl rfl mj_mc37 mj_dc37 rfl rfl rfl rfl rfl rfl (x_fot l b base D z N 38 (by decide) a i (nI m) I (2) d r) ?_
    refine R_seg (φ := []) (pc' := 17) (L' := [.ref 1, .int (2), .int a, .int i, .int (nI m), .int (sp_fot (I 38 0) (I 38 1) (I 38 2) a i (nI m)), mj_mk, mj_mk]) (st' := [.int (sp_fot (I 38 0) (I 38 1) (I 38 2) a i (nI m))]) (σ' := (mj_KS N, I, mj_PP (2) d r)) 2 rfl trivial ?_
    refine R_br (q := (sp_fot (I 38 0) (I 38 1) (I 38 2) a i (nI m) : Int32) = 0) (t := 27) (f := 20) (rest := []) rfl (fun h1 => ?_) (fun h1 => ?_)
    · skip
      refine R_seg (φ := []) (pc' := 39) (L' := [.ref 1, .int (2), .int a, .int i, .int (nI m), .int (sp_fot (I 38 0) (I 38 1) (I 38 2) a i (nI m)), mj_mk, mj_mk]) (st' := [.int (I 2 0)]) (σ' := (mj_KS N, (mj_upI I 1 13 0), mj_PP (2) d r)) 6 rfl trivial ?_
      refine R_br (q := (I 2 0 : Int32) = 0) (t := 42) (f := 45) (rest := []) rfl (fun h2 => ?_) (fun h2 => ?_)
      · skip
        refine R_seg (φ := []) (pc' := 44) (L' := [.ref 1, .int (2), .int a, .int i, .int (nI m), .int (sp_fot (I 38 0) (I 38 1) (I 38 2) a i (nI m)), mj_mk, mj_mk]) (st' := [.int (-3)]) (σ' := (mj_KS N, (mj_upI I 1 13 0), mj_PP (2) d r)) 1 rfl trivial ?_
        exact R_ri rfl rfl (mj_leaf (by simp only [s_X5_takeWay, if_pos h1, if_pos h2, Bool.false_eq_true, ↓reduceIte, Nat.reduceAdd, Nat.reduceMul, mj_tn0, mj_tn1, mj_tn2, mj_tn3]) (by simp only [s_X5_takeWay, if_pos h1, if_pos h2, Bool.false_eq_true, ↓reduceIte, Nat.reduceAdd, Nat.reduceMul, mj_tn0, mj_tn1, mj_tn2, mj_tn3]))
      · skip
        refine R_seg (φ := []) (pc' := 48) (L' := [.ref 1, .int (2), .int a, .int i, .int (nI m), .int (sp_fot (I 38 0) (I 38 1) (I 38 2) a i (nI m)), .int 0, mj_mk]) (st' := []) (σ' := (mj_KS N, (mj_upI I 1 13 0), mj_PP (2) d r)) 2 rfl trivial ?_
        simp only [s_X5_takeWay, if_pos h1, if_neg h2, Bool.false_eq_true, ↓reduceIte, Nat.reduceAdd, Nat.reduceMul, mj_tn0, mj_tn1, mj_tn2, mj_tn3]
        exact x_X5_tw l b base D z N (2) (2) a i m (sp_fot (I 38 0) (I 38 1) (I 38 2) a i (nI m)) (by decide) (by decide) d r hm (mj_hi h1 hm (hl 2 (by decide))) m 0  mj_mk (mj_upI I 1 13 0) (by omega) (by omega) (by omega)
    · skip
      refine R_seg (φ := []) (pc' := 23) (L' := [.ref 1, .int (2), .int a, .int i, .int (nI m), .int (sp_fot (I 38 0) (I 38 1) (I 38 2) a i (nI m)), mj_mk, mj_mk]) (st' := [.int (sp_fot (I 38 0) (I 38 1) (I 38 2) a i (nI m)), .ref 1]) (σ' := (mj_KS N, I, mj_PP (2) d r)) 2 rfl trivial ?_
      refine R_ce (idx := 90) (mid := 91) (kind := 0) (N := N) (M' := mj_m_X5_comeTo) (As := [.ref 1, .int (sp_fot (I 38 0) (I 38 1) (I 38 2) a i (nI m))]) (rest := []) (I := I) (P := mj_PP (2) d r) (I' := (s_X5_comeTo (sp_fot (I 38 0) (I 38 1) (I 38 2) a i (nI m)) I).2) (P' := mj_PP (2) d r) (v := some (.int ((s_X5_comeTo (sp_fot (I 38 0) (I 38 1) (I 38 2) a i (nI m)) I).1))) rfl rfl rfl mj_mc91 mj_dc91 rfl rfl rfl rfl rfl rfl (x_X5_comeTo l b base D z N (sp_fot (I 38 0) (I 38 1) (I 38 2) a i (nI m)) I (2) d r) ?_
      refine R_seg (φ := []) (pc' := 26) (L' := [.ref 1, .int (2), .int a, .int i, .int (nI m), .int (sp_fot (I 38 0) (I 38 1) (I 38 2) a i (nI m)), mj_mk, mj_mk]) (st' := [.int ((s_X5_comeTo (sp_fot (I 38 0) (I 38 1) (I 38 2) a i (nI m)) I).1)]) (σ' := (mj_KS N, (s_X5_comeTo (sp_fot (I 38 0) (I 38 1) (I 38 2) a i (nI m)) I).2, mj_PP (2) d r)) 0 rfl trivial ?_
      exact R_ri rfl rfl (mj_leaf (by simp only [s_X5_takeWay, if_neg h1, Bool.false_eq_true, ↓reduceIte, Nat.reduceAdd, Nat.reduceMul, mj_tn0, mj_tn1, mj_tn2, mj_tn3]) (by simp only [s_X5_takeWay, if_neg h1, Bool.false_eq_true, ↓reduceIte, Nat.reduceAdd, Nat.reduceMul, mj_tn0, mj_tn1, mj_tn2, mj_tn3]))
  · skip
    refine R_seg (φ := [mj_in (3) 4]) (pc' := 10) (L' := [.ref 1, .int (3), .int a, .int i, .int (nI m), mj_mk, mj_mk, mj_mk]) (st' := [.int (nI m), .int i, .int a, .ref 40]) (σ' := (mj_KS N, I, mj_PP (2) d r)) 7 rfl ⟨mj_in_d (by decide), trivial⟩ ?_
    refine R_ce (idx := 86) (mid := 37) (kind := 3) (N := N) (M' := mj_m_X4_faultOfTaking) (As := [.ref 40, .int a, .int i, .int (nI m)]) (rest := []) (I := I) (P := mj_PP (2) d r) (I' := I) (P' := mj_PP (2) d r) (v := some (.int (sp_fot (I 40 0) (I 40 1) (I 40 2) a i (nI m)))) rfl rfl rfl mj_mc37 mj_dc37 rfl rfl rfl rfl rfl rfl (x_fot l b base D z N 40 (by decide) a i (nI m) I (2) d r) ?_
    refine R_seg (φ := []) (pc' := 17) (L' := [.ref 1, .int (3), .int a, .int i, .int (nI m), .int (sp_fot (I 40 0) (I 40 1) (I 40 2) a i (nI m)), mj_mk, mj_mk]) (st' := [.int (sp_fot (I 40 0) (I 40 1) (I 40 2) a i (nI m))]) (σ' := (mj_KS N, I, mj_PP (2) d r)) 2 rfl trivial ?_
    refine R_br (q := (sp_fot (I 40 0) (I 40 1) (I 40 2) a i (nI m) : Int32) = 0) (t := 27) (f := 20) (rest := []) rfl (fun h1 => ?_) (fun h1 => ?_)
    · skip
      refine R_seg (φ := []) (pc' := 39) (L' := [.ref 1, .int (3), .int a, .int i, .int (nI m), .int (sp_fot (I 40 0) (I 40 1) (I 40 2) a i (nI m)), mj_mk, mj_mk]) (st' := [.int (I 2 0)]) (σ' := (mj_KS N, (mj_upI I 1 13 0), mj_PP (2) d r)) 6 rfl trivial ?_
      refine R_br (q := (I 2 0 : Int32) = 0) (t := 42) (f := 45) (rest := []) rfl (fun h2 => ?_) (fun h2 => ?_)
      · skip
        refine R_seg (φ := []) (pc' := 44) (L' := [.ref 1, .int (3), .int a, .int i, .int (nI m), .int (sp_fot (I 40 0) (I 40 1) (I 40 2) a i (nI m)), mj_mk, mj_mk]) (st' := [.int (-3)]) (σ' := (mj_KS N, (mj_upI I 1 13 0), mj_PP (2) d r)) 1 rfl trivial ?_
        exact R_ri rfl rfl (mj_leaf (by simp only [s_X5_takeWay, if_pos h1, if_pos h2, Bool.false_eq_true, ↓reduceIte, Nat.reduceAdd, Nat.reduceMul, mj_tn0, mj_tn1, mj_tn2, mj_tn3]) (by simp only [s_X5_takeWay, if_pos h1, if_pos h2, Bool.false_eq_true, ↓reduceIte, Nat.reduceAdd, Nat.reduceMul, mj_tn0, mj_tn1, mj_tn2, mj_tn3]))
      · skip
        refine R_seg (φ := []) (pc' := 48) (L' := [.ref 1, .int (3), .int a, .int i, .int (nI m), .int (sp_fot (I 40 0) (I 40 1) (I 40 2) a i (nI m)), .int 0, mj_mk]) (st' := []) (σ' := (mj_KS N, (mj_upI I 1 13 0), mj_PP (2) d r)) 2 rfl trivial ?_
        simp only [s_X5_takeWay, if_pos h1, if_neg h2, Bool.false_eq_true, ↓reduceIte, Nat.reduceAdd, Nat.reduceMul, mj_tn0, mj_tn1, mj_tn2, mj_tn3]
        exact x_X5_tw l b base D z N (2) (3) a i m (sp_fot (I 40 0) (I 40 1) (I 40 2) a i (nI m)) (by decide) (by decide) d r hm (mj_hi h1 hm (hl 3 (by decide))) m 0  mj_mk (mj_upI I 1 13 0) (by omega) (by omega) (by omega)
    · skip
      refine R_seg (φ := []) (pc' := 23) (L' := [.ref 1, .int (3), .int a, .int i, .int (nI m), .int (sp_fot (I 40 0) (I 40 1) (I 40 2) a i (nI m)), mj_mk, mj_mk]) (st' := [.int (sp_fot (I 40 0) (I 40 1) (I 40 2) a i (nI m)), .ref 1]) (σ' := (mj_KS N, I, mj_PP (2) d r)) 2 rfl trivial ?_
      refine R_ce (idx := 90) (mid := 91) (kind := 0) (N := N) (M' := mj_m_X5_comeTo) (As := [.ref 1, .int (sp_fot (I 40 0) (I 40 1) (I 40 2) a i (nI m))]) (rest := []) (I := I) (P := mj_PP (2) d r) (I' := (s_X5_comeTo (sp_fot (I 40 0) (I 40 1) (I 40 2) a i (nI m)) I).2) (P' := mj_PP (2) d r) (v := some (.int ((s_X5_comeTo (sp_fot (I 40 0) (I 40 1) (I 40 2) a i (nI m)) I).1))) rfl rfl rfl mj_mc91 mj_dc91 rfl rfl rfl rfl rfl rfl (x_X5_comeTo l b base D z N (sp_fot (I 40 0) (I 40 1) (I 40 2) a i (nI m)) I (2) d r) ?_
      refine R_seg (φ := []) (pc' := 26) (L' := [.ref 1, .int (3), .int a, .int i, .int (nI m), .int (sp_fot (I 40 0) (I 40 1) (I 40 2) a i (nI m)), mj_mk, mj_mk]) (st' := [.int ((s_X5_comeTo (sp_fot (I 40 0) (I 40 1) (I 40 2) a i (nI m)) I).1)]) (σ' := (mj_KS N, (s_X5_comeTo (sp_fot (I 40 0) (I 40 1) (I 40 2) a i (nI m)) I).2, mj_PP (2) d r)) 0 rfl trivial ?_
      exact R_ri rfl rfl (mj_leaf (by simp only [s_X5_takeWay, if_neg h1, Bool.false_eq_true, ↓reduceIte, Nat.reduceAdd, Nat.reduceMul, mj_tn0, mj_tn1, mj_tn2, mj_tn3]) (by simp only [s_X5_takeWay, if_neg h1, Bool.false_eq_true, ↓reduceIte, Nat.reduceAdd, Nat.reduceMul, mj_tn0, mj_tn1, mj_tn2, mj_tn3]))
  · skip
    refine R_seg (φ := [mj_in (0) 4]) (pc' := 10) (L' := [.ref 1, .int (0), .int a, .int i, .int (nI m), mj_mk, mj_mk, mj_mk]) (st' := [.int (nI m), .int i, .int a, .ref 34]) (σ' := (mj_KS N, I, mj_PP (10) d r)) 7 rfl ⟨mj_in_d (by decide), trivial⟩ ?_
    refine R_ce (idx := 86) (mid := 37) (kind := 3) (N := N) (M' := mj_m_X4_faultOfTaking) (As := [.ref 34, .int a, .int i, .int (nI m)]) (rest := []) (I := I) (P := mj_PP (10) d r) (I' := I) (P' := mj_PP (10) d r) (v := some (.int (sp_fot (I 34 0) (I 34 1) (I 34 2) a i (nI m)))) rfl rfl rfl mj_mc37 mj_dc37 rfl rfl rfl rfl rfl rfl (x_fot l b base D z N 34 (by decide) a i (nI m) I (10) d r) ?_
    refine R_seg (φ := []) (pc' := 17) (L' := [.ref 1, .int (0), .int a, .int i, .int (nI m), .int (sp_fot (I 34 0) (I 34 1) (I 34 2) a i (nI m)), mj_mk, mj_mk]) (st' := [.int (sp_fot (I 34 0) (I 34 1) (I 34 2) a i (nI m))]) (σ' := (mj_KS N, I, mj_PP (10) d r)) 2 rfl trivial ?_
    refine R_br (q := (sp_fot (I 34 0) (I 34 1) (I 34 2) a i (nI m) : Int32) = 0) (t := 27) (f := 20) (rest := []) rfl (fun h1 => ?_) (fun h1 => ?_)
    · skip
      refine R_seg (φ := []) (pc' := 39) (L' := [.ref 1, .int (0), .int a, .int i, .int (nI m), .int (sp_fot (I 34 0) (I 34 1) (I 34 2) a i (nI m)), mj_mk, mj_mk]) (st' := [.int (I 10 0)]) (σ' := (mj_KS N, (mj_upI I 1 13 0), mj_PP (10) d r)) 6 rfl trivial ?_
      refine R_br (q := (I 10 0 : Int32) = 0) (t := 42) (f := 45) (rest := []) rfl (fun h2 => ?_) (fun h2 => ?_)
      · skip
        refine R_seg (φ := []) (pc' := 44) (L' := [.ref 1, .int (0), .int a, .int i, .int (nI m), .int (sp_fot (I 34 0) (I 34 1) (I 34 2) a i (nI m)), mj_mk, mj_mk]) (st' := [.int (-3)]) (σ' := (mj_KS N, (mj_upI I 1 13 0), mj_PP (10) d r)) 1 rfl trivial ?_
        exact R_ri rfl rfl (mj_leaf (by simp only [s_X5_takeWay, if_pos h1, if_pos h2, Bool.false_eq_true, ↓reduceIte, Nat.reduceAdd, Nat.reduceMul, mj_tn0, mj_tn1, mj_tn2, mj_tn3]) (by simp only [s_X5_takeWay, if_pos h1, if_pos h2, Bool.false_eq_true, ↓reduceIte, Nat.reduceAdd, Nat.reduceMul, mj_tn0, mj_tn1, mj_tn2, mj_tn3]))
      · skip
        refine R_seg (φ := []) (pc' := 48) (L' := [.ref 1, .int (0), .int a, .int i, .int (nI m), .int (sp_fot (I 34 0) (I 34 1) (I 34 2) a i (nI m)), .int 0, mj_mk]) (st' := []) (σ' := (mj_KS N, (mj_upI I 1 13 0), mj_PP (10) d r)) 2 rfl trivial ?_
        simp only [s_X5_takeWay, if_pos h1, if_neg h2, Bool.false_eq_true, ↓reduceIte, Nat.reduceAdd, Nat.reduceMul, mj_tn0, mj_tn1, mj_tn2, mj_tn3]
        exact x_X5_tw l b base D z N (10) (0) a i m (sp_fot (I 34 0) (I 34 1) (I 34 2) a i (nI m)) (by decide) (by decide) d r hm (mj_hi h1 hm (hl 0 (by decide))) m 0  mj_mk (mj_upI I 1 13 0) (by omega) (by omega) (by omega)
    · skip
      refine R_seg (φ := []) (pc' := 23) (L' := [.ref 1, .int (0), .int a, .int i, .int (nI m), .int (sp_fot (I 34 0) (I 34 1) (I 34 2) a i (nI m)), mj_mk, mj_mk]) (st' := [.int (sp_fot (I 34 0) (I 34 1) (I 34 2) a i (nI m)), .ref 1]) (σ' := (mj_KS N, I, mj_PP (10) d r)) 2 rfl trivial ?_
      refine R_ce (idx := 90) (mid := 91) (kind := 0) (N := N) (M' := mj_m_X5_comeTo) (As := [.ref 1, .int (sp_fot (I 34 0) (I 34 1) (I 34 2) a i (nI m))]) (rest := []) (I := I) (P := mj_PP (10) d r) (I' := (s_X5_comeTo (sp_fot (I 34 0) (I 34 1) (I 34 2) a i (nI m)) I).2) (P' := mj_PP (10) d r) (v := some (.int ((s_X5_comeTo (sp_fot (I 34 0) (I 34 1) (I 34 2) a i (nI m)) I).1))) rfl rfl rfl mj_mc91 mj_dc91 rfl rfl rfl rfl rfl rfl (x_X5_comeTo l b base D z N (sp_fot (I 34 0) (I 34 1) (I 34 2) a i (nI m)) I (10) d r) ?_
      refine R_seg (φ := []) (pc' := 26) (L' := [.ref 1, .int (0), .int a, .int i, .int (nI m), .int (sp_fot (I 34 0) (I 34 1) (I 34 2) a i (nI m)), mj_mk, mj_mk]) (st' := [.int ((s_X5_comeTo (sp_fot (I 34 0) (I 34 1) (I 34 2) a i (nI m)) I).1)]) (σ' := (mj_KS N, (s_X5_comeTo (sp_fot (I 34 0) (I 34 1) (I 34 2) a i (nI m)) I).2, mj_PP (10) d r)) 0 rfl trivial ?_
      exact R_ri rfl rfl (mj_leaf (by simp only [s_X5_takeWay, if_neg h1, Bool.false_eq_true, ↓reduceIte, Nat.reduceAdd, Nat.reduceMul, mj_tn0, mj_tn1, mj_tn2, mj_tn3]) (by simp only [s_X5_takeWay, if_neg h1, Bool.false_eq_true, ↓reduceIte, Nat.reduceAdd, Nat.reduceMul, mj_tn0, mj_tn1, mj_tn2, mj_tn3]))
  · skip
    refine R_seg (φ := [mj_in (1) 4]) (pc' := 10) (L' := [.ref 1, .int (1), .int a, .int i, .int (nI m), mj_mk, mj_mk, mj_mk]) (st' := [.int (nI m), .int i, .int a, .ref 36]) (σ' := (mj_KS N, I, mj_PP (10) d r)) 7 rfl ⟨mj_in_d (by decide), trivial⟩ ?_
    refine R_ce (idx := 86) (mid := 37) (kind := 3) (N := N) (M' := mj_m_X4_faultOfTaking) (As := [.ref 36, .int a, .int i, .int (nI m)]) (rest := []) (I := I) (P := mj_PP (10) d r) (I' := I) (P' := mj_PP (10) d r) (v := some (.int (sp_fot (I 36 0) (I 36 1) (I 36 2) a i (nI m)))) rfl rfl rfl mj_mc37 mj_dc37 rfl rfl rfl rfl rfl rfl (x_fot l b base D z N 36 (by decide) a i (nI m) I (10) d r) ?_
    refine R_seg (φ := []) (pc' := 17) (L' := [.ref 1, .int (1), .int a, .int i, .int (nI m), .int (sp_fot (I 36 0) (I 36 1) (I 36 2) a i (nI m)), mj_mk, mj_mk]) (st' := [.int (sp_fot (I 36 0) (I 36 1) (I 36 2) a i (nI m))]) (σ' := (mj_KS N, I, mj_PP (10) d r)) 2 rfl trivial ?_
    refine R_br (q := (sp_fot (I 36 0) (I 36 1) (I 36 2) a i (nI m) : Int32) = 0) (t := 27) (f := 20) (rest := []) rfl (fun h1 => ?_) (fun h1 => ?_)
    · skip
      refine R_seg (φ := []) (pc' := 39) (L' := [.ref 1, .int (1), .int a, .int i, .int (nI m), .int (sp_fot (I 36 0) (I 36 1) (I 36 2) a i (nI m)), mj_mk, mj_mk]) (st' := [.int (I 10 0)]) (σ' := (mj_KS N, (mj_upI I 1 13 0), mj_PP (10) d r)) 6 rfl trivial ?_
      refine R_br (q := (I 10 0 : Int32) = 0) (t := 42) (f := 45) (rest := []) rfl (fun h2 => ?_) (fun h2 => ?_)
      · skip
        refine R_seg (φ := []) (pc' := 44) (L' := [.ref 1, .int (1), .int a, .int i, .int (nI m), .int (sp_fot (I 36 0) (I 36 1) (I 36 2) a i (nI m)), mj_mk, mj_mk]) (st' := [.int (-3)]) (σ' := (mj_KS N, (mj_upI I 1 13 0), mj_PP (10) d r)) 1 rfl trivial ?_
        exact R_ri rfl rfl (mj_leaf (by simp only [s_X5_takeWay, if_pos h1, if_pos h2, Bool.false_eq_true, ↓reduceIte, Nat.reduceAdd, Nat.reduceMul, mj_tn0, mj_tn1, mj_tn2, mj_tn3]) (by simp only [s_X5_takeWay, if_pos h1, if_pos h2, Bool.false_eq_true, ↓reduceIte, Nat.reduceAdd, Nat.reduceMul, mj_tn0, mj_tn1, mj_tn2, mj_tn3]))
      · skip
        refine R_seg (φ := []) (pc' := 48) (L' := [.ref 1, .int (1), .int a, .int i, .int (nI m), .int (sp_fot (I 36 0) (I 36 1) (I 36 2) a i (nI m)), .int 0, mj_mk]) (st' := []) (σ' := (mj_KS N, (mj_upI I 1 13 0), mj_PP (10) d r)) 2 rfl trivial ?_
        simp only [s_X5_takeWay, if_pos h1, if_neg h2, Bool.false_eq_true, ↓reduceIte, Nat.reduceAdd, Nat.reduceMul, mj_tn0, mj_tn1, mj_tn2, mj_tn3]
        exact x_X5_tw l b base D z N (10) (1) a i m (sp_fot (I 36 0) (I 36 1) (I 36 2) a i (nI m)) (by decide) (by decide) d r hm (mj_hi h1 hm (hl 1 (by decide))) m 0  mj_mk (mj_upI I 1 13 0) (by omega) (by omega) (by omega)
    · skip
      refine R_seg (φ := []) (pc' := 23) (L' := [.ref 1, .int (1), .int a, .int i, .int (nI m), .int (sp_fot (I 36 0) (I 36 1) (I 36 2) a i (nI m)), mj_mk, mj_mk]) (st' := [.int (sp_fot (I 36 0) (I 36 1) (I 36 2) a i (nI m)), .ref 1]) (σ' := (mj_KS N, I, mj_PP (10) d r)) 2 rfl trivial ?_
      refine R_ce (idx := 90) (mid := 91) (kind := 0) (N := N) (M' := mj_m_X5_comeTo) (As := [.ref 1, .int (sp_fot (I 36 0) (I 36 1) (I 36 2) a i (nI m))]) (rest := []) (I := I) (P := mj_PP (10) d r) (I' := (s_X5_comeTo (sp_fot (I 36 0) (I 36 1) (I 36 2) a i (nI m)) I).2) (P' := mj_PP (10) d r) (v := some (.int ((s_X5_comeTo (sp_fot (I 36 0) (I 36 1) (I 36 2) a i (nI m)) I).1))) rfl rfl rfl mj_mc91 mj_dc91 rfl rfl rfl rfl rfl rfl (x_X5_comeTo l b base D z N (sp_fot (I 36 0) (I 36 1) (I 36 2) a i (nI m)) I (10) d r) ?_
      refine R_seg (φ := []) (pc' := 26) (L' := [.ref 1, .int (1), .int a, .int i, .int (nI m), .int (sp_fot (I 36 0) (I 36 1) (I 36 2) a i (nI m)), mj_mk, mj_mk]) (st' := [.int ((s_X5_comeTo (sp_fot (I 36 0) (I 36 1) (I 36 2) a i (nI m)) I).1)]) (σ' := (mj_KS N, (s_X5_comeTo (sp_fot (I 36 0) (I 36 1) (I 36 2) a i (nI m)) I).2, mj_PP (10) d r)) 0 rfl trivial ?_
      exact R_ri rfl rfl (mj_leaf (by simp only [s_X5_takeWay, if_neg h1, Bool.false_eq_true, ↓reduceIte, Nat.reduceAdd, Nat.reduceMul, mj_tn0, mj_tn1, mj_tn2, mj_tn3]) (by simp only [s_X5_takeWay, if_neg h1, Bool.false_eq_true, ↓reduceIte, Nat.reduceAdd, Nat.reduceMul, mj_tn0, mj_tn1, mj_tn2, mj_tn3]))
  · skip
    refine R_seg (φ := [mj_in (2) 4]) (pc' := 10) (L' := [.ref 1, .int (2), .int a, .int i, .int (nI m), mj_mk, mj_mk, mj_mk]) (st' := [.int (nI m), .int i, .int a, .ref 38]) (σ' := (mj_KS N, I, mj_PP (10) d r)) 7 rfl ⟨mj_in_d (by decide), trivial⟩ ?_
    refine R_ce (idx := 86) (mid := 37) (kind := 3) (N := N) (M' := mj_m_X4_faultOfTaking) (As := [.ref 38, .int a, .int i, .int (nI m)]) (rest := []) (I := I) (P := mj_PP (10) d r) (I' := I) (P' := mj_PP (10) d r) (v := some (.int (sp_fot (I 38 0) (I 38 1) (I 38 2) a i (nI m)))) rfl rfl rfl mj_mc37 mj_dc37 rfl rfl rfl rfl rfl rfl (x_fot l b base D z N 38 (by decide) a i (nI m) I (10) d r) ?_
    refine R_seg (φ := []) (pc' := 17) (L' := [.ref 1, .int (2), .int a, .int i, .int (nI m), .int (sp_fot (I 38 0) (I 38 1) (I 38 2) a i (nI m)), mj_mk, mj_mk]) (st' := [.int (sp_fot (I 38 0) (I 38 1) (I 38 2) a i (nI m))]) (σ' := (mj_KS N, I, mj_PP (10) d r)) 2 rfl trivial ?_
    refine R_br (q := (sp_fot (I 38 0) (I 38 1) (I 38 2) a i (nI m) : Int32) = 0) (t := 27) (f := 20) (rest := []) rfl (fun h1 => ?_) (fun h1 => ?_)
    · skip
      refine R_seg (φ := []) (pc' := 39) (L' := [.ref 1, .int (2), .int a, .int i, .int (nI m), .int (sp_fot (I 38 0) (I 38 1) (I 38 2) a i (nI m)), mj_mk, mj_mk]) (st' := [.int (I 10 0)]) (σ' := (mj_KS N, (mj_upI I 1 13 0), mj_PP (10) d r)) 6 rfl trivial ?_
      refine R_br (q := (I 10 0 : Int32) = 0) (t := 42) (f := 45) (rest := []) rfl (fun h2 => ?_) (fun h2 => ?_)
      · skip
        refine R_seg (φ := []) (pc' := 44) (L' := [.ref 1, .int (2), .int a, .int i, .int (nI m), .int (sp_fot (I 38 0) (I 38 1) (I 38 2) a i (nI m)), mj_mk, mj_mk]) (st' := [.int (-3)]) (σ' := (mj_KS N, (mj_upI I 1 13 0), mj_PP (10) d r)) 1 rfl trivial ?_
        exact R_ri rfl rfl (mj_leaf (by simp only [s_X5_takeWay, if_pos h1, if_pos h2, Bool.false_eq_true, ↓reduceIte, Nat.reduceAdd, Nat.reduceMul, mj_tn0, mj_tn1, mj_tn2, mj_tn3]) (by simp only [s_X5_takeWay, if_pos h1, if_pos h2, Bool.false_eq_true, ↓reduceIte, Nat.reduceAdd, Nat.reduceMul, mj_tn0, mj_tn1, mj_tn2, mj_tn3]))
      · skip
        refine R_seg (φ := []) (pc' := 48) (L' := [.ref 1, .int (2), .int a, .int i, .int (nI m), .int (sp_fot (I 38 0) (I 38 1) (I 38 2) a i (nI m)), .int 0, mj_mk]) (st' := []) (σ' := (mj_KS N, (mj_upI I 1 13 0), mj_PP (10) d r)) 2 rfl trivial ?_
        simp only [s_X5_takeWay, if_pos h1, if_neg h2, Bool.false_eq_true, ↓reduceIte, Nat.reduceAdd, Nat.reduceMul, mj_tn0, mj_tn1, mj_tn2, mj_tn3]
        exact x_X5_tw l b base D z N (10) (2) a i m (sp_fot (I 38 0) (I 38 1) (I 38 2) a i (nI m)) (by decide) (by decide) d r hm (mj_hi h1 hm (hl 2 (by decide))) m 0  mj_mk (mj_upI I 1 13 0) (by omega) (by omega) (by omega)
    · skip
      refine R_seg (φ := []) (pc' := 23) (L' := [.ref 1, .int (2), .int a, .int i, .int (nI m), .int (sp_fot (I 38 0) (I 38 1) (I 38 2) a i (nI m)), mj_mk, mj_mk]) (st' := [.int (sp_fot (I 38 0) (I 38 1) (I 38 2) a i (nI m)), .ref 1]) (σ' := (mj_KS N, I, mj_PP (10) d r)) 2 rfl trivial ?_
      refine R_ce (idx := 90) (mid := 91) (kind := 0) (N := N) (M' := mj_m_X5_comeTo) (As := [.ref 1, .int (sp_fot (I 38 0) (I 38 1) (I 38 2) a i (nI m))]) (rest := []) (I := I) (P := mj_PP (10) d r) (I' := (s_X5_comeTo (sp_fot (I 38 0) (I 38 1) (I 38 2) a i (nI m)) I).2) (P' := mj_PP (10) d r) (v := some (.int ((s_X5_comeTo (sp_fot (I 38 0) (I 38 1) (I 38 2) a i (nI m)) I).1))) rfl rfl rfl mj_mc91 mj_dc91 rfl rfl rfl rfl rfl rfl (x_X5_comeTo l b base D z N (sp_fot (I 38 0) (I 38 1) (I 38 2) a i (nI m)) I (10) d r) ?_
      refine R_seg (φ := []) (pc' := 26) (L' := [.ref 1, .int (2), .int a, .int i, .int (nI m), .int (sp_fot (I 38 0) (I 38 1) (I 38 2) a i (nI m)), mj_mk, mj_mk]) (st' := [.int ((s_X5_comeTo (sp_fot (I 38 0) (I 38 1) (I 38 2) a i (nI m)) I).1)]) (σ' := (mj_KS N, (s_X5_comeTo (sp_fot (I 38 0) (I 38 1) (I 38 2) a i (nI m)) I).2, mj_PP (10) d r)) 0 rfl trivial ?_
      exact R_ri rfl rfl (mj_leaf (by simp only [s_X5_takeWay, if_neg h1, Bool.false_eq_true, ↓reduceIte, Nat.reduceAdd, Nat.reduceMul, mj_tn0, mj_tn1, mj_tn2, mj_tn3]) (by simp only [s_X5_takeWay, if_neg h1, Bool.false_eq_true, ↓reduceIte, Nat.reduceAdd, Nat.reduceMul, mj_tn0, mj_tn1, mj_tn2, mj_tn3]))
  · skip
    refine R_seg (φ := [mj_in (3) 4]) (pc' := 10) (L' := [.ref 1, .int (3), .int a, .int i, .int (nI m), mj_mk, mj_mk, mj_mk]) (st' := [.int (nI m), .int i, .int a, .ref 40]) (σ' := (mj_KS N, I, mj_PP (10) d r)) 7 rfl ⟨mj_in_d (by decide), trivial⟩ ?_
    refine R_ce (idx := 86) (mid := 37) (kind := 3) (N := N) (M' := mj_m_X4_faultOfTaking) (As := [.ref 40, .int a, .int i, .int (nI m)]) (rest := []) (I := I) (P := mj_PP (10) d r) (I' := I) (P' := mj_PP (10) d r) (v := some (.int (sp_fot (I 40 0) (I 40 1) (I 40 2) a i (nI m)))) rfl rfl rfl mj_mc37 mj_dc37 rfl rfl rfl rfl rfl rfl (x_fot l b base D z N 40 (by decide) a i (nI m) I (10) d r) ?_
    refine R_seg (φ := []) (pc' := 17) (L' := [.ref 1, .int (3), .int a, .int i, .int (nI m), .int (sp_fot (I 40 0) (I 40 1) (I 40 2) a i (nI m)), mj_mk, mj_mk]) (st' := [.int (sp_fot (I 40 0) (I 40 1) (I 40 2) a i (nI m))]) (σ' := (mj_KS N, I, mj_PP (10) d r)) 2 rfl trivial ?_
    refine R_br (q := (sp_fot (I 40 0) (I 40 1) (I 40 2) a i (nI m) : Int32) = 0) (t := 27) (f := 20) (rest := []) rfl (fun h1 => ?_) (fun h1 => ?_)
    · skip
      refine R_seg (φ := []) (pc' := 39) (L' := [.ref 1, .int (3), .int a, .int i, .int (nI m), .int (sp_fot (I 40 0) (I 40 1) (I 40 2) a i (nI m)), mj_mk, mj_mk]) (st' := [.int (I 10 0)]) (σ' := (mj_KS N, (mj_upI I 1 13 0), mj_PP (10) d r)) 6 rfl trivial ?_
      refine R_br (q := (I 10 0 : Int32) = 0) (t := 42) (f := 45) (rest := []) rfl (fun h2 => ?_) (fun h2 => ?_)
      · skip
        refine R_seg (φ := []) (pc' := 44) (L' := [.ref 1, .int (3), .int a, .int i, .int (nI m), .int (sp_fot (I 40 0) (I 40 1) (I 40 2) a i (nI m)), mj_mk, mj_mk]) (st' := [.int (-3)]) (σ' := (mj_KS N, (mj_upI I 1 13 0), mj_PP (10) d r)) 1 rfl trivial ?_
        exact R_ri rfl rfl (mj_leaf (by simp only [s_X5_takeWay, if_pos h1, if_pos h2, Bool.false_eq_true, ↓reduceIte, Nat.reduceAdd, Nat.reduceMul, mj_tn0, mj_tn1, mj_tn2, mj_tn3]) (by simp only [s_X5_takeWay, if_pos h1, if_pos h2, Bool.false_eq_true, ↓reduceIte, Nat.reduceAdd, Nat.reduceMul, mj_tn0, mj_tn1, mj_tn2, mj_tn3]))
      · skip
        refine R_seg (φ := []) (pc' := 48) (L' := [.ref 1, .int (3), .int a, .int i, .int (nI m), .int (sp_fot (I 40 0) (I 40 1) (I 40 2) a i (nI m)), .int 0, mj_mk]) (st' := []) (σ' := (mj_KS N, (mj_upI I 1 13 0), mj_PP (10) d r)) 2 rfl trivial ?_
        simp only [s_X5_takeWay, if_pos h1, if_neg h2, Bool.false_eq_true, ↓reduceIte, Nat.reduceAdd, Nat.reduceMul, mj_tn0, mj_tn1, mj_tn2, mj_tn3]
        exact x_X5_tw l b base D z N (10) (3) a i m (sp_fot (I 40 0) (I 40 1) (I 40 2) a i (nI m)) (by decide) (by decide) d r hm (mj_hi h1 hm (hl 3 (by decide))) m 0  mj_mk (mj_upI I 1 13 0) (by omega) (by omega) (by omega)
    · skip
      refine R_seg (φ := []) (pc' := 23) (L' := [.ref 1, .int (3), .int a, .int i, .int (nI m), .int (sp_fot (I 40 0) (I 40 1) (I 40 2) a i (nI m)), mj_mk, mj_mk]) (st' := [.int (sp_fot (I 40 0) (I 40 1) (I 40 2) a i (nI m)), .ref 1]) (σ' := (mj_KS N, I, mj_PP (10) d r)) 2 rfl trivial ?_
      refine R_ce (idx := 90) (mid := 91) (kind := 0) (N := N) (M' := mj_m_X5_comeTo) (As := [.ref 1, .int (sp_fot (I 40 0) (I 40 1) (I 40 2) a i (nI m))]) (rest := []) (I := I) (P := mj_PP (10) d r) (I' := (s_X5_comeTo (sp_fot (I 40 0) (I 40 1) (I 40 2) a i (nI m)) I).2) (P' := mj_PP (10) d r) (v := some (.int ((s_X5_comeTo (sp_fot (I 40 0) (I 40 1) (I 40 2) a i (nI m)) I).1))) rfl rfl rfl mj_mc91 mj_dc91 rfl rfl rfl rfl rfl rfl (x_X5_comeTo l b base D z N (sp_fot (I 40 0) (I 40 1) (I 40 2) a i (nI m)) I (10) d r) ?_
      refine R_seg (φ := []) (pc' := 26) (L' := [.ref 1, .int (3), .int a, .int i, .int (nI m), .int (sp_fot (I 40 0) (I 40 1) (I 40 2) a i (nI m)), mj_mk, mj_mk]) (st' := [.int ((s_X5_comeTo (sp_fot (I 40 0) (I 40 1) (I 40 2) a i (nI m)) I).1)]) (σ' := (mj_KS N, (s_X5_comeTo (sp_fot (I 40 0) (I 40 1) (I 40 2) a i (nI m)) I).2, mj_PP (10) d r)) 0 rfl trivial ?_
      exact R_ri rfl rfl (mj_leaf (by simp only [s_X5_takeWay, if_neg h1, Bool.false_eq_true, ↓reduceIte, Nat.reduceAdd, Nat.reduceMul, mj_tn0, mj_tn1, mj_tn2, mj_tn3]) (by simp only [s_X5_takeWay, if_neg h1, Bool.false_eq_true, ↓reduceIte, Nat.reduceAdd, Nat.reduceMul, mj_tn0, mj_tn1, mj_tn2, mj_tn3]))
theorem mj_tw_spec (cc : Nat) (u a i : Int32) (m : Nat) (f : Int32) (hc : cc ≠ 29) (hu : 34 + 2 * u.toNatClampNeg + 1 ≠ 29) : ∀ (k j : Nat) (I : mj_I), (∀ x y, x ≠ 29 → (s_X5_tw cc u a i m f k j I).2 x y = I x y) ∧ (k + j ≤ 24 → (I cc 0).toInt ≤ 6 → (∀ t : Nat, t < j → mj_in (I 29 (nI t)) 6) → (s_X5_tw cc u a i m f k j I).1 = 0 → ∀ t : Nat, t < k + j → mj_in ((s_X5_tw cc u a i m f k j I).2 29 (nI t)) 6) := by
  intro k
  induction k with
  | zero =>
    intro j I
    refine ⟨fun _ _ _ => rfl, fun _ _ h _ t ht => h t (by omega)⟩
  | succ k ih =>
    intro j I
    by_cases h1 : sp_has (I cc 0) (I (34 + 2 * u.toNatClampNeg + 1) (i + (nI j))) = true
    · simp only [s_X5_tw, if_pos h1]
      have ih' := ih (j + 1) (mj_upI I 29 (nI j) (I (34 + 2 * u.toNatClampNeg + 1) (i + (nI j))))
      refine ⟨fun x y hx => ?_, fun hk h6 hw h0 t ht => ?_⟩
      · rw [ih'.1 x y hx, mj_upI_ne hx]
      · refine ih'.2 (by omega) (by rw [mj_upI_ne hc]; exact h6) ?_ h0 t (by omega)
        intro s hs
        rw [mj_upI_eq]
        by_cases hsj : nI s = nI j
        · rw [if_pos hsj]
          exact mj_hasin h1 h6
        · rw [if_neg hsj]
          exact hw s (by rcases Nat.lt_or_ge s j with q | q; · exact q
                         · exact absurd (congrArg nI (show s = j by omega)) hsj)
    · simp only [s_X5_tw, if_neg h1]
      exact ⟨(by intros; trivial), (fun _ _ _ h => absurd h (by decide))⟩
theorem mj_tw_fr (cc : Nat) (u a i : Int32) (m : Nat) (hc : cc ≠ 29) (hu : 34 + 2 * u.toNatClampNeg + 1 ≠ 29) (I : mj_I) (x : Nat) (y : Int32) (hx : x ≠ 29) (h1 : x ≠ 1 ∨ (y ≠ 13)) : (s_X5_takeWay cc u a i m I).2 x y = I x y := by
  have hup : ∀ v : Int32, mj_upI I 1 13 v x y = I x y := by
    intro v
    by_cases hx1 : x = 1
    · subst hx1
      rw [mj_upI_eq, if_neg (by rcases h1 with q | q; · exact absurd rfl q
                                · exact q)]
    · rw [mj_upI_ne hx1]
  unfold s_X5_takeWay
  split
  · split
    · exact hup 0
    · rw [(mj_tw_spec cc u a i m _ hc hu m 0 _).1 x y hx]
      exact hup 0
  · simp only [s_X5_comeTo]
    exact hup _
theorem mj_tw_ok (cc : Nat) (u a i : Int32) (m : Nat) (hm : m ≤ 24) (hcc : cc = 2 ∨ cc = 10) (hu : 34 + 2 * u.toNatClampNeg + 1 ≠ 29) (I : mj_I) (h6 : (I cc 0).toInt ≤ 6) (h : (s_X5_takeWay cc u a i m I).1 = 0) : ∀ t : Nat, t < m → mj_in ((s_X5_takeWay cc u a i m I).2 29 (nI t)) 6 := by
  have hc : cc ≠ 29 := by rcases hcc with rfl | rfl <;> decide
  have hc1 : cc ≠ 1 := by rcases hcc with rfl | rfl <;> decide
  revert h
  unfold s_X5_takeWay
  split
  · split
    · intro h; exact absurd (show (-3 : Int32) = 0 from h) (by decide)
    · intro h t ht
      exact (mj_tw_spec cc u a i m _ hc hu m 0 _).2 (by omega) (by rw [mj_upI_ne hc1]; exact h6) (fun t ht => absurd ht (by omega)) h t (by omega)
  · next hf =>
    intro h
    simp only [s_X5_comeTo] at h
    exact absurd h (mj_ct hf)
def s_X5_route (cc : Nat) (p : Nat) (s : Int32) (a : Int32) (i : Int32) (n : Int32) (w : Int32) (I : mj_I) : Int32 × mj_I := if ((s_X5_isSheet s I) : Int32) = 0 then ((s_X5_refuse (-1) I).1, (s_X5_refuse (-1) I).2) else (if ((s_X5_isLane a I) : Int32) = 0 then ((s_X5_refuse (-2) I).1, (s_X5_refuse (-2) I).2) else (if ((s_X5_isRouteLength n I) : Int32) = 0 then ((s_X5_refuse (-2) I).1, (s_X5_refuse (-2) I).2) else (if ((s_X5_isRouteQuestion w I) : Int32) = 0 then ((s_X5_refuse (-2) I).1, (s_X5_refuse (-2) I).2) else (if ((s_X5_takeWay (cc) (s) a i n.toNatClampNeg I).1 : Int32) = 0 then ((s_X5_ofWay (cc) n.toNatClampNeg p w ((s_X5_takeWay (cc) (s) a i n.toNatClampNeg I).2)), (s_X5_takeWay (cc) (s) a i n.toNatClampNeg I).2) else ((s_X5_takeWay (cc) (s) a i n.toNatClampNeg I).1, (s_X5_takeWay (cc) (s) a i n.toNatClampNeg I).2)))))
set_option maxHeartbeats 8000000 in
theorem x_X5_route (l : Launch) (b base : Nat) (D : va_G) (z : mj_K × (Int32 → Int32)) (N : Nat) (cc : Nat) (p : Nat) (s : Int32) (a : Int32) (i : Int32) (n : Int32) (w : Int32) (hcc : cc = 2 ∨ cc = 10) (I : mj_I) (d r : Nat) (hl : ∀ j : Nat, j < 4 → 0 ≤ (I (34 + 2 * j) 2).toInt ∧ (I (34 + 2 * j) 2).toInt ≤ 60) (h6 : (I cc 0).toInt ≤ 6) (hp : I cc 1 = nI p) (hp3 : p ≤ 3) : mj_Rn l b base D z mj_m_X5_route 0 [.ref 1, .int s, .int a, .int i, .int n, .int w, mj_mk] [] (mj_KS N, I, mj_PP cc d r) (mj_E N (some (.int (s_X5_route cc p s a i n w I).1)) (s_X5_route cc p s a i n w I).2 (mj_PP cc d r)) := by
  rcases hcc with rfl | rfl
  · skip
    refine R_seg (φ := []) (pc' := 1) (L' := [.ref 1, .int s, .int a, .int i, .int n, .int w, mj_mk]) (st' := [.int s]) (σ' := (mj_KS N, I, mj_PP (2) d r)) 1 rfl trivial ?_
    refine R_ce (idx := 75) (mid := 88) (kind := 1) (N := N) (M' := mj_m_X5_isSheet) (As := [.int s]) (rest := []) (I := I) (P := mj_PP (2) d r) (I' := I) (P' := mj_PP (2) d r) (v := some (.int (s_X5_isSheet s I))) rfl rfl rfl mj_mc88 mj_dc88 rfl rfl rfl rfl rfl rfl (x_X5_isSheet l b base D z N s I (2) d r) ?_
    refine R_seg (φ := []) (pc' := 4) (L' := [.ref 1, .int s, .int a, .int i, .int n, .int w, mj_mk]) (st' := [.int (s_X5_isSheet s I)]) (σ' := (mj_KS N, I, mj_PP (2) d r)) 0 rfl trivial ?_
    refine R_br (q := ((s_X5_isSheet s I) : Int32) = 0) (t := 7) (f := 13) (rest := []) rfl (fun h1 => ?_) (fun h1 => ?_)
    · skip
      refine R_seg (φ := []) (pc' := 9) (L' := [.ref 1, .int s, .int a, .int i, .int n, .int w, mj_mk]) (st' := [.int (-1), .ref 1]) (σ' := (mj_KS N, I, mj_PP (2) d r)) 2 rfl trivial ?_
      refine R_ce (idx := 79) (mid := 90) (kind := 0) (N := N) (M' := mj_m_X5_refuse) (As := [.ref 1, .int (-1)]) (rest := []) (I := I) (P := mj_PP (2) d r) (I' := (s_X5_refuse (-1) I).2) (P' := mj_PP (2) d r) (v := some (.int ((s_X5_refuse (-1) I).1))) rfl rfl rfl mj_mc90 mj_dc90 rfl rfl rfl rfl rfl rfl (x_X5_refuse l b base D z N (-1) I (2) d r) ?_
      refine R_seg (φ := []) (pc' := 12) (L' := [.ref 1, .int s, .int a, .int i, .int n, .int w, mj_mk]) (st' := [.int ((s_X5_refuse (-1) I).1)]) (σ' := (mj_KS N, (s_X5_refuse (-1) I).2, mj_PP (2) d r)) 0 rfl trivial ?_
      exact R_ri rfl rfl (mj_leaf (by simp only [s_X5_route, if_pos h1, Bool.false_eq_true, ↓reduceIte, Nat.reduceAdd, Nat.reduceMul, mj_tn0, mj_tn1, mj_tn2, mj_tn3]) (by simp only [s_X5_route, if_pos h1, Bool.false_eq_true, ↓reduceIte, Nat.reduceAdd, Nat.reduceMul, mj_tn0, mj_tn1, mj_tn2, mj_tn3]))
    · skip
      refine R_seg (φ := []) (pc' := 14) (L' := [.ref 1, .int s, .int a, .int i, .int n, .int w, mj_mk]) (st' := [.int a]) (σ' := (mj_KS N, I, mj_PP (2) d r)) 1 rfl trivial ?_
      refine R_ce (idx := 83) (mid := 89) (kind := 1) (N := N) (M' := mj_m_X5_isLane) (As := [.int a]) (rest := []) (I := I) (P := mj_PP (2) d r) (I' := I) (P' := mj_PP (2) d r) (v := some (.int (s_X5_isLane a I))) rfl rfl rfl mj_mc89 mj_dc89 rfl rfl rfl rfl rfl rfl (x_X5_isLane l b base D z N a I (2) d r) ?_
      refine R_seg (φ := []) (pc' := 17) (L' := [.ref 1, .int s, .int a, .int i, .int n, .int w, mj_mk]) (st' := [.int (s_X5_isLane a I)]) (σ' := (mj_KS N, I, mj_PP (2) d r)) 0 rfl trivial ?_
      refine R_br (q := ((s_X5_isLane a I) : Int32) = 0) (t := 36) (f := 20) (rest := []) rfl (fun h2 => ?_) (fun h2 => ?_)
      · skip
        refine R_seg (φ := []) (pc' := 39) (L' := [.ref 1, .int s, .int a, .int i, .int n, .int w, mj_mk]) (st' := [.int (-2), .ref 1]) (σ' := (mj_KS N, I, mj_PP (2) d r)) 2 rfl trivial ?_
        refine R_ce (idx := 79) (mid := 90) (kind := 0) (N := N) (M' := mj_m_X5_refuse) (As := [.ref 1, .int (-2)]) (rest := []) (I := I) (P := mj_PP (2) d r) (I' := (s_X5_refuse (-2) I).2) (P' := mj_PP (2) d r) (v := some (.int ((s_X5_refuse (-2) I).1))) rfl rfl rfl mj_mc90 mj_dc90 rfl rfl rfl rfl rfl rfl (x_X5_refuse l b base D z N (-2) I (2) d r) ?_
        refine R_seg (φ := []) (pc' := 42) (L' := [.ref 1, .int s, .int a, .int i, .int n, .int w, mj_mk]) (st' := [.int ((s_X5_refuse (-2) I).1)]) (σ' := (mj_KS N, (s_X5_refuse (-2) I).2, mj_PP (2) d r)) 0 rfl trivial ?_
        exact R_ri rfl rfl (mj_leaf (by simp only [s_X5_route, if_neg h1, if_pos h2, Bool.false_eq_true, ↓reduceIte, Nat.reduceAdd, Nat.reduceMul, mj_tn0, mj_tn1, mj_tn2, mj_tn3]) (by simp only [s_X5_route, if_neg h1, if_pos h2, Bool.false_eq_true, ↓reduceIte, Nat.reduceAdd, Nat.reduceMul, mj_tn0, mj_tn1, mj_tn2, mj_tn3]))
      · skip
        refine R_seg (φ := []) (pc' := 22) (L' := [.ref 1, .int s, .int a, .int i, .int n, .int w, mj_mk]) (st' := [.int n]) (σ' := (mj_KS N, I, mj_PP (2) d r)) 1 rfl trivial ?_
        refine R_ce (idx := 137) (mid := 46) (kind := 1) (N := N) (M' := mj_m_X5_isRouteLength) (As := [.int n]) (rest := []) (I := I) (P := mj_PP (2) d r) (I' := I) (P' := mj_PP (2) d r) (v := some (.int (s_X5_isRouteLength n I))) rfl rfl rfl mj_mc46 mj_dc46 rfl rfl rfl rfl rfl rfl (x_X5_isRouteLength l b base D z N n I (2) d r) ?_
        refine R_seg (φ := []) (pc' := 25) (L' := [.ref 1, .int s, .int a, .int i, .int n, .int w, mj_mk]) (st' := [.int (s_X5_isRouteLength n I)]) (σ' := (mj_KS N, I, mj_PP (2) d r)) 0 rfl trivial ?_
        refine R_br (q := ((s_X5_isRouteLength n I) : Int32) = 0) (t := 36) (f := 28) (rest := []) rfl (fun h3 => ?_) (fun h3 => ?_)
        · skip
          refine R_seg (φ := []) (pc' := 39) (L' := [.ref 1, .int s, .int a, .int i, .int n, .int w, mj_mk]) (st' := [.int (-2), .ref 1]) (σ' := (mj_KS N, I, mj_PP (2) d r)) 2 rfl trivial ?_
          refine R_ce (idx := 79) (mid := 90) (kind := 0) (N := N) (M' := mj_m_X5_refuse) (As := [.ref 1, .int (-2)]) (rest := []) (I := I) (P := mj_PP (2) d r) (I' := (s_X5_refuse (-2) I).2) (P' := mj_PP (2) d r) (v := some (.int ((s_X5_refuse (-2) I).1))) rfl rfl rfl mj_mc90 mj_dc90 rfl rfl rfl rfl rfl rfl (x_X5_refuse l b base D z N (-2) I (2) d r) ?_
          refine R_seg (φ := []) (pc' := 42) (L' := [.ref 1, .int s, .int a, .int i, .int n, .int w, mj_mk]) (st' := [.int ((s_X5_refuse (-2) I).1)]) (σ' := (mj_KS N, (s_X5_refuse (-2) I).2, mj_PP (2) d r)) 0 rfl trivial ?_
          exact R_ri rfl rfl (mj_leaf (by simp only [s_X5_route, if_neg h1, if_neg h2, if_pos h3, Bool.false_eq_true, ↓reduceIte, Nat.reduceAdd, Nat.reduceMul, mj_tn0, mj_tn1, mj_tn2, mj_tn3]) (by simp only [s_X5_route, if_neg h1, if_neg h2, if_pos h3, Bool.false_eq_true, ↓reduceIte, Nat.reduceAdd, Nat.reduceMul, mj_tn0, mj_tn1, mj_tn2, mj_tn3]))
        · skip
          refine R_seg (φ := []) (pc' := 30) (L' := [.ref 1, .int s, .int a, .int i, .int n, .int w, mj_mk]) (st' := [.int w]) (σ' := (mj_KS N, I, mj_PP (2) d r)) 1 rfl trivial ?_
          refine R_ce (idx := 140) (mid := 47) (kind := 1) (N := N) (M' := mj_m_X5_isRouteQuestion) (As := [.int w]) (rest := []) (I := I) (P := mj_PP (2) d r) (I' := I) (P' := mj_PP (2) d r) (v := some (.int (s_X5_isRouteQuestion w I))) rfl rfl rfl mj_mc47 mj_dc47 rfl rfl rfl rfl rfl rfl (x_X5_isRouteQuestion l b base D z N w I (2) d r) ?_
          refine R_seg (φ := []) (pc' := 33) (L' := [.ref 1, .int s, .int a, .int i, .int n, .int w, mj_mk]) (st' := [.int (s_X5_isRouteQuestion w I)]) (σ' := (mj_KS N, I, mj_PP (2) d r)) 0 rfl trivial ?_
          refine R_br (q := ((s_X5_isRouteQuestion w I) : Int32) = 0) (t := 36) (f := 43) (rest := []) rfl (fun h4 => ?_) (fun h4 => ?_)
          · skip
            refine R_seg (φ := []) (pc' := 39) (L' := [.ref 1, .int s, .int a, .int i, .int n, .int w, mj_mk]) (st' := [.int (-2), .ref 1]) (σ' := (mj_KS N, I, mj_PP (2) d r)) 2 rfl trivial ?_
            refine R_ce (idx := 79) (mid := 90) (kind := 0) (N := N) (M' := mj_m_X5_refuse) (As := [.ref 1, .int (-2)]) (rest := []) (I := I) (P := mj_PP (2) d r) (I' := (s_X5_refuse (-2) I).2) (P' := mj_PP (2) d r) (v := some (.int ((s_X5_refuse (-2) I).1))) rfl rfl rfl mj_mc90 mj_dc90 rfl rfl rfl rfl rfl rfl (x_X5_refuse l b base D z N (-2) I (2) d r) ?_
            refine R_seg (φ := []) (pc' := 42) (L' := [.ref 1, .int s, .int a, .int i, .int n, .int w, mj_mk]) (st' := [.int ((s_X5_refuse (-2) I).1)]) (σ' := (mj_KS N, (s_X5_refuse (-2) I).2, mj_PP (2) d r)) 0 rfl trivial ?_
            exact R_ri rfl rfl (mj_leaf (by simp only [s_X5_route, if_neg h1, if_neg h2, if_neg h3, if_pos h4, Bool.false_eq_true, ↓reduceIte, Nat.reduceAdd, Nat.reduceMul, mj_tn0, mj_tn1, mj_tn2, mj_tn3]) (by simp only [s_X5_route, if_neg h1, if_neg h2, if_neg h3, if_pos h4, Bool.false_eq_true, ↓reduceIte, Nat.reduceAdd, Nat.reduceMul, mj_tn0, mj_tn1, mj_tn2, mj_tn3]))
          · skip
            obtain ⟨m, hm, rfl⟩ := mj_rl h3
            · skip
              refine R_seg (φ := []) (pc' := 44) (L' := [.ref 1, .int s, .int a, .int i, .int ((nI m)), .int w, mj_mk]) (st' := [.ref 1]) (σ' := (mj_KS N, I, mj_PP (2) d r)) 1 rfl trivial ?_
              rcases mj_sh4 h1 with rfl | rfl | rfl | rfl
              · skip
                refine R_seg (φ := []) (pc' := 49) (L' := [.ref 1, .int (0), .int a, .int i, .int ((nI m)), .int w, mj_mk]) (st' := [.int ((nI m)), .int i, .int a, .int (0), .ref 1]) (σ' := (mj_KS N, I, mj_PP (2) d r)) 4 rfl trivial ?_
                refine R_ce (idx := 143) (mid := 48) (kind := 0) (N := N) (M' := mj_m_X5_takeWay) (As := [.ref 1, .int (0), .int a, .int i, .int ((nI m))]) (rest := []) (I := I) (P := mj_PP (2) d r) (I' := (s_X5_takeWay (2) (0) a i m I).2) (P' := mj_PP (2) d r) (v := some (.int ((s_X5_takeWay (2) (0) a i m I).1))) rfl rfl rfl mj_mc48 mj_dc48 rfl rfl rfl rfl rfl rfl (x_X5_takeWay l b base D z N (2) (0) a i m (by decide) (by decide) I d r hm hl) ?_
                refine R_seg (φ := []) (pc' := 56) (L' := [.ref 1, .int (0), .int a, .int i, .int ((nI m)), .int w, .int ((s_X5_takeWay (2) (0) a i m I).1)]) (st' := [.int ((s_X5_takeWay (2) (0) a i m I).1)]) (σ' := (mj_KS N, (s_X5_takeWay (2) (0) a i m I).2, mj_PP (2) d r)) 2 rfl trivial ?_
                refine R_br (q := ((s_X5_takeWay (2) (0) a i m I).1 : Int32) = 0) (t := 64) (f := 59) (rest := []) rfl (fun h5 => ?_) (fun h5 => ?_)
                · skip
                  refine R_seg (φ := []) (pc' := 69) (L' := [.ref 1, .int (0), .int a, .int i, .int ((nI m)), .int w, .int ((s_X5_takeWay (2) (0) a i m I).1)]) (st' := [.int w, .int ((nI m)), .ref 1]) (σ' := (mj_KS N, (s_X5_takeWay (2) (0) a i m I).2, mj_PP (2) d r)) 3 rfl trivial ?_
                  refine R_ce (idx := 147) (mid := 49) (kind := 0) (N := N) (M' := mj_m_X5_ofWay) (As := [.ref 1, .int ((nI m)), .int w]) (rest := []) (I := (s_X5_takeWay (2) (0) a i m I).2) (P := mj_PP (2) d r) (I' := (s_X5_takeWay (2) (0) a i m I).2) (P' := mj_PP (2) d r) (v := some (.int (s_X5_ofWay (2) m p w ((s_X5_takeWay (2) (0) a i m I).2)))) rfl rfl rfl mj_mc49 mj_dc49 rfl rfl rfl rfl rfl rfl (x_X5_ofWay l b base D z N (2) m p w (by decide) ((s_X5_takeWay (2) (0) a i m I).2) d r hm (mj_tw_ok _ _ _ _ m hm (by decide) (by decide) I h6 h5) ((mj_tw_fr _ _ _ _ m (by decide) (by decide) I _ _ (by decide) (Or.inl (by decide))).trans hp) hp3) ?_
                  refine R_seg (φ := []) (pc' := 72) (L' := [.ref 1, .int (0), .int a, .int i, .int ((nI m)), .int w, .int ((s_X5_takeWay (2) (0) a i m I).1)]) (st' := [.int (s_X5_ofWay (2) m p w ((s_X5_takeWay (2) (0) a i m I).2))]) (σ' := (mj_KS N, (s_X5_takeWay (2) (0) a i m I).2, mj_PP (2) d r)) 0 rfl trivial ?_
                  exact R_ri rfl rfl (mj_leaf (by simp only [s_X5_route, mj_tnm (show m < 2147483648 by omega), if_neg h1, if_neg h2, if_neg h3, if_neg h4, if_pos h5, Bool.false_eq_true, ↓reduceIte, Nat.reduceAdd, Nat.reduceMul, mj_tn0, mj_tn1, mj_tn2, mj_tn3]) (by simp only [s_X5_route, mj_tnm (show m < 2147483648 by omega), if_neg h1, if_neg h2, if_neg h3, if_neg h4, if_pos h5, Bool.false_eq_true, ↓reduceIte, Nat.reduceAdd, Nat.reduceMul, mj_tn0, mj_tn1, mj_tn2, mj_tn3]))
                · skip
                  refine R_seg (φ := []) (pc' := 72) (L' := [.ref 1, .int (0), .int a, .int i, .int ((nI m)), .int w, .int ((s_X5_takeWay (2) (0) a i m I).1)]) (st' := [.int ((s_X5_takeWay (2) (0) a i m I).1)]) (σ' := (mj_KS N, (s_X5_takeWay (2) (0) a i m I).2, mj_PP (2) d r)) 2 rfl trivial ?_
                  exact R_ri rfl rfl (mj_leaf (by simp only [s_X5_route, mj_tnm (show m < 2147483648 by omega), if_neg h1, if_neg h2, if_neg h3, if_neg h4, if_neg h5, Bool.false_eq_true, ↓reduceIte, Nat.reduceAdd, Nat.reduceMul, mj_tn0, mj_tn1, mj_tn2, mj_tn3]) (by simp only [s_X5_route, mj_tnm (show m < 2147483648 by omega), if_neg h1, if_neg h2, if_neg h3, if_neg h4, if_neg h5, Bool.false_eq_true, ↓reduceIte, Nat.reduceAdd, Nat.reduceMul, mj_tn0, mj_tn1, mj_tn2, mj_tn3]))
              · skip
                refine R_seg (φ := []) (pc' := 49) (L' := [.ref 1, .int (1), .int a, .int i, .int ((nI m)), .int w, mj_mk]) (st' := [.int ((nI m)), .int i, .int a, .int (1), .ref 1]) (σ' := (mj_KS N, I, mj_PP (2) d r)) 4 rfl trivial ?_
                refine R_ce (idx := 143) (mid := 48) (kind := 0) (N := N) (M' := mj_m_X5_takeWay) (As := [.ref 1, .int (1), .int a, .int i, .int ((nI m))]) (rest := []) (I := I) (P := mj_PP (2) d r) (I' := (s_X5_takeWay (2) (1) a i m I).2) (P' := mj_PP (2) d r) (v := some (.int ((s_X5_takeWay (2) (1) a i m I).1))) rfl rfl rfl mj_mc48 mj_dc48 rfl rfl rfl rfl rfl rfl (x_X5_takeWay l b base D z N (2) (1) a i m (by decide) (by decide) I d r hm hl) ?_
                refine R_seg (φ := []) (pc' := 56) (L' := [.ref 1, .int (1), .int a, .int i, .int ((nI m)), .int w, .int ((s_X5_takeWay (2) (1) a i m I).1)]) (st' := [.int ((s_X5_takeWay (2) (1) a i m I).1)]) (σ' := (mj_KS N, (s_X5_takeWay (2) (1) a i m I).2, mj_PP (2) d r)) 2 rfl trivial ?_
                refine R_br (q := ((s_X5_takeWay (2) (1) a i m I).1 : Int32) = 0) (t := 64) (f := 59) (rest := []) rfl (fun h5 => ?_) (fun h5 => ?_)
                · skip
                  refine R_seg (φ := []) (pc' := 69) (L' := [.ref 1, .int (1), .int a, .int i, .int ((nI m)), .int w, .int ((s_X5_takeWay (2) (1) a i m I).1)]) (st' := [.int w, .int ((nI m)), .ref 1]) (σ' := (mj_KS N, (s_X5_takeWay (2) (1) a i m I).2, mj_PP (2) d r)) 3 rfl trivial ?_
                  refine R_ce (idx := 147) (mid := 49) (kind := 0) (N := N) (M' := mj_m_X5_ofWay) (As := [.ref 1, .int ((nI m)), .int w]) (rest := []) (I := (s_X5_takeWay (2) (1) a i m I).2) (P := mj_PP (2) d r) (I' := (s_X5_takeWay (2) (1) a i m I).2) (P' := mj_PP (2) d r) (v := some (.int (s_X5_ofWay (2) m p w ((s_X5_takeWay (2) (1) a i m I).2)))) rfl rfl rfl mj_mc49 mj_dc49 rfl rfl rfl rfl rfl rfl (x_X5_ofWay l b base D z N (2) m p w (by decide) ((s_X5_takeWay (2) (1) a i m I).2) d r hm (mj_tw_ok _ _ _ _ m hm (by decide) (by decide) I h6 h5) ((mj_tw_fr _ _ _ _ m (by decide) (by decide) I _ _ (by decide) (Or.inl (by decide))).trans hp) hp3) ?_
                  refine R_seg (φ := []) (pc' := 72) (L' := [.ref 1, .int (1), .int a, .int i, .int ((nI m)), .int w, .int ((s_X5_takeWay (2) (1) a i m I).1)]) (st' := [.int (s_X5_ofWay (2) m p w ((s_X5_takeWay (2) (1) a i m I).2))]) (σ' := (mj_KS N, (s_X5_takeWay (2) (1) a i m I).2, mj_PP (2) d r)) 0 rfl trivial ?_
                  exact R_ri rfl rfl (mj_leaf (by simp only [s_X5_route, mj_tnm (show m < 2147483648 by omega), if_neg h1, if_neg h2, if_neg h3, if_neg h4, if_pos h5, Bool.false_eq_true, ↓reduceIte, Nat.reduceAdd, Nat.reduceMul, mj_tn0, mj_tn1, mj_tn2, mj_tn3]) (by simp only [s_X5_route, mj_tnm (show m < 2147483648 by omega), if_neg h1, if_neg h2, if_neg h3, if_neg h4, if_pos h5, Bool.false_eq_true, ↓reduceIte, Nat.reduceAdd, Nat.reduceMul, mj_tn0, mj_tn1, mj_tn2, mj_tn3]))
                · skip
                  refine R_seg (φ := []) (pc' := 72) (L' := [.ref 1, .int (1), .int a, .int i, .int ((nI m)), .int w, .int ((s_X5_takeWay (2) (1) a i m I).1)]) (st' := [.int ((s_X5_takeWay (2) (1) a i m I).1)]) (σ' := (mj_KS N, (s_X5_takeWay (2) (1) a i m I).2, mj_PP (2) d r)) 2 rfl trivial ?_
                  exact R_ri rfl rfl (mj_leaf (by simp only [s_X5_route, mj_tnm (show m < 2147483648 by omega), if_neg h1, if_neg h2, if_neg h3, if_neg h4, if_neg h5, Bool.false_eq_true, ↓reduceIte, Nat.reduceAdd, Nat.reduceMul, mj_tn0, mj_tn1, mj_tn2, mj_tn3]) (by simp only [s_X5_route, mj_tnm (show m < 2147483648 by omega), if_neg h1, if_neg h2, if_neg h3, if_neg h4, if_neg h5, Bool.false_eq_true, ↓reduceIte, Nat.reduceAdd, Nat.reduceMul, mj_tn0, mj_tn1, mj_tn2, mj_tn3]))
              · skip
                refine R_seg (φ := []) (pc' := 49) (L' := [.ref 1, .int (2), .int a, .int i, .int ((nI m)), .int w, mj_mk]) (st' := [.int ((nI m)), .int i, .int a, .int (2), .ref 1]) (σ' := (mj_KS N, I, mj_PP (2) d r)) 4 rfl trivial ?_
                refine R_ce (idx := 143) (mid := 48) (kind := 0) (N := N) (M' := mj_m_X5_takeWay) (As := [.ref 1, .int (2), .int a, .int i, .int ((nI m))]) (rest := []) (I := I) (P := mj_PP (2) d r) (I' := (s_X5_takeWay (2) (2) a i m I).2) (P' := mj_PP (2) d r) (v := some (.int ((s_X5_takeWay (2) (2) a i m I).1))) rfl rfl rfl mj_mc48 mj_dc48 rfl rfl rfl rfl rfl rfl (x_X5_takeWay l b base D z N (2) (2) a i m (by decide) (by decide) I d r hm hl) ?_
                refine R_seg (φ := []) (pc' := 56) (L' := [.ref 1, .int (2), .int a, .int i, .int ((nI m)), .int w, .int ((s_X5_takeWay (2) (2) a i m I).1)]) (st' := [.int ((s_X5_takeWay (2) (2) a i m I).1)]) (σ' := (mj_KS N, (s_X5_takeWay (2) (2) a i m I).2, mj_PP (2) d r)) 2 rfl trivial ?_
                refine R_br (q := ((s_X5_takeWay (2) (2) a i m I).1 : Int32) = 0) (t := 64) (f := 59) (rest := []) rfl (fun h5 => ?_) (fun h5 => ?_)
                · skip
                  refine R_seg (φ := []) (pc' := 69) (L' := [.ref 1, .int (2), .int a, .int i, .int ((nI m)), .int w, .int ((s_X5_takeWay (2) (2) a i m I).1)]) (st' := [.int w, .int ((nI m)), .ref 1]) (σ' := (mj_KS N, (s_X5_takeWay (2) (2) a i m I).2, mj_PP (2) d r)) 3 rfl trivial ?_
                  refine R_ce (idx := 147) (mid := 49) (kind := 0) (N := N) (M' := mj_m_X5_ofWay) (As := [.ref 1, .int ((nI m)), .int w]) (rest := []) (I := (s_X5_takeWay (2) (2) a i m I).2) (P := mj_PP (2) d r) (I' := (s_X5_takeWay (2) (2) a i m I).2) (P' := mj_PP (2) d r) (v := some (.int (s_X5_ofWay (2) m p w ((s_X5_takeWay (2) (2) a i m I).2)))) rfl rfl rfl mj_mc49 mj_dc49 rfl rfl rfl rfl rfl rfl (x_X5_ofWay l b base D z N (2) m p w (by decide) ((s_X5_takeWay (2) (2) a i m I).2) d r hm (mj_tw_ok _ _ _ _ m hm (by decide) (by decide) I h6 h5) ((mj_tw_fr _ _ _ _ m (by decide) (by decide) I _ _ (by decide) (Or.inl (by decide))).trans hp) hp3) ?_
                  refine R_seg (φ := []) (pc' := 72) (L' := [.ref 1, .int (2), .int a, .int i, .int ((nI m)), .int w, .int ((s_X5_takeWay (2) (2) a i m I).1)]) (st' := [.int (s_X5_ofWay (2) m p w ((s_X5_takeWay (2) (2) a i m I).2))]) (σ' := (mj_KS N, (s_X5_takeWay (2) (2) a i m I).2, mj_PP (2) d r)) 0 rfl trivial ?_
                  exact R_ri rfl rfl (mj_leaf (by simp only [s_X5_route, mj_tnm (show m < 2147483648 by omega), if_neg h1, if_neg h2, if_neg h3, if_neg h4, if_pos h5, Bool.false_eq_true, ↓reduceIte, Nat.reduceAdd, Nat.reduceMul, mj_tn0, mj_tn1, mj_tn2, mj_tn3]) (by simp only [s_X5_route, mj_tnm (show m < 2147483648 by omega), if_neg h1, if_neg h2, if_neg h3, if_neg h4, if_pos h5, Bool.false_eq_true, ↓reduceIte, Nat.reduceAdd, Nat.reduceMul, mj_tn0, mj_tn1, mj_tn2, mj_tn3]))
                · skip
                  refine R_seg (φ := []) (pc' := 72) (L' := [.ref 1, .int (2), .int a, .int i, .int ((nI m)), .int w, .int ((s_X5_takeWay (2) (2) a i m I).1)]) (st' := [.int ((s_X5_takeWay (2) (2) a i m I).1)]) (σ' := (mj_KS N, (s_X5_takeWay (2) (2) a i m I).2, mj_PP (2) d r)) 2 rfl trivial ?_
                  exact R_ri rfl rfl (mj_leaf (by simp only [s_X5_route, mj_tnm (show m < 2147483648 by omega), if_neg h1, if_neg h2, if_neg h3, if_neg h4, if_neg h5, Bool.false_eq_true, ↓reduceIte, Nat.reduceAdd, Nat.reduceMul, mj_tn0, mj_tn1, mj_tn2, mj_tn3]) (by simp only [s_X5_route, mj_tnm (show m < 2147483648 by omega), if_neg h1, if_neg h2, if_neg h3, if_neg h4, if_neg h5, Bool.false_eq_true, ↓reduceIte, Nat.reduceAdd, Nat.reduceMul, mj_tn0, mj_tn1, mj_tn2, mj_tn3]))
              · skip
                refine R_seg (φ := []) (pc' := 49) (L' := [.ref 1, .int (3), .int a, .int i, .int ((nI m)), .int w, mj_mk]) (st' := [.int ((nI m)), .int i, .int a, .int (3), .ref 1]) (σ' := (mj_KS N, I, mj_PP (2) d r)) 4 rfl trivial ?_
                refine R_ce (idx := 143) (mid := 48) (kind := 0) (N := N) (M' := mj_m_X5_takeWay) (As := [.ref 1, .int (3), .int a, .int i, .int ((nI m))]) (rest := []) (I := I) (P := mj_PP (2) d r) (I' := (s_X5_takeWay (2) (3) a i m I).2) (P' := mj_PP (2) d r) (v := some (.int ((s_X5_takeWay (2) (3) a i m I).1))) rfl rfl rfl mj_mc48 mj_dc48 rfl rfl rfl rfl rfl rfl (x_X5_takeWay l b base D z N (2) (3) a i m (by decide) (by decide) I d r hm hl) ?_
                refine R_seg (φ := []) (pc' := 56) (L' := [.ref 1, .int (3), .int a, .int i, .int ((nI m)), .int w, .int ((s_X5_takeWay (2) (3) a i m I).1)]) (st' := [.int ((s_X5_takeWay (2) (3) a i m I).1)]) (σ' := (mj_KS N, (s_X5_takeWay (2) (3) a i m I).2, mj_PP (2) d r)) 2 rfl trivial ?_
                refine R_br (q := ((s_X5_takeWay (2) (3) a i m I).1 : Int32) = 0) (t := 64) (f := 59) (rest := []) rfl (fun h5 => ?_) (fun h5 => ?_)
                · skip
                  refine R_seg (φ := []) (pc' := 69) (L' := [.ref 1, .int (3), .int a, .int i, .int ((nI m)), .int w, .int ((s_X5_takeWay (2) (3) a i m I).1)]) (st' := [.int w, .int ((nI m)), .ref 1]) (σ' := (mj_KS N, (s_X5_takeWay (2) (3) a i m I).2, mj_PP (2) d r)) 3 rfl trivial ?_
                  refine R_ce (idx := 147) (mid := 49) (kind := 0) (N := N) (M' := mj_m_X5_ofWay) (As := [.ref 1, .int ((nI m)), .int w]) (rest := []) (I := (s_X5_takeWay (2) (3) a i m I).2) (P := mj_PP (2) d r) (I' := (s_X5_takeWay (2) (3) a i m I).2) (P' := mj_PP (2) d r) (v := some (.int (s_X5_ofWay (2) m p w ((s_X5_takeWay (2) (3) a i m I).2)))) rfl rfl rfl mj_mc49 mj_dc49 rfl rfl rfl rfl rfl rfl (x_X5_ofWay l b base D z N (2) m p w (by decide) ((s_X5_takeWay (2) (3) a i m I).2) d r hm (mj_tw_ok _ _ _ _ m hm (by decide) (by decide) I h6 h5) ((mj_tw_fr _ _ _ _ m (by decide) (by decide) I _ _ (by decide) (Or.inl (by decide))).trans hp) hp3) ?_
                  refine R_seg (φ := []) (pc' := 72) (L' := [.ref 1, .int (3), .int a, .int i, .int ((nI m)), .int w, .int ((s_X5_takeWay (2) (3) a i m I).1)]) (st' := [.int (s_X5_ofWay (2) m p w ((s_X5_takeWay (2) (3) a i m I).2))]) (σ' := (mj_KS N, (s_X5_takeWay (2) (3) a i m I).2, mj_PP (2) d r)) 0 rfl trivial ?_
                  exact R_ri rfl rfl (mj_leaf (by simp only [s_X5_route, mj_tnm (show m < 2147483648 by omega), if_neg h1, if_neg h2, if_neg h3, if_neg h4, if_pos h5, Bool.false_eq_true, ↓reduceIte, Nat.reduceAdd, Nat.reduceMul, mj_tn0, mj_tn1, mj_tn2, mj_tn3]) (by simp only [s_X5_route, mj_tnm (show m < 2147483648 by omega), if_neg h1, if_neg h2, if_neg h3, if_neg h4, if_pos h5, Bool.false_eq_true, ↓reduceIte, Nat.reduceAdd, Nat.reduceMul, mj_tn0, mj_tn1, mj_tn2, mj_tn3]))
                · skip
                  refine R_seg (φ := []) (pc' := 72) (L' := [.ref 1, .int (3), .int a, .int i, .int ((nI m)), .int w, .int ((s_X5_takeWay (2) (3) a i m I).1)]) (st' := [.int ((s_X5_takeWay (2) (3) a i m I).1)]) (σ' := (mj_KS N, (s_X5_takeWay (2) (3) a i m I).2, mj_PP (2) d r)) 2 rfl trivial ?_
                  exact R_ri rfl rfl (mj_leaf (by simp only [s_X5_route, mj_tnm (show m < 2147483648 by omega), if_neg h1, if_neg h2, if_neg h3, if_neg h4, if_neg h5, Bool.false_eq_true, ↓reduceIte, Nat.reduceAdd, Nat.reduceMul, mj_tn0, mj_tn1, mj_tn2, mj_tn3]) (by simp only [s_X5_route, mj_tnm (show m < 2147483648 by omega), if_neg h1, if_neg h2, if_neg h3, if_neg h4, if_neg h5, Bool.false_eq_true, ↓reduceIte, Nat.reduceAdd, Nat.reduceMul, mj_tn0, mj_tn1, mj_tn2, mj_tn3]))
  · skip
    refine R_seg (φ := []) (pc' := 1) (L' := [.ref 1, .int s, .int a, .int i, .int n, .int w, mj_mk]) (st' := [.int s]) (σ' := (mj_KS N, I, mj_PP (10) d r)) 1 rfl trivial ?_
    refine R_ce (idx := 75) (mid := 88) (kind := 1) (N := N) (M' := mj_m_X5_isSheet) (As := [.int s]) (rest := []) (I := I) (P := mj_PP (10) d r) (I' := I) (P' := mj_PP (10) d r) (v := some (.int (s_X5_isSheet s I))) rfl rfl rfl mj_mc88 mj_dc88 rfl rfl rfl rfl rfl rfl (x_X5_isSheet l b base D z N s I (10) d r) ?_
    refine R_seg (φ := []) (pc' := 4) (L' := [.ref 1, .int s, .int a, .int i, .int n, .int w, mj_mk]) (st' := [.int (s_X5_isSheet s I)]) (σ' := (mj_KS N, I, mj_PP (10) d r)) 0 rfl trivial ?_
    refine R_br (q := ((s_X5_isSheet s I) : Int32) = 0) (t := 7) (f := 13) (rest := []) rfl (fun h1 => ?_) (fun h1 => ?_)
    · skip
      refine R_seg (φ := []) (pc' := 9) (L' := [.ref 1, .int s, .int a, .int i, .int n, .int w, mj_mk]) (st' := [.int (-1), .ref 1]) (σ' := (mj_KS N, I, mj_PP (10) d r)) 2 rfl trivial ?_
      refine R_ce (idx := 79) (mid := 90) (kind := 0) (N := N) (M' := mj_m_X5_refuse) (As := [.ref 1, .int (-1)]) (rest := []) (I := I) (P := mj_PP (10) d r) (I' := (s_X5_refuse (-1) I).2) (P' := mj_PP (10) d r) (v := some (.int ((s_X5_refuse (-1) I).1))) rfl rfl rfl mj_mc90 mj_dc90 rfl rfl rfl rfl rfl rfl (x_X5_refuse l b base D z N (-1) I (10) d r) ?_
      refine R_seg (φ := []) (pc' := 12) (L' := [.ref 1, .int s, .int a, .int i, .int n, .int w, mj_mk]) (st' := [.int ((s_X5_refuse (-1) I).1)]) (σ' := (mj_KS N, (s_X5_refuse (-1) I).2, mj_PP (10) d r)) 0 rfl trivial ?_
      exact R_ri rfl rfl (mj_leaf (by simp only [s_X5_route, if_pos h1, Bool.false_eq_true, ↓reduceIte, Nat.reduceAdd, Nat.reduceMul, mj_tn0, mj_tn1, mj_tn2, mj_tn3]) (by simp only [s_X5_route, if_pos h1, Bool.false_eq_true, ↓reduceIte, Nat.reduceAdd, Nat.reduceMul, mj_tn0, mj_tn1, mj_tn2, mj_tn3]))
    · skip
      refine R_seg (φ := []) (pc' := 14) (L' := [.ref 1, .int s, .int a, .int i, .int n, .int w, mj_mk]) (st' := [.int a]) (σ' := (mj_KS N, I, mj_PP (10) d r)) 1 rfl trivial ?_
      refine R_ce (idx := 83) (mid := 89) (kind := 1) (N := N) (M' := mj_m_X5_isLane) (As := [.int a]) (rest := []) (I := I) (P := mj_PP (10) d r) (I' := I) (P' := mj_PP (10) d r) (v := some (.int (s_X5_isLane a I))) rfl rfl rfl mj_mc89 mj_dc89 rfl rfl rfl rfl rfl rfl (x_X5_isLane l b base D z N a I (10) d r) ?_
      refine R_seg (φ := []) (pc' := 17) (L' := [.ref 1, .int s, .int a, .int i, .int n, .int w, mj_mk]) (st' := [.int (s_X5_isLane a I)]) (σ' := (mj_KS N, I, mj_PP (10) d r)) 0 rfl trivial ?_
      refine R_br (q := ((s_X5_isLane a I) : Int32) = 0) (t := 36) (f := 20) (rest := []) rfl (fun h2 => ?_) (fun h2 => ?_)
      · skip
        refine R_seg (φ := []) (pc' := 39) (L' := [.ref 1, .int s, .int a, .int i, .int n, .int w, mj_mk]) (st' := [.int (-2), .ref 1]) (σ' := (mj_KS N, I, mj_PP (10) d r)) 2 rfl trivial ?_
        refine R_ce (idx := 79) (mid := 90) (kind := 0) (N := N) (M' := mj_m_X5_refuse) (As := [.ref 1, .int (-2)]) (rest := []) (I := I) (P := mj_PP (10) d r) (I' := (s_X5_refuse (-2) I).2) (P' := mj_PP (10) d r) (v := some (.int ((s_X5_refuse (-2) I).1))) rfl rfl rfl mj_mc90 mj_dc90 rfl rfl rfl rfl rfl rfl (x_X5_refuse l b base D z N (-2) I (10) d r) ?_
        refine R_seg (φ := []) (pc' := 42) (L' := [.ref 1, .int s, .int a, .int i, .int n, .int w, mj_mk]) (st' := [.int ((s_X5_refuse (-2) I).1)]) (σ' := (mj_KS N, (s_X5_refuse (-2) I).2, mj_PP (10) d r)) 0 rfl trivial ?_
        exact R_ri rfl rfl (mj_leaf (by simp only [s_X5_route, if_neg h1, if_pos h2, Bool.false_eq_true, ↓reduceIte, Nat.reduceAdd, Nat.reduceMul, mj_tn0, mj_tn1, mj_tn2, mj_tn3]) (by simp only [s_X5_route, if_neg h1, if_pos h2, Bool.false_eq_true, ↓reduceIte, Nat.reduceAdd, Nat.reduceMul, mj_tn0, mj_tn1, mj_tn2, mj_tn3]))
      · skip
        refine R_seg (φ := []) (pc' := 22) (L' := [.ref 1, .int s, .int a, .int i, .int n, .int w, mj_mk]) (st' := [.int n]) (σ' := (mj_KS N, I, mj_PP (10) d r)) 1 rfl trivial ?_
        refine R_ce (idx := 137) (mid := 46) (kind := 1) (N := N) (M' := mj_m_X5_isRouteLength) (As := [.int n]) (rest := []) (I := I) (P := mj_PP (10) d r) (I' := I) (P' := mj_PP (10) d r) (v := some (.int (s_X5_isRouteLength n I))) rfl rfl rfl mj_mc46 mj_dc46 rfl rfl rfl rfl rfl rfl (x_X5_isRouteLength l b base D z N n I (10) d r) ?_
        refine R_seg (φ := []) (pc' := 25) (L' := [.ref 1, .int s, .int a, .int i, .int n, .int w, mj_mk]) (st' := [.int (s_X5_isRouteLength n I)]) (σ' := (mj_KS N, I, mj_PP (10) d r)) 0 rfl trivial ?_
        refine R_br (q := ((s_X5_isRouteLength n I) : Int32) = 0) (t := 36) (f := 28) (rest := []) rfl (fun h3 => ?_) (fun h3 => ?_)
        · skip
          refine R_seg (φ := []) (pc' := 39) (L' := [.ref 1, .int s, .int a, .int i, .int n, .int w, mj_mk]) (st' := [.int (-2), .ref 1]) (σ' := (mj_KS N, I, mj_PP (10) d r)) 2 rfl trivial ?_
          refine R_ce (idx := 79) (mid := 90) (kind := 0) (N := N) (M' := mj_m_X5_refuse) (As := [.ref 1, .int (-2)]) (rest := []) (I := I) (P := mj_PP (10) d r) (I' := (s_X5_refuse (-2) I).2) (P' := mj_PP (10) d r) (v := some (.int ((s_X5_refuse (-2) I).1))) rfl rfl rfl mj_mc90 mj_dc90 rfl rfl rfl rfl rfl rfl (x_X5_refuse l b base D z N (-2) I (10) d r) ?_
          refine R_seg (φ := []) (pc' := 42) (L' := [.ref 1, .int s, .int a, .int i, .int n, .int w, mj_mk]) (st' := [.int ((s_X5_refuse (-2) I).1)]) (σ' := (mj_KS N, (s_X5_refuse (-2) I).2, mj_PP (10) d r)) 0 rfl trivial ?_
          exact R_ri rfl rfl (mj_leaf (by simp only [s_X5_route, if_neg h1, if_neg h2, if_pos h3, Bool.false_eq_true, ↓reduceIte, Nat.reduceAdd, Nat.reduceMul, mj_tn0, mj_tn1, mj_tn2, mj_tn3]) (by simp only [s_X5_route, if_neg h1, if_neg h2, if_pos h3, Bool.false_eq_true, ↓reduceIte, Nat.reduceAdd, Nat.reduceMul, mj_tn0, mj_tn1, mj_tn2, mj_tn3]))
        · skip
          refine R_seg (φ := []) (pc' := 30) (L' := [.ref 1, .int s, .int a, .int i, .int n, .int w, mj_mk]) (st' := [.int w]) (σ' := (mj_KS N, I, mj_PP (10) d r)) 1 rfl trivial ?_
          refine R_ce (idx := 140) (mid := 47) (kind := 1) (N := N) (M' := mj_m_X5_isRouteQuestion) (As := [.int w]) (rest := []) (I := I) (P := mj_PP (10) d r) (I' := I) (P' := mj_PP (10) d r) (v := some (.int (s_X5_isRouteQuestion w I))) rfl rfl rfl mj_mc47 mj_dc47 rfl rfl rfl rfl rfl rfl (x_X5_isRouteQuestion l b base D z N w I (10) d r) ?_
          refine R_seg (φ := []) (pc' := 33) (L' := [.ref 1, .int s, .int a, .int i, .int n, .int w, mj_mk]) (st' := [.int (s_X5_isRouteQuestion w I)]) (σ' := (mj_KS N, I, mj_PP (10) d r)) 0 rfl trivial ?_
          refine R_br (q := ((s_X5_isRouteQuestion w I) : Int32) = 0) (t := 36) (f := 43) (rest := []) rfl (fun h4 => ?_) (fun h4 => ?_)
          · skip
            refine R_seg (φ := []) (pc' := 39) (L' := [.ref 1, .int s, .int a, .int i, .int n, .int w, mj_mk]) (st' := [.int (-2), .ref 1]) (σ' := (mj_KS N, I, mj_PP (10) d r)) 2 rfl trivial ?_
            refine R_ce (idx := 79) (mid := 90) (kind := 0) (N := N) (M' := mj_m_X5_refuse) (As := [.ref 1, .int (-2)]) (rest := []) (I := I) (P := mj_PP (10) d r) (I' := (s_X5_refuse (-2) I).2) (P' := mj_PP (10) d r) (v := some (.int ((s_X5_refuse (-2) I).1))) rfl rfl rfl mj_mc90 mj_dc90 rfl rfl rfl rfl rfl rfl (x_X5_refuse l b base D z N (-2) I (10) d r) ?_
            refine R_seg (φ := []) (pc' := 42) (L' := [.ref 1, .int s, .int a, .int i, .int n, .int w, mj_mk]) (st' := [.int ((s_X5_refuse (-2) I).1)]) (σ' := (mj_KS N, (s_X5_refuse (-2) I).2, mj_PP (10) d r)) 0 rfl trivial ?_
            exact R_ri rfl rfl (mj_leaf (by simp only [s_X5_route, if_neg h1, if_neg h2, if_neg h3, if_pos h4, Bool.false_eq_true, ↓reduceIte, Nat.reduceAdd, Nat.reduceMul, mj_tn0, mj_tn1, mj_tn2, mj_tn3]) (by simp only [s_X5_route, if_neg h1, if_neg h2, if_neg h3, if_pos h4, Bool.false_eq_true, ↓reduceIte, Nat.reduceAdd, Nat.reduceMul, mj_tn0, mj_tn1, mj_tn2, mj_tn3]))
          · skip
            obtain ⟨m, hm, rfl⟩ := mj_rl h3
            · skip
              refine R_seg (φ := []) (pc' := 44) (L' := [.ref 1, .int s, .int a, .int i, .int ((nI m)), .int w, mj_mk]) (st' := [.ref 1]) (σ' := (mj_KS N, I, mj_PP (10) d r)) 1 rfl trivial ?_
              rcases mj_sh4 h1 with rfl | rfl | rfl | rfl
              · skip
                refine R_seg (φ := []) (pc' := 49) (L' := [.ref 1, .int (0), .int a, .int i, .int ((nI m)), .int w, mj_mk]) (st' := [.int ((nI m)), .int i, .int a, .int (0), .ref 1]) (σ' := (mj_KS N, I, mj_PP (10) d r)) 4 rfl trivial ?_
                refine R_ce (idx := 143) (mid := 48) (kind := 0) (N := N) (M' := mj_m_X5_takeWay) (As := [.ref 1, .int (0), .int a, .int i, .int ((nI m))]) (rest := []) (I := I) (P := mj_PP (10) d r) (I' := (s_X5_takeWay (10) (0) a i m I).2) (P' := mj_PP (10) d r) (v := some (.int ((s_X5_takeWay (10) (0) a i m I).1))) rfl rfl rfl mj_mc48 mj_dc48 rfl rfl rfl rfl rfl rfl (x_X5_takeWay l b base D z N (10) (0) a i m (by decide) (by decide) I d r hm hl) ?_
                refine R_seg (φ := []) (pc' := 56) (L' := [.ref 1, .int (0), .int a, .int i, .int ((nI m)), .int w, .int ((s_X5_takeWay (10) (0) a i m I).1)]) (st' := [.int ((s_X5_takeWay (10) (0) a i m I).1)]) (σ' := (mj_KS N, (s_X5_takeWay (10) (0) a i m I).2, mj_PP (10) d r)) 2 rfl trivial ?_
                refine R_br (q := ((s_X5_takeWay (10) (0) a i m I).1 : Int32) = 0) (t := 64) (f := 59) (rest := []) rfl (fun h5 => ?_) (fun h5 => ?_)
                · skip
                  refine R_seg (φ := []) (pc' := 69) (L' := [.ref 1, .int (0), .int a, .int i, .int ((nI m)), .int w, .int ((s_X5_takeWay (10) (0) a i m I).1)]) (st' := [.int w, .int ((nI m)), .ref 1]) (σ' := (mj_KS N, (s_X5_takeWay (10) (0) a i m I).2, mj_PP (10) d r)) 3 rfl trivial ?_
                  refine R_ce (idx := 147) (mid := 49) (kind := 0) (N := N) (M' := mj_m_X5_ofWay) (As := [.ref 1, .int ((nI m)), .int w]) (rest := []) (I := (s_X5_takeWay (10) (0) a i m I).2) (P := mj_PP (10) d r) (I' := (s_X5_takeWay (10) (0) a i m I).2) (P' := mj_PP (10) d r) (v := some (.int (s_X5_ofWay (10) m p w ((s_X5_takeWay (10) (0) a i m I).2)))) rfl rfl rfl mj_mc49 mj_dc49 rfl rfl rfl rfl rfl rfl (x_X5_ofWay l b base D z N (10) m p w (by decide) ((s_X5_takeWay (10) (0) a i m I).2) d r hm (mj_tw_ok _ _ _ _ m hm (by decide) (by decide) I h6 h5) ((mj_tw_fr _ _ _ _ m (by decide) (by decide) I _ _ (by decide) (Or.inl (by decide))).trans hp) hp3) ?_
                  refine R_seg (φ := []) (pc' := 72) (L' := [.ref 1, .int (0), .int a, .int i, .int ((nI m)), .int w, .int ((s_X5_takeWay (10) (0) a i m I).1)]) (st' := [.int (s_X5_ofWay (10) m p w ((s_X5_takeWay (10) (0) a i m I).2))]) (σ' := (mj_KS N, (s_X5_takeWay (10) (0) a i m I).2, mj_PP (10) d r)) 0 rfl trivial ?_
                  exact R_ri rfl rfl (mj_leaf (by simp only [s_X5_route, mj_tnm (show m < 2147483648 by omega), if_neg h1, if_neg h2, if_neg h3, if_neg h4, if_pos h5, Bool.false_eq_true, ↓reduceIte, Nat.reduceAdd, Nat.reduceMul, mj_tn0, mj_tn1, mj_tn2, mj_tn3]) (by simp only [s_X5_route, mj_tnm (show m < 2147483648 by omega), if_neg h1, if_neg h2, if_neg h3, if_neg h4, if_pos h5, Bool.false_eq_true, ↓reduceIte, Nat.reduceAdd, Nat.reduceMul, mj_tn0, mj_tn1, mj_tn2, mj_tn3]))
                · skip
                  refine R_seg (φ := []) (pc' := 72) (L' := [.ref 1, .int (0), .int a, .int i, .int ((nI m)), .int w, .int ((s_X5_takeWay (10) (0) a i m I).1)]) (st' := [.int ((s_X5_takeWay (10) (0) a i m I).1)]) (σ' := (mj_KS N, (s_X5_takeWay (10) (0) a i m I).2, mj_PP (10) d r)) 2 rfl trivial ?_
                  exact R_ri rfl rfl (mj_leaf (by simp only [s_X5_route, mj_tnm (show m < 2147483648 by omega), if_neg h1, if_neg h2, if_neg h3, if_neg h4, if_neg h5, Bool.false_eq_true, ↓reduceIte, Nat.reduceAdd, Nat.reduceMul, mj_tn0, mj_tn1, mj_tn2, mj_tn3]) (by simp only [s_X5_route, mj_tnm (show m < 2147483648 by omega), if_neg h1, if_neg h2, if_neg h3, if_neg h4, if_neg h5, Bool.false_eq_true, ↓reduceIte, Nat.reduceAdd, Nat.reduceMul, mj_tn0, mj_tn1, mj_tn2, mj_tn3]))
              · skip
                refine R_seg (φ := []) (pc' := 49) (L' := [.ref 1, .int (1), .int a, .int i, .int ((nI m)), .int w, mj_mk]) (st' := [.int ((nI m)), .int i, .int a, .int (1), .ref 1]) (σ' := (mj_KS N, I, mj_PP (10) d r)) 4 rfl trivial ?_
                refine R_ce (idx := 143) (mid := 48) (kind := 0) (N := N) (M' := mj_m_X5_takeWay) (As := [.ref 1, .int (1), .int a, .int i, .int ((nI m))]) (rest := []) (I := I) (P := mj_PP (10) d r) (I' := (s_X5_takeWay (10) (1) a i m I).2) (P' := mj_PP (10) d r) (v := some (.int ((s_X5_takeWay (10) (1) a i m I).1))) rfl rfl rfl mj_mc48 mj_dc48 rfl rfl rfl rfl rfl rfl (x_X5_takeWay l b base D z N (10) (1) a i m (by decide) (by decide) I d r hm hl) ?_
                refine R_seg (φ := []) (pc' := 56) (L' := [.ref 1, .int (1), .int a, .int i, .int ((nI m)), .int w, .int ((s_X5_takeWay (10) (1) a i m I).1)]) (st' := [.int ((s_X5_takeWay (10) (1) a i m I).1)]) (σ' := (mj_KS N, (s_X5_takeWay (10) (1) a i m I).2, mj_PP (10) d r)) 2 rfl trivial ?_
                refine R_br (q := ((s_X5_takeWay (10) (1) a i m I).1 : Int32) = 0) (t := 64) (f := 59) (rest := []) rfl (fun h5 => ?_) (fun h5 => ?_)
                · skip
                  refine R_seg (φ := []) (pc' := 69) (L' := [.ref 1, .int (1), .int a, .int i, .int ((nI m)), .int w, .int ((s_X5_takeWay (10) (1) a i m I).1)]) (st' := [.int w, .int ((nI m)), .ref 1]) (σ' := (mj_KS N, (s_X5_takeWay (10) (1) a i m I).2, mj_PP (10) d r)) 3 rfl trivial ?_
                  refine R_ce (idx := 147) (mid := 49) (kind := 0) (N := N) (M' := mj_m_X5_ofWay) (As := [.ref 1, .int ((nI m)), .int w]) (rest := []) (I := (s_X5_takeWay (10) (1) a i m I).2) (P := mj_PP (10) d r) (I' := (s_X5_takeWay (10) (1) a i m I).2) (P' := mj_PP (10) d r) (v := some (.int (s_X5_ofWay (10) m p w ((s_X5_takeWay (10) (1) a i m I).2)))) rfl rfl rfl mj_mc49 mj_dc49 rfl rfl rfl rfl rfl rfl (x_X5_ofWay l b base D z N (10) m p w (by decide) ((s_X5_takeWay (10) (1) a i m I).2) d r hm (mj_tw_ok _ _ _ _ m hm (by decide) (by decide) I h6 h5) ((mj_tw_fr _ _ _ _ m (by decide) (by decide) I _ _ (by decide) (Or.inl (by decide))).trans hp) hp3) ?_
                  refine R_seg (φ := []) (pc' := 72) (L' := [.ref 1, .int (1), .int a, .int i, .int ((nI m)), .int w, .int ((s_X5_takeWay (10) (1) a i m I).1)]) (st' := [.int (s_X5_ofWay (10) m p w ((s_X5_takeWay (10) (1) a i m I).2))]) (σ' := (mj_KS N, (s_X5_takeWay (10) (1) a i m I).2, mj_PP (10) d r)) 0 rfl trivial ?_
                  exact R_ri rfl rfl (mj_leaf (by simp only [s_X5_route, mj_tnm (show m < 2147483648 by omega), if_neg h1, if_neg h2, if_neg h3, if_neg h4, if_pos h5, Bool.false_eq_true, ↓reduceIte, Nat.reduceAdd, Nat.reduceMul, mj_tn0, mj_tn1, mj_tn2, mj_tn3]) (by simp only [s_X5_route, mj_tnm (show m < 2147483648 by omega), if_neg h1, if_neg h2, if_neg h3, if_neg h4, if_pos h5, Bool.false_eq_true, ↓reduceIte, Nat.reduceAdd, Nat.reduceMul, mj_tn0, mj_tn1, mj_tn2, mj_tn3]))
                · skip
                  refine R_seg (φ := []) (pc' := 72) (L' := [.ref 1, .int (1), .int a, .int i, .int ((nI m)), .int w, .int ((s_X5_takeWay (10) (1) a i m I).1)]) (st' := [.int ((s_X5_takeWay (10) (1) a i m I).1)]) (σ' := (mj_KS N, (s_X5_takeWay (10) (1) a i m I).2, mj_PP (10) d r)) 2 rfl trivial ?_
                  exact R_ri rfl rfl (mj_leaf (by simp only [s_X5_route, mj_tnm (show m < 2147483648 by omega), if_neg h1, if_neg h2, if_neg h3, if_neg h4, if_neg h5, Bool.false_eq_true, ↓reduceIte, Nat.reduceAdd, Nat.reduceMul, mj_tn0, mj_tn1, mj_tn2, mj_tn3]) (by simp only [s_X5_route, mj_tnm (show m < 2147483648 by omega), if_neg h1, if_neg h2, if_neg h3, if_neg h4, if_neg h5, Bool.false_eq_true, ↓reduceIte, Nat.reduceAdd, Nat.reduceMul, mj_tn0, mj_tn1, mj_tn2, mj_tn3]))
              · skip
                refine R_seg (φ := []) (pc' := 49) (L' := [.ref 1, .int (2), .int a, .int i, .int ((nI m)), .int w, mj_mk]) (st' := [.int ((nI m)), .int i, .int a, .int (2), .ref 1]) (σ' := (mj_KS N, I, mj_PP (10) d r)) 4 rfl trivial ?_
                refine R_ce (idx := 143) (mid := 48) (kind := 0) (N := N) (M' := mj_m_X5_takeWay) (As := [.ref 1, .int (2), .int a, .int i, .int ((nI m))]) (rest := []) (I := I) (P := mj_PP (10) d r) (I' := (s_X5_takeWay (10) (2) a i m I).2) (P' := mj_PP (10) d r) (v := some (.int ((s_X5_takeWay (10) (2) a i m I).1))) rfl rfl rfl mj_mc48 mj_dc48 rfl rfl rfl rfl rfl rfl (x_X5_takeWay l b base D z N (10) (2) a i m (by decide) (by decide) I d r hm hl) ?_
                refine R_seg (φ := []) (pc' := 56) (L' := [.ref 1, .int (2), .int a, .int i, .int ((nI m)), .int w, .int ((s_X5_takeWay (10) (2) a i m I).1)]) (st' := [.int ((s_X5_takeWay (10) (2) a i m I).1)]) (σ' := (mj_KS N, (s_X5_takeWay (10) (2) a i m I).2, mj_PP (10) d r)) 2 rfl trivial ?_
                refine R_br (q := ((s_X5_takeWay (10) (2) a i m I).1 : Int32) = 0) (t := 64) (f := 59) (rest := []) rfl (fun h5 => ?_) (fun h5 => ?_)
                · skip
                  refine R_seg (φ := []) (pc' := 69) (L' := [.ref 1, .int (2), .int a, .int i, .int ((nI m)), .int w, .int ((s_X5_takeWay (10) (2) a i m I).1)]) (st' := [.int w, .int ((nI m)), .ref 1]) (σ' := (mj_KS N, (s_X5_takeWay (10) (2) a i m I).2, mj_PP (10) d r)) 3 rfl trivial ?_
                  refine R_ce (idx := 147) (mid := 49) (kind := 0) (N := N) (M' := mj_m_X5_ofWay) (As := [.ref 1, .int ((nI m)), .int w]) (rest := []) (I := (s_X5_takeWay (10) (2) a i m I).2) (P := mj_PP (10) d r) (I' := (s_X5_takeWay (10) (2) a i m I).2) (P' := mj_PP (10) d r) (v := some (.int (s_X5_ofWay (10) m p w ((s_X5_takeWay (10) (2) a i m I).2)))) rfl rfl rfl mj_mc49 mj_dc49 rfl rfl rfl rfl rfl rfl (x_X5_ofWay l b base D z N (10) m p w (by decide) ((s_X5_takeWay (10) (2) a i m I).2) d r hm (mj_tw_ok _ _ _ _ m hm (by decide) (by decide) I h6 h5) ((mj_tw_fr _ _ _ _ m (by decide) (by decide) I _ _ (by decide) (Or.inl (by decide))).trans hp) hp3) ?_
                  refine R_seg (φ := []) (pc' := 72) (L' := [.ref 1, .int (2), .int a, .int i, .int ((nI m)), .int w, .int ((s_X5_takeWay (10) (2) a i m I).1)]) (st' := [.int (s_X5_ofWay (10) m p w ((s_X5_takeWay (10) (2) a i m I).2))]) (σ' := (mj_KS N, (s_X5_takeWay (10) (2) a i m I).2, mj_PP (10) d r)) 0 rfl trivial ?_
                  exact R_ri rfl rfl (mj_leaf (by simp only [s_X5_route, mj_tnm (show m < 2147483648 by omega), if_neg h1, if_neg h2, if_neg h3, if_neg h4, if_pos h5, Bool.false_eq_true, ↓reduceIte, Nat.reduceAdd, Nat.reduceMul, mj_tn0, mj_tn1, mj_tn2, mj_tn3]) (by simp only [s_X5_route, mj_tnm (show m < 2147483648 by omega), if_neg h1, if_neg h2, if_neg h3, if_neg h4, if_pos h5, Bool.false_eq_true, ↓reduceIte, Nat.reduceAdd, Nat.reduceMul, mj_tn0, mj_tn1, mj_tn2, mj_tn3]))
                · skip
                  refine R_seg (φ := []) (pc' := 72) (L' := [.ref 1, .int (2), .int a, .int i, .int ((nI m)), .int w, .int ((s_X5_takeWay (10) (2) a i m I).1)]) (st' := [.int ((s_X5_takeWay (10) (2) a i m I).1)]) (σ' := (mj_KS N, (s_X5_takeWay (10) (2) a i m I).2, mj_PP (10) d r)) 2 rfl trivial ?_
                  exact R_ri rfl rfl (mj_leaf (by simp only [s_X5_route, mj_tnm (show m < 2147483648 by omega), if_neg h1, if_neg h2, if_neg h3, if_neg h4, if_neg h5, Bool.false_eq_true, ↓reduceIte, Nat.reduceAdd, Nat.reduceMul, mj_tn0, mj_tn1, mj_tn2, mj_tn3]) (by simp only [s_X5_route, mj_tnm (show m < 2147483648 by omega), if_neg h1, if_neg h2, if_neg h3, if_neg h4, if_neg h5, Bool.false_eq_true, ↓reduceIte, Nat.reduceAdd, Nat.reduceMul, mj_tn0, mj_tn1, mj_tn2, mj_tn3]))
              · skip
                refine R_seg (φ := []) (pc' := 49) (L' := [.ref 1, .int (3), .int a, .int i, .int ((nI m)), .int w, mj_mk]) (st' := [.int ((nI m)), .int i, .int a, .int (3), .ref 1]) (σ' := (mj_KS N, I, mj_PP (10) d r)) 4 rfl trivial ?_
                refine R_ce (idx := 143) (mid := 48) (kind := 0) (N := N) (M' := mj_m_X5_takeWay) (As := [.ref 1, .int (3), .int a, .int i, .int ((nI m))]) (rest := []) (I := I) (P := mj_PP (10) d r) (I' := (s_X5_takeWay (10) (3) a i m I).2) (P' := mj_PP (10) d r) (v := some (.int ((s_X5_takeWay (10) (3) a i m I).1))) rfl rfl rfl mj_mc48 mj_dc48 rfl rfl rfl rfl rfl rfl (x_X5_takeWay l b base D z N (10) (3) a i m (by decide) (by decide) I d r hm hl) ?_
                refine R_seg (φ := []) (pc' := 56) (L' := [.ref 1, .int (3), .int a, .int i, .int ((nI m)), .int w, .int ((s_X5_takeWay (10) (3) a i m I).1)]) (st' := [.int ((s_X5_takeWay (10) (3) a i m I).1)]) (σ' := (mj_KS N, (s_X5_takeWay (10) (3) a i m I).2, mj_PP (10) d r)) 2 rfl trivial ?_
                refine R_br (q := ((s_X5_takeWay (10) (3) a i m I).1 : Int32) = 0) (t := 64) (f := 59) (rest := []) rfl (fun h5 => ?_) (fun h5 => ?_)
                · skip
                  refine R_seg (φ := []) (pc' := 69) (L' := [.ref 1, .int (3), .int a, .int i, .int ((nI m)), .int w, .int ((s_X5_takeWay (10) (3) a i m I).1)]) (st' := [.int w, .int ((nI m)), .ref 1]) (σ' := (mj_KS N, (s_X5_takeWay (10) (3) a i m I).2, mj_PP (10) d r)) 3 rfl trivial ?_
                  refine R_ce (idx := 147) (mid := 49) (kind := 0) (N := N) (M' := mj_m_X5_ofWay) (As := [.ref 1, .int ((nI m)), .int w]) (rest := []) (I := (s_X5_takeWay (10) (3) a i m I).2) (P := mj_PP (10) d r) (I' := (s_X5_takeWay (10) (3) a i m I).2) (P' := mj_PP (10) d r) (v := some (.int (s_X5_ofWay (10) m p w ((s_X5_takeWay (10) (3) a i m I).2)))) rfl rfl rfl mj_mc49 mj_dc49 rfl rfl rfl rfl rfl rfl (x_X5_ofWay l b base D z N (10) m p w (by decide) ((s_X5_takeWay (10) (3) a i m I).2) d r hm (mj_tw_ok _ _ _ _ m hm (by decide) (by decide) I h6 h5) ((mj_tw_fr _ _ _ _ m (by decide) (by decide) I _ _ (by decide) (Or.inl (by decide))).trans hp) hp3) ?_
                  refine R_seg (φ := []) (pc' := 72) (L' := [.ref 1, .int (3), .int a, .int i, .int ((nI m)), .int w, .int ((s_X5_takeWay (10) (3) a i m I).1)]) (st' := [.int (s_X5_ofWay (10) m p w ((s_X5_takeWay (10) (3) a i m I).2))]) (σ' := (mj_KS N, (s_X5_takeWay (10) (3) a i m I).2, mj_PP (10) d r)) 0 rfl trivial ?_
                  exact R_ri rfl rfl (mj_leaf (by simp only [s_X5_route, mj_tnm (show m < 2147483648 by omega), if_neg h1, if_neg h2, if_neg h3, if_neg h4, if_pos h5, Bool.false_eq_true, ↓reduceIte, Nat.reduceAdd, Nat.reduceMul, mj_tn0, mj_tn1, mj_tn2, mj_tn3]) (by simp only [s_X5_route, mj_tnm (show m < 2147483648 by omega), if_neg h1, if_neg h2, if_neg h3, if_neg h4, if_pos h5, Bool.false_eq_true, ↓reduceIte, Nat.reduceAdd, Nat.reduceMul, mj_tn0, mj_tn1, mj_tn2, mj_tn3]))
                · skip
                  refine R_seg (φ := []) (pc' := 72) (L' := [.ref 1, .int (3), .int a, .int i, .int ((nI m)), .int w, .int ((s_X5_takeWay (10) (3) a i m I).1)]) (st' := [.int ((s_X5_takeWay (10) (3) a i m I).1)]) (σ' := (mj_KS N, (s_X5_takeWay (10) (3) a i m I).2, mj_PP (10) d r)) 2 rfl trivial ?_
                  exact R_ri rfl rfl (mj_leaf (by simp only [s_X5_route, mj_tnm (show m < 2147483648 by omega), if_neg h1, if_neg h2, if_neg h3, if_neg h4, if_neg h5, Bool.false_eq_true, ↓reduceIte, Nat.reduceAdd, Nat.reduceMul, mj_tn0, mj_tn1, mj_tn2, mj_tn3]) (by simp only [s_X5_route, mj_tnm (show m < 2147483648 by omega), if_neg h1, if_neg h2, if_neg h3, if_neg h4, if_neg h5, Bool.false_eq_true, ↓reduceIte, Nat.reduceAdd, Nat.reduceMul, mj_tn0, mj_tn1, mj_tn2, mj_tn3]))
def s_X5_takeReadWay (cc : Nat) (s : Int32) (a : Int32) (i : Int32) (n : Int32) (I : mj_I) : Int32 × mj_I := if ((s_X5_isSheet s I) : Int32) = 0 then ((s_X5_refuse (-1) I).1, (s_X5_refuse (-1) I).2) else (if ((s_X5_isLane a I) : Int32) = 0 then ((s_X5_refuse (-2) I).1, (s_X5_refuse (-2) I).2) else (if ((s_X5_isRouteLength n I) : Int32) = 0 then ((s_X5_refuse (-2) I).1, (s_X5_refuse (-2) I).2) else ((s_X5_takeWay (cc) (s) a i n.toNatClampNeg I).1, (s_X5_takeWay (cc) (s) a i n.toNatClampNeg I).2)))
set_option maxHeartbeats 8000000 in
theorem x_X5_takeReadWay (l : Launch) (b base : Nat) (D : va_G) (z : mj_K × (Int32 → Int32)) (N : Nat) (cc : Nat) (s : Int32) (a : Int32) (i : Int32) (n : Int32) (hcc : cc = 2 ∨ cc = 10) (I : mj_I) (d r : Nat) (hl : ∀ j : Nat, j < 4 → 0 ≤ (I (34 + 2 * j) 2).toInt ∧ (I (34 + 2 * j) 2).toInt ≤ 60) : mj_Rn l b base D z mj_m_X5_takeReadWay 0 [.ref 1, .int s, .int a, .int i, .int n] [] (mj_KS N, I, mj_PP cc d r) (mj_E N (some (.int (s_X5_takeReadWay cc s a i n I).1)) (s_X5_takeReadWay cc s a i n I).2 (mj_PP cc d r)) := by
  rcases hcc with rfl | rfl
  · skip
    refine R_seg (φ := []) (pc' := 1) (L' := [.ref 1, .int s, .int a, .int i, .int n]) (st' := [.int s]) (σ' := (mj_KS N, I, mj_PP (2) d r)) 1 rfl trivial ?_
    refine R_ce (idx := 75) (mid := 88) (kind := 1) (N := N) (M' := mj_m_X5_isSheet) (As := [.int s]) (rest := []) (I := I) (P := mj_PP (2) d r) (I' := I) (P' := mj_PP (2) d r) (v := some (.int (s_X5_isSheet s I))) rfl rfl rfl mj_mc88 mj_dc88 rfl rfl rfl rfl rfl rfl (x_X5_isSheet l b base D z N s I (2) d r) ?_
    refine R_seg (φ := []) (pc' := 4) (L' := [.ref 1, .int s, .int a, .int i, .int n]) (st' := [.int (s_X5_isSheet s I)]) (σ' := (mj_KS N, I, mj_PP (2) d r)) 0 rfl trivial ?_
    refine R_br (q := ((s_X5_isSheet s I) : Int32) = 0) (t := 7) (f := 13) (rest := []) rfl (fun h1 => ?_) (fun h1 => ?_)
    · skip
      refine R_seg (φ := []) (pc' := 9) (L' := [.ref 1, .int s, .int a, .int i, .int n]) (st' := [.int (-1), .ref 1]) (σ' := (mj_KS N, I, mj_PP (2) d r)) 2 rfl trivial ?_
      refine R_ce (idx := 79) (mid := 90) (kind := 0) (N := N) (M' := mj_m_X5_refuse) (As := [.ref 1, .int (-1)]) (rest := []) (I := I) (P := mj_PP (2) d r) (I' := (s_X5_refuse (-1) I).2) (P' := mj_PP (2) d r) (v := some (.int ((s_X5_refuse (-1) I).1))) rfl rfl rfl mj_mc90 mj_dc90 rfl rfl rfl rfl rfl rfl (x_X5_refuse l b base D z N (-1) I (2) d r) ?_
      refine R_seg (φ := []) (pc' := 12) (L' := [.ref 1, .int s, .int a, .int i, .int n]) (st' := [.int ((s_X5_refuse (-1) I).1)]) (σ' := (mj_KS N, (s_X5_refuse (-1) I).2, mj_PP (2) d r)) 0 rfl trivial ?_
      exact R_ri rfl rfl (mj_leaf (by simp only [s_X5_takeReadWay, if_pos h1, Bool.false_eq_true, ↓reduceIte, Nat.reduceAdd, Nat.reduceMul, mj_tn0, mj_tn1, mj_tn2, mj_tn3]) (by simp only [s_X5_takeReadWay, if_pos h1, Bool.false_eq_true, ↓reduceIte, Nat.reduceAdd, Nat.reduceMul, mj_tn0, mj_tn1, mj_tn2, mj_tn3]))
    · skip
      refine R_seg (φ := []) (pc' := 14) (L' := [.ref 1, .int s, .int a, .int i, .int n]) (st' := [.int a]) (σ' := (mj_KS N, I, mj_PP (2) d r)) 1 rfl trivial ?_
      refine R_ce (idx := 83) (mid := 89) (kind := 1) (N := N) (M' := mj_m_X5_isLane) (As := [.int a]) (rest := []) (I := I) (P := mj_PP (2) d r) (I' := I) (P' := mj_PP (2) d r) (v := some (.int (s_X5_isLane a I))) rfl rfl rfl mj_mc89 mj_dc89 rfl rfl rfl rfl rfl rfl (x_X5_isLane l b base D z N a I (2) d r) ?_
      refine R_seg (φ := []) (pc' := 17) (L' := [.ref 1, .int s, .int a, .int i, .int n]) (st' := [.int (s_X5_isLane a I)]) (σ' := (mj_KS N, I, mj_PP (2) d r)) 0 rfl trivial ?_
      refine R_br (q := ((s_X5_isLane a I) : Int32) = 0) (t := 28) (f := 20) (rest := []) rfl (fun h2 => ?_) (fun h2 => ?_)
      · skip
        refine R_seg (φ := []) (pc' := 31) (L' := [.ref 1, .int s, .int a, .int i, .int n]) (st' := [.int (-2), .ref 1]) (σ' := (mj_KS N, I, mj_PP (2) d r)) 2 rfl trivial ?_
        refine R_ce (idx := 79) (mid := 90) (kind := 0) (N := N) (M' := mj_m_X5_refuse) (As := [.ref 1, .int (-2)]) (rest := []) (I := I) (P := mj_PP (2) d r) (I' := (s_X5_refuse (-2) I).2) (P' := mj_PP (2) d r) (v := some (.int ((s_X5_refuse (-2) I).1))) rfl rfl rfl mj_mc90 mj_dc90 rfl rfl rfl rfl rfl rfl (x_X5_refuse l b base D z N (-2) I (2) d r) ?_
        refine R_seg (φ := []) (pc' := 34) (L' := [.ref 1, .int s, .int a, .int i, .int n]) (st' := [.int ((s_X5_refuse (-2) I).1)]) (σ' := (mj_KS N, (s_X5_refuse (-2) I).2, mj_PP (2) d r)) 0 rfl trivial ?_
        exact R_ri rfl rfl (mj_leaf (by simp only [s_X5_takeReadWay, if_neg h1, if_pos h2, Bool.false_eq_true, ↓reduceIte, Nat.reduceAdd, Nat.reduceMul, mj_tn0, mj_tn1, mj_tn2, mj_tn3]) (by simp only [s_X5_takeReadWay, if_neg h1, if_pos h2, Bool.false_eq_true, ↓reduceIte, Nat.reduceAdd, Nat.reduceMul, mj_tn0, mj_tn1, mj_tn2, mj_tn3]))
      · skip
        refine R_seg (φ := []) (pc' := 22) (L' := [.ref 1, .int s, .int a, .int i, .int n]) (st' := [.int n]) (σ' := (mj_KS N, I, mj_PP (2) d r)) 1 rfl trivial ?_
        refine R_ce (idx := 137) (mid := 46) (kind := 1) (N := N) (M' := mj_m_X5_isRouteLength) (As := [.int n]) (rest := []) (I := I) (P := mj_PP (2) d r) (I' := I) (P' := mj_PP (2) d r) (v := some (.int (s_X5_isRouteLength n I))) rfl rfl rfl mj_mc46 mj_dc46 rfl rfl rfl rfl rfl rfl (x_X5_isRouteLength l b base D z N n I (2) d r) ?_
        refine R_seg (φ := []) (pc' := 25) (L' := [.ref 1, .int s, .int a, .int i, .int n]) (st' := [.int (s_X5_isRouteLength n I)]) (σ' := (mj_KS N, I, mj_PP (2) d r)) 0 rfl trivial ?_
        refine R_br (q := ((s_X5_isRouteLength n I) : Int32) = 0) (t := 28) (f := 35) (rest := []) rfl (fun h3 => ?_) (fun h3 => ?_)
        · skip
          refine R_seg (φ := []) (pc' := 31) (L' := [.ref 1, .int s, .int a, .int i, .int n]) (st' := [.int (-2), .ref 1]) (σ' := (mj_KS N, I, mj_PP (2) d r)) 2 rfl trivial ?_
          refine R_ce (idx := 79) (mid := 90) (kind := 0) (N := N) (M' := mj_m_X5_refuse) (As := [.ref 1, .int (-2)]) (rest := []) (I := I) (P := mj_PP (2) d r) (I' := (s_X5_refuse (-2) I).2) (P' := mj_PP (2) d r) (v := some (.int ((s_X5_refuse (-2) I).1))) rfl rfl rfl mj_mc90 mj_dc90 rfl rfl rfl rfl rfl rfl (x_X5_refuse l b base D z N (-2) I (2) d r) ?_
          refine R_seg (φ := []) (pc' := 34) (L' := [.ref 1, .int s, .int a, .int i, .int n]) (st' := [.int ((s_X5_refuse (-2) I).1)]) (σ' := (mj_KS N, (s_X5_refuse (-2) I).2, mj_PP (2) d r)) 0 rfl trivial ?_
          exact R_ri rfl rfl (mj_leaf (by simp only [s_X5_takeReadWay, if_neg h1, if_neg h2, if_pos h3, Bool.false_eq_true, ↓reduceIte, Nat.reduceAdd, Nat.reduceMul, mj_tn0, mj_tn1, mj_tn2, mj_tn3]) (by simp only [s_X5_takeReadWay, if_neg h1, if_neg h2, if_pos h3, Bool.false_eq_true, ↓reduceIte, Nat.reduceAdd, Nat.reduceMul, mj_tn0, mj_tn1, mj_tn2, mj_tn3]))
        · skip
          obtain ⟨m, hm, rfl⟩ := mj_rl h3
          · skip
            refine R_seg (φ := []) (pc' := 36) (L' := [.ref 1, .int s, .int a, .int i, .int ((nI m))]) (st' := [.ref 1]) (σ' := (mj_KS N, I, mj_PP (2) d r)) 1 rfl trivial ?_
            rcases mj_sh4 h1 with rfl | rfl | rfl | rfl
            · skip
              refine R_seg (φ := []) (pc' := 41) (L' := [.ref 1, .int (0), .int a, .int i, .int ((nI m))]) (st' := [.int ((nI m)), .int i, .int a, .int (0), .ref 1]) (σ' := (mj_KS N, I, mj_PP (2) d r)) 4 rfl trivial ?_
              refine R_ce (idx := 143) (mid := 48) (kind := 0) (N := N) (M' := mj_m_X5_takeWay) (As := [.ref 1, .int (0), .int a, .int i, .int ((nI m))]) (rest := []) (I := I) (P := mj_PP (2) d r) (I' := (s_X5_takeWay (2) (0) a i m I).2) (P' := mj_PP (2) d r) (v := some (.int ((s_X5_takeWay (2) (0) a i m I).1))) rfl rfl rfl mj_mc48 mj_dc48 rfl rfl rfl rfl rfl rfl (x_X5_takeWay l b base D z N (2) (0) a i m (by decide) (by decide) I d r hm hl) ?_
              refine R_seg (φ := []) (pc' := 44) (L' := [.ref 1, .int (0), .int a, .int i, .int ((nI m))]) (st' := [.int ((s_X5_takeWay (2) (0) a i m I).1)]) (σ' := (mj_KS N, (s_X5_takeWay (2) (0) a i m I).2, mj_PP (2) d r)) 0 rfl trivial ?_
              exact R_ri rfl rfl (mj_leaf (by simp only [s_X5_takeReadWay, mj_tnm (show m < 2147483648 by omega), if_neg h1, if_neg h2, if_neg h3, Bool.false_eq_true, ↓reduceIte, Nat.reduceAdd, Nat.reduceMul, mj_tn0, mj_tn1, mj_tn2, mj_tn3]) (by simp only [s_X5_takeReadWay, mj_tnm (show m < 2147483648 by omega), if_neg h1, if_neg h2, if_neg h3, Bool.false_eq_true, ↓reduceIte, Nat.reduceAdd, Nat.reduceMul, mj_tn0, mj_tn1, mj_tn2, mj_tn3]))
            · skip
              refine R_seg (φ := []) (pc' := 41) (L' := [.ref 1, .int (1), .int a, .int i, .int ((nI m))]) (st' := [.int ((nI m)), .int i, .int a, .int (1), .ref 1]) (σ' := (mj_KS N, I, mj_PP (2) d r)) 4 rfl trivial ?_
              refine R_ce (idx := 143) (mid := 48) (kind := 0) (N := N) (M' := mj_m_X5_takeWay) (As := [.ref 1, .int (1), .int a, .int i, .int ((nI m))]) (rest := []) (I := I) (P := mj_PP (2) d r) (I' := (s_X5_takeWay (2) (1) a i m I).2) (P' := mj_PP (2) d r) (v := some (.int ((s_X5_takeWay (2) (1) a i m I).1))) rfl rfl rfl mj_mc48 mj_dc48 rfl rfl rfl rfl rfl rfl (x_X5_takeWay l b base D z N (2) (1) a i m (by decide) (by decide) I d r hm hl) ?_
              refine R_seg (φ := []) (pc' := 44) (L' := [.ref 1, .int (1), .int a, .int i, .int ((nI m))]) (st' := [.int ((s_X5_takeWay (2) (1) a i m I).1)]) (σ' := (mj_KS N, (s_X5_takeWay (2) (1) a i m I).2, mj_PP (2) d r)) 0 rfl trivial ?_
              exact R_ri rfl rfl (mj_leaf (by simp only [s_X5_takeReadWay, mj_tnm (show m < 2147483648 by omega), if_neg h1, if_neg h2, if_neg h3, Bool.false_eq_true, ↓reduceIte, Nat.reduceAdd, Nat.reduceMul, mj_tn0, mj_tn1, mj_tn2, mj_tn3]) (by simp only [s_X5_takeReadWay, mj_tnm (show m < 2147483648 by omega), if_neg h1, if_neg h2, if_neg h3, Bool.false_eq_true, ↓reduceIte, Nat.reduceAdd, Nat.reduceMul, mj_tn0, mj_tn1, mj_tn2, mj_tn3]))
            · skip
              refine R_seg (φ := []) (pc' := 41) (L' := [.ref 1, .int (2), .int a, .int i, .int ((nI m))]) (st' := [.int ((nI m)), .int i, .int a, .int (2), .ref 1]) (σ' := (mj_KS N, I, mj_PP (2) d r)) 4 rfl trivial ?_
              refine R_ce (idx := 143) (mid := 48) (kind := 0) (N := N) (M' := mj_m_X5_takeWay) (As := [.ref 1, .int (2), .int a, .int i, .int ((nI m))]) (rest := []) (I := I) (P := mj_PP (2) d r) (I' := (s_X5_takeWay (2) (2) a i m I).2) (P' := mj_PP (2) d r) (v := some (.int ((s_X5_takeWay (2) (2) a i m I).1))) rfl rfl rfl mj_mc48 mj_dc48 rfl rfl rfl rfl rfl rfl (x_X5_takeWay l b base D z N (2) (2) a i m (by decide) (by decide) I d r hm hl) ?_
              refine R_seg (φ := []) (pc' := 44) (L' := [.ref 1, .int (2), .int a, .int i, .int ((nI m))]) (st' := [.int ((s_X5_takeWay (2) (2) a i m I).1)]) (σ' := (mj_KS N, (s_X5_takeWay (2) (2) a i m I).2, mj_PP (2) d r)) 0 rfl trivial ?_
              exact R_ri rfl rfl (mj_leaf (by simp only [s_X5_takeReadWay, mj_tnm (show m < 2147483648 by omega), if_neg h1, if_neg h2, if_neg h3, Bool.false_eq_true, ↓reduceIte, Nat.reduceAdd, Nat.reduceMul, mj_tn0, mj_tn1, mj_tn2, mj_tn3]) (by simp only [s_X5_takeReadWay, mj_tnm (show m < 2147483648 by omega), if_neg h1, if_neg h2, if_neg h3, Bool.false_eq_true, ↓reduceIte, Nat.reduceAdd, Nat.reduceMul, mj_tn0, mj_tn1, mj_tn2, mj_tn3]))
            · skip
              refine R_seg (φ := []) (pc' := 41) (L' := [.ref 1, .int (3), .int a, .int i, .int ((nI m))]) (st' := [.int ((nI m)), .int i, .int a, .int (3), .ref 1]) (σ' := (mj_KS N, I, mj_PP (2) d r)) 4 rfl trivial ?_
              refine R_ce (idx := 143) (mid := 48) (kind := 0) (N := N) (M' := mj_m_X5_takeWay) (As := [.ref 1, .int (3), .int a, .int i, .int ((nI m))]) (rest := []) (I := I) (P := mj_PP (2) d r) (I' := (s_X5_takeWay (2) (3) a i m I).2) (P' := mj_PP (2) d r) (v := some (.int ((s_X5_takeWay (2) (3) a i m I).1))) rfl rfl rfl mj_mc48 mj_dc48 rfl rfl rfl rfl rfl rfl (x_X5_takeWay l b base D z N (2) (3) a i m (by decide) (by decide) I d r hm hl) ?_
              refine R_seg (φ := []) (pc' := 44) (L' := [.ref 1, .int (3), .int a, .int i, .int ((nI m))]) (st' := [.int ((s_X5_takeWay (2) (3) a i m I).1)]) (σ' := (mj_KS N, (s_X5_takeWay (2) (3) a i m I).2, mj_PP (2) d r)) 0 rfl trivial ?_
              exact R_ri rfl rfl (mj_leaf (by simp only [s_X5_takeReadWay, mj_tnm (show m < 2147483648 by omega), if_neg h1, if_neg h2, if_neg h3, Bool.false_eq_true, ↓reduceIte, Nat.reduceAdd, Nat.reduceMul, mj_tn0, mj_tn1, mj_tn2, mj_tn3]) (by simp only [s_X5_takeReadWay, mj_tnm (show m < 2147483648 by omega), if_neg h1, if_neg h2, if_neg h3, Bool.false_eq_true, ↓reduceIte, Nat.reduceAdd, Nat.reduceMul, mj_tn0, mj_tn1, mj_tn2, mj_tn3]))
  · skip
    refine R_seg (φ := []) (pc' := 1) (L' := [.ref 1, .int s, .int a, .int i, .int n]) (st' := [.int s]) (σ' := (mj_KS N, I, mj_PP (10) d r)) 1 rfl trivial ?_
    refine R_ce (idx := 75) (mid := 88) (kind := 1) (N := N) (M' := mj_m_X5_isSheet) (As := [.int s]) (rest := []) (I := I) (P := mj_PP (10) d r) (I' := I) (P' := mj_PP (10) d r) (v := some (.int (s_X5_isSheet s I))) rfl rfl rfl mj_mc88 mj_dc88 rfl rfl rfl rfl rfl rfl (x_X5_isSheet l b base D z N s I (10) d r) ?_
    refine R_seg (φ := []) (pc' := 4) (L' := [.ref 1, .int s, .int a, .int i, .int n]) (st' := [.int (s_X5_isSheet s I)]) (σ' := (mj_KS N, I, mj_PP (10) d r)) 0 rfl trivial ?_
    refine R_br (q := ((s_X5_isSheet s I) : Int32) = 0) (t := 7) (f := 13) (rest := []) rfl (fun h1 => ?_) (fun h1 => ?_)
    · skip
      refine R_seg (φ := []) (pc' := 9) (L' := [.ref 1, .int s, .int a, .int i, .int n]) (st' := [.int (-1), .ref 1]) (σ' := (mj_KS N, I, mj_PP (10) d r)) 2 rfl trivial ?_
      refine R_ce (idx := 79) (mid := 90) (kind := 0) (N := N) (M' := mj_m_X5_refuse) (As := [.ref 1, .int (-1)]) (rest := []) (I := I) (P := mj_PP (10) d r) (I' := (s_X5_refuse (-1) I).2) (P' := mj_PP (10) d r) (v := some (.int ((s_X5_refuse (-1) I).1))) rfl rfl rfl mj_mc90 mj_dc90 rfl rfl rfl rfl rfl rfl (x_X5_refuse l b base D z N (-1) I (10) d r) ?_
      refine R_seg (φ := []) (pc' := 12) (L' := [.ref 1, .int s, .int a, .int i, .int n]) (st' := [.int ((s_X5_refuse (-1) I).1)]) (σ' := (mj_KS N, (s_X5_refuse (-1) I).2, mj_PP (10) d r)) 0 rfl trivial ?_
      exact R_ri rfl rfl (mj_leaf (by simp only [s_X5_takeReadWay, if_pos h1, Bool.false_eq_true, ↓reduceIte, Nat.reduceAdd, Nat.reduceMul, mj_tn0, mj_tn1, mj_tn2, mj_tn3]) (by simp only [s_X5_takeReadWay, if_pos h1, Bool.false_eq_true, ↓reduceIte, Nat.reduceAdd, Nat.reduceMul, mj_tn0, mj_tn1, mj_tn2, mj_tn3]))
    · skip
      refine R_seg (φ := []) (pc' := 14) (L' := [.ref 1, .int s, .int a, .int i, .int n]) (st' := [.int a]) (σ' := (mj_KS N, I, mj_PP (10) d r)) 1 rfl trivial ?_
      refine R_ce (idx := 83) (mid := 89) (kind := 1) (N := N) (M' := mj_m_X5_isLane) (As := [.int a]) (rest := []) (I := I) (P := mj_PP (10) d r) (I' := I) (P' := mj_PP (10) d r) (v := some (.int (s_X5_isLane a I))) rfl rfl rfl mj_mc89 mj_dc89 rfl rfl rfl rfl rfl rfl (x_X5_isLane l b base D z N a I (10) d r) ?_
      refine R_seg (φ := []) (pc' := 17) (L' := [.ref 1, .int s, .int a, .int i, .int n]) (st' := [.int (s_X5_isLane a I)]) (σ' := (mj_KS N, I, mj_PP (10) d r)) 0 rfl trivial ?_
      refine R_br (q := ((s_X5_isLane a I) : Int32) = 0) (t := 28) (f := 20) (rest := []) rfl (fun h2 => ?_) (fun h2 => ?_)
      · skip
        refine R_seg (φ := []) (pc' := 31) (L' := [.ref 1, .int s, .int a, .int i, .int n]) (st' := [.int (-2), .ref 1]) (σ' := (mj_KS N, I, mj_PP (10) d r)) 2 rfl trivial ?_
        refine R_ce (idx := 79) (mid := 90) (kind := 0) (N := N) (M' := mj_m_X5_refuse) (As := [.ref 1, .int (-2)]) (rest := []) (I := I) (P := mj_PP (10) d r) (I' := (s_X5_refuse (-2) I).2) (P' := mj_PP (10) d r) (v := some (.int ((s_X5_refuse (-2) I).1))) rfl rfl rfl mj_mc90 mj_dc90 rfl rfl rfl rfl rfl rfl (x_X5_refuse l b base D z N (-2) I (10) d r) ?_
        refine R_seg (φ := []) (pc' := 34) (L' := [.ref 1, .int s, .int a, .int i, .int n]) (st' := [.int ((s_X5_refuse (-2) I).1)]) (σ' := (mj_KS N, (s_X5_refuse (-2) I).2, mj_PP (10) d r)) 0 rfl trivial ?_
        exact R_ri rfl rfl (mj_leaf (by simp only [s_X5_takeReadWay, if_neg h1, if_pos h2, Bool.false_eq_true, ↓reduceIte, Nat.reduceAdd, Nat.reduceMul, mj_tn0, mj_tn1, mj_tn2, mj_tn3]) (by simp only [s_X5_takeReadWay, if_neg h1, if_pos h2, Bool.false_eq_true, ↓reduceIte, Nat.reduceAdd, Nat.reduceMul, mj_tn0, mj_tn1, mj_tn2, mj_tn3]))
      · skip
        refine R_seg (φ := []) (pc' := 22) (L' := [.ref 1, .int s, .int a, .int i, .int n]) (st' := [.int n]) (σ' := (mj_KS N, I, mj_PP (10) d r)) 1 rfl trivial ?_
        refine R_ce (idx := 137) (mid := 46) (kind := 1) (N := N) (M' := mj_m_X5_isRouteLength) (As := [.int n]) (rest := []) (I := I) (P := mj_PP (10) d r) (I' := I) (P' := mj_PP (10) d r) (v := some (.int (s_X5_isRouteLength n I))) rfl rfl rfl mj_mc46 mj_dc46 rfl rfl rfl rfl rfl rfl (x_X5_isRouteLength l b base D z N n I (10) d r) ?_
        refine R_seg (φ := []) (pc' := 25) (L' := [.ref 1, .int s, .int a, .int i, .int n]) (st' := [.int (s_X5_isRouteLength n I)]) (σ' := (mj_KS N, I, mj_PP (10) d r)) 0 rfl trivial ?_
        refine R_br (q := ((s_X5_isRouteLength n I) : Int32) = 0) (t := 28) (f := 35) (rest := []) rfl (fun h3 => ?_) (fun h3 => ?_)
        · skip
          refine R_seg (φ := []) (pc' := 31) (L' := [.ref 1, .int s, .int a, .int i, .int n]) (st' := [.int (-2), .ref 1]) (σ' := (mj_KS N, I, mj_PP (10) d r)) 2 rfl trivial ?_
          refine R_ce (idx := 79) (mid := 90) (kind := 0) (N := N) (M' := mj_m_X5_refuse) (As := [.ref 1, .int (-2)]) (rest := []) (I := I) (P := mj_PP (10) d r) (I' := (s_X5_refuse (-2) I).2) (P' := mj_PP (10) d r) (v := some (.int ((s_X5_refuse (-2) I).1))) rfl rfl rfl mj_mc90 mj_dc90 rfl rfl rfl rfl rfl rfl (x_X5_refuse l b base D z N (-2) I (10) d r) ?_
          refine R_seg (φ := []) (pc' := 34) (L' := [.ref 1, .int s, .int a, .int i, .int n]) (st' := [.int ((s_X5_refuse (-2) I).1)]) (σ' := (mj_KS N, (s_X5_refuse (-2) I).2, mj_PP (10) d r)) 0 rfl trivial ?_
          exact R_ri rfl rfl (mj_leaf (by simp only [s_X5_takeReadWay, if_neg h1, if_neg h2, if_pos h3, Bool.false_eq_true, ↓reduceIte, Nat.reduceAdd, Nat.reduceMul, mj_tn0, mj_tn1, mj_tn2, mj_tn3]) (by simp only [s_X5_takeReadWay, if_neg h1, if_neg h2, if_pos h3, Bool.false_eq_true, ↓reduceIte, Nat.reduceAdd, Nat.reduceMul, mj_tn0, mj_tn1, mj_tn2, mj_tn3]))
        · skip
          obtain ⟨m, hm, rfl⟩ := mj_rl h3
          · skip
            refine R_seg (φ := []) (pc' := 36) (L' := [.ref 1, .int s, .int a, .int i, .int ((nI m))]) (st' := [.ref 1]) (σ' := (mj_KS N, I, mj_PP (10) d r)) 1 rfl trivial ?_
            rcases mj_sh4 h1 with rfl | rfl | rfl | rfl
            · skip
              refine R_seg (φ := []) (pc' := 41) (L' := [.ref 1, .int (0), .int a, .int i, .int ((nI m))]) (st' := [.int ((nI m)), .int i, .int a, .int (0), .ref 1]) (σ' := (mj_KS N, I, mj_PP (10) d r)) 4 rfl trivial ?_
              refine R_ce (idx := 143) (mid := 48) (kind := 0) (N := N) (M' := mj_m_X5_takeWay) (As := [.ref 1, .int (0), .int a, .int i, .int ((nI m))]) (rest := []) (I := I) (P := mj_PP (10) d r) (I' := (s_X5_takeWay (10) (0) a i m I).2) (P' := mj_PP (10) d r) (v := some (.int ((s_X5_takeWay (10) (0) a i m I).1))) rfl rfl rfl mj_mc48 mj_dc48 rfl rfl rfl rfl rfl rfl (x_X5_takeWay l b base D z N (10) (0) a i m (by decide) (by decide) I d r hm hl) ?_
              refine R_seg (φ := []) (pc' := 44) (L' := [.ref 1, .int (0), .int a, .int i, .int ((nI m))]) (st' := [.int ((s_X5_takeWay (10) (0) a i m I).1)]) (σ' := (mj_KS N, (s_X5_takeWay (10) (0) a i m I).2, mj_PP (10) d r)) 0 rfl trivial ?_
              exact R_ri rfl rfl (mj_leaf (by simp only [s_X5_takeReadWay, mj_tnm (show m < 2147483648 by omega), if_neg h1, if_neg h2, if_neg h3, Bool.false_eq_true, ↓reduceIte, Nat.reduceAdd, Nat.reduceMul, mj_tn0, mj_tn1, mj_tn2, mj_tn3]) (by simp only [s_X5_takeReadWay, mj_tnm (show m < 2147483648 by omega), if_neg h1, if_neg h2, if_neg h3, Bool.false_eq_true, ↓reduceIte, Nat.reduceAdd, Nat.reduceMul, mj_tn0, mj_tn1, mj_tn2, mj_tn3]))
            · skip
              refine R_seg (φ := []) (pc' := 41) (L' := [.ref 1, .int (1), .int a, .int i, .int ((nI m))]) (st' := [.int ((nI m)), .int i, .int a, .int (1), .ref 1]) (σ' := (mj_KS N, I, mj_PP (10) d r)) 4 rfl trivial ?_
              refine R_ce (idx := 143) (mid := 48) (kind := 0) (N := N) (M' := mj_m_X5_takeWay) (As := [.ref 1, .int (1), .int a, .int i, .int ((nI m))]) (rest := []) (I := I) (P := mj_PP (10) d r) (I' := (s_X5_takeWay (10) (1) a i m I).2) (P' := mj_PP (10) d r) (v := some (.int ((s_X5_takeWay (10) (1) a i m I).1))) rfl rfl rfl mj_mc48 mj_dc48 rfl rfl rfl rfl rfl rfl (x_X5_takeWay l b base D z N (10) (1) a i m (by decide) (by decide) I d r hm hl) ?_
              refine R_seg (φ := []) (pc' := 44) (L' := [.ref 1, .int (1), .int a, .int i, .int ((nI m))]) (st' := [.int ((s_X5_takeWay (10) (1) a i m I).1)]) (σ' := (mj_KS N, (s_X5_takeWay (10) (1) a i m I).2, mj_PP (10) d r)) 0 rfl trivial ?_
              exact R_ri rfl rfl (mj_leaf (by simp only [s_X5_takeReadWay, mj_tnm (show m < 2147483648 by omega), if_neg h1, if_neg h2, if_neg h3, Bool.false_eq_true, ↓reduceIte, Nat.reduceAdd, Nat.reduceMul, mj_tn0, mj_tn1, mj_tn2, mj_tn3]) (by simp only [s_X5_takeReadWay, mj_tnm (show m < 2147483648 by omega), if_neg h1, if_neg h2, if_neg h3, Bool.false_eq_true, ↓reduceIte, Nat.reduceAdd, Nat.reduceMul, mj_tn0, mj_tn1, mj_tn2, mj_tn3]))
            · skip
              refine R_seg (φ := []) (pc' := 41) (L' := [.ref 1, .int (2), .int a, .int i, .int ((nI m))]) (st' := [.int ((nI m)), .int i, .int a, .int (2), .ref 1]) (σ' := (mj_KS N, I, mj_PP (10) d r)) 4 rfl trivial ?_
              refine R_ce (idx := 143) (mid := 48) (kind := 0) (N := N) (M' := mj_m_X5_takeWay) (As := [.ref 1, .int (2), .int a, .int i, .int ((nI m))]) (rest := []) (I := I) (P := mj_PP (10) d r) (I' := (s_X5_takeWay (10) (2) a i m I).2) (P' := mj_PP (10) d r) (v := some (.int ((s_X5_takeWay (10) (2) a i m I).1))) rfl rfl rfl mj_mc48 mj_dc48 rfl rfl rfl rfl rfl rfl (x_X5_takeWay l b base D z N (10) (2) a i m (by decide) (by decide) I d r hm hl) ?_
              refine R_seg (φ := []) (pc' := 44) (L' := [.ref 1, .int (2), .int a, .int i, .int ((nI m))]) (st' := [.int ((s_X5_takeWay (10) (2) a i m I).1)]) (σ' := (mj_KS N, (s_X5_takeWay (10) (2) a i m I).2, mj_PP (10) d r)) 0 rfl trivial ?_
              exact R_ri rfl rfl (mj_leaf (by simp only [s_X5_takeReadWay, mj_tnm (show m < 2147483648 by omega), if_neg h1, if_neg h2, if_neg h3, Bool.false_eq_true, ↓reduceIte, Nat.reduceAdd, Nat.reduceMul, mj_tn0, mj_tn1, mj_tn2, mj_tn3]) (by simp only [s_X5_takeReadWay, mj_tnm (show m < 2147483648 by omega), if_neg h1, if_neg h2, if_neg h3, Bool.false_eq_true, ↓reduceIte, Nat.reduceAdd, Nat.reduceMul, mj_tn0, mj_tn1, mj_tn2, mj_tn3]))
            · skip
              refine R_seg (φ := []) (pc' := 41) (L' := [.ref 1, .int (3), .int a, .int i, .int ((nI m))]) (st' := [.int ((nI m)), .int i, .int a, .int (3), .ref 1]) (σ' := (mj_KS N, I, mj_PP (10) d r)) 4 rfl trivial ?_
              refine R_ce (idx := 143) (mid := 48) (kind := 0) (N := N) (M' := mj_m_X5_takeWay) (As := [.ref 1, .int (3), .int a, .int i, .int ((nI m))]) (rest := []) (I := I) (P := mj_PP (10) d r) (I' := (s_X5_takeWay (10) (3) a i m I).2) (P' := mj_PP (10) d r) (v := some (.int ((s_X5_takeWay (10) (3) a i m I).1))) rfl rfl rfl mj_mc48 mj_dc48 rfl rfl rfl rfl rfl rfl (x_X5_takeWay l b base D z N (10) (3) a i m (by decide) (by decide) I d r hm hl) ?_
              refine R_seg (φ := []) (pc' := 44) (L' := [.ref 1, .int (3), .int a, .int i, .int ((nI m))]) (st' := [.int ((s_X5_takeWay (10) (3) a i m I).1)]) (σ' := (mj_KS N, (s_X5_takeWay (10) (3) a i m I).2, mj_PP (10) d r)) 0 rfl trivial ?_
              exact R_ri rfl rfl (mj_leaf (by simp only [s_X5_takeReadWay, mj_tnm (show m < 2147483648 by omega), if_neg h1, if_neg h2, if_neg h3, Bool.false_eq_true, ↓reduceIte, Nat.reduceAdd, Nat.reduceMul, mj_tn0, mj_tn1, mj_tn2, mj_tn3]) (by simp only [s_X5_takeReadWay, mj_tnm (show m < 2147483648 by omega), if_neg h1, if_neg h2, if_neg h3, Bool.false_eq_true, ↓reduceIte, Nat.reduceAdd, Nat.reduceMul, mj_tn0, mj_tn1, mj_tn2, mj_tn3]))
theorem mj_shu {s : Int32} {I : mj_I} (h : ¬ s_X5_isSheet s I = 0) : 34 + 2 * s.toNatClampNeg + 1 ≠ 29 := by omega
theorem mj_up13 {I : mj_I} {v : Int32} {x : Nat} {y : Int32} (h1 : x ≠ 1 ∨ y ≠ 13) : mj_upI I 1 13 v x y = I x y := by
  by_cases hx1 : x = 1
  · subst hx1
    rw [mj_upI_eq, if_neg (by rcases h1 with q | q; · exact absurd rfl q
                              · exact q)]
  · rw [mj_upI_ne hx1]
theorem mj_trw_fr (cc : Nat) (s a i n : Int32) (hc : cc ≠ 29) (I : mj_I) (x : Nat) (y : Int32) (hx : x ≠ 29) (h1 : x ≠ 1 ∨ y ≠ 13) : (s_X5_takeReadWay cc s a i n I).2 x y = I x y := by
  unfold s_X5_takeReadWay
  repeat' split
  all_goals first
    | exact mj_tw_fr cc s a i _ hc (by omega) I x y hx h1
    | (simp only [s_X5_refuse]; exact mj_up13 h1)
theorem mj_trw_ok (cc : Nat) (s a i n : Int32) (hcc : cc = 2 ∨ cc = 10) (I : mj_I) (h6 : (I cc 0).toInt ≤ 6) (h : (s_X5_takeReadWay cc s a i n I).1 = 0) : ∃ m : Nat, m ≤ 24 ∧ n = nI m ∧ ∀ t : Nat, t < m → mj_in ((s_X5_takeReadWay cc s a i n I).2 29 (nI t)) 6 := by
  revert h
  unfold s_X5_takeReadWay
  split
  · intro h; exact absurd (show (-1 : Int32) = 0 from h) (by decide)
  · split
    · intro h; exact absurd (show (-2 : Int32) = 0 from h) (by decide)
    · split
      · intro h; exact absurd (show (-2 : Int32) = 0 from h) (by decide)
      · next h3 =>
        intro h
        obtain ⟨m, hm, rfl⟩ := mj_rl h3
        refine ⟨m, hm, rfl, ?_⟩
        rw [mj_tnm (show m < 2147483648 by omega)] at h ⊢
        exact mj_tw_ok cc s a i m hm hcc (by omega) I h6 h
