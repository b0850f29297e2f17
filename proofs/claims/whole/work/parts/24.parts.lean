/-! the class: the city, sheets, parts -/
theorem mj_hasin {n s : Int32} {m : Nat} (h : sp_has n s = true) (hn : n.toInt ≤ (m : Int)) : mj_in s m := by
  have := sp_has_spec h
  exact (show 0 ≤ s.toInt ∧ s.toInt < (m : Int) from ⟨this.1, by omega⟩)
theorem mj_has3 {n s : Int32} (h : sp_has n s = true) (hn : n.toInt ≤ 3) : s = 0 ∨ s = 1 ∨ s = 2 := by
  have := sp_has_spec h
  exact mj_c3 this.1 (by omega)
theorem mj_sh4 {k : Int32} {I : mj_I} (h : ¬ s_X5_isSheet k I = 0) : k = 0 ∨ k = 1 ∨ k = 2 ∨ k = 3 := by
  unfold s_X5_isSheet at h
  by_cases h1 : k < 0
  · rw [if_pos h1] at h; exact absurd rfl h
  · rw [if_neg h1] at h
    by_cases h2 : k < 4
    · exact mj_c4 (mj_i0 h1) (mj_iL h2)
    · rw [if_neg h2] at h; exact absurd rfl h
theorem mj_ts4 {x : Int32} (h0 : ¬ x = 0) (h1 : ¬ x = 1) (h2 : ¬ x = 2) (h3 : ¬ x = 3) : x.toInt < 0 ∨ 3 < x.toInt := by
  have a0 : x.toInt ≠ 0 := mj_iE h0
  have a1 : x.toInt ≠ 1 := mj_iE h1
  have a2 : x.toInt ≠ 2 := mj_iE h2
  have a3 : x.toInt ≠ 3 := mj_iE h3
  omega
def s_X5_ofStreet (cc : Nat) (s : Int32) (w : Int32) (I : mj_I) : Int32 := if sp_has (I cc 0) s then (if (w : Int32) < 0 then (-2) else (if (1 : Int32) < w then (-2) else (if (w : Int32) = 0 then (I (cc + 1) s) else (I (cc + 2) s)))) else (-1)
set_option maxHeartbeats 8000000 in
theorem x_X5_ofStreet (l : Launch) (b base : Nat) (D : va_G) (z : mj_K × (Int32 → Int32)) (N : Nat) (cc : Nat) (hcc : cc = 2 ∨ cc = 10) (s : Int32) (w : Int32) (I : mj_I) (d r : Nat) (hn : (I cc 0).toInt ≤ 6) : mj_Rn l b base D z mj_m_X5_ofStreet 0 [.ref 1, .int s, .int w] [] (mj_KS N, I, mj_PP cc d r) (mj_E N (some (.int (s_X5_ofStreet cc s w I))) I (mj_PP cc d r)) := by
  rcases hcc with rfl | rfl
  · skip
    refine R_seg (φ := []) (pc' := 5) (L' := [.ref 1, .int s, .int w]) (st' := [.int s, .ref 2]) (σ' := (mj_KS N, I, mj_PP (2) d r)) 3 rfl trivial ?_
    refine R_ce (idx := 110) (mid := 7) (kind := 3) (N := N) (M' := mj_m_X1_hasStreet) (As := [.ref 2, .int s]) (rest := []) (I := I) (P := mj_PP (2) d r) (I' := I) (P' := mj_PP (2) d r) (v := some (.int (bI (sp_has (I 2 0) s)))) rfl rfl rfl mj_mc7 mj_dc7 rfl rfl rfl rfl rfl rfl (x_hasStreet l b base D z N 2 (by decide) s I (2) d r) ?_
    refine R_seg (φ := []) (pc' := 8) (L' := [.ref 1, .int s, .int w]) (st' := [.int (bI (sp_has (I 2 0) s))]) (σ' := (mj_KS N, I, mj_PP (2) d r)) 0 rfl trivial ?_
    refine R_br (q := (bI (sp_has (I 2 0) s) : Int32) = 0) (t := 11) (f := 13) (rest := []) rfl (fun h1 => ?_) (fun h1 => ?_)
    · skip
      replace h1 := bI_0.mp h1
      refine R_seg (φ := []) (pc' := 12) (L' := [.ref 1, .int s, .int w]) (st' := [.int (-1)]) (σ' := (mj_KS N, I, mj_PP (2) d r)) 1 rfl trivial ?_
      exact R_ri rfl rfl (mj_leaf (by simp only [s_X5_ofStreet, h1, Bool.false_eq_true, ↓reduceIte, Nat.reduceAdd, Nat.reduceMul, mj_tn0, mj_tn1, mj_tn2, mj_tn3]) (by simp only [s_X5_ofStreet, h1, Bool.false_eq_true, ↓reduceIte, Nat.reduceAdd, Nat.reduceMul, mj_tn0, mj_tn1, mj_tn2, mj_tn3]))
    · skip
      replace h1 := bI_1 h1
      refine R_seg (φ := []) (pc' := 14) (L' := [.ref 1, .int s, .int w]) (st' := [.int w]) (σ' := (mj_KS N, I, mj_PP (2) d r)) 1 rfl trivial ?_
      refine R_br (q := (w : Int32) < 0) (t := 22) (f := 17) (rest := []) rfl (fun h2 => ?_) (fun h2 => ?_)
      · skip
        refine R_seg (φ := []) (pc' := 24) (L' := [.ref 1, .int s, .int w]) (st' := [.int (-2)]) (σ' := (mj_KS N, I, mj_PP (2) d r)) 1 rfl trivial ?_
        exact R_ri rfl rfl (mj_leaf (by simp only [s_X5_ofStreet, h1, if_pos h2, Bool.false_eq_true, ↓reduceIte, Nat.reduceAdd, Nat.reduceMul, mj_tn0, mj_tn1, mj_tn2, mj_tn3]) (by simp only [s_X5_ofStreet, h1, if_pos h2, Bool.false_eq_true, ↓reduceIte, Nat.reduceAdd, Nat.reduceMul, mj_tn0, mj_tn1, mj_tn2, mj_tn3]))
      · skip
        refine R_seg (φ := []) (pc' := 19) (L' := [.ref 1, .int s, .int w]) (st' := [.int 1, .int w]) (σ' := (mj_KS N, I, mj_PP (2) d r)) 2 rfl trivial ?_
        refine R_br (q := (1 : Int32) < w) (t := 22) (f := 25) (rest := []) rfl (fun h3 => ?_) (fun h3 => ?_)
        · skip
          refine R_seg (φ := []) (pc' := 24) (L' := [.ref 1, .int s, .int w]) (st' := [.int (-2)]) (σ' := (mj_KS N, I, mj_PP (2) d r)) 1 rfl trivial ?_
          exact R_ri rfl rfl (mj_leaf (by simp only [s_X5_ofStreet, h1, if_neg h2, if_pos h3, Bool.false_eq_true, ↓reduceIte, Nat.reduceAdd, Nat.reduceMul, mj_tn0, mj_tn1, mj_tn2, mj_tn3]) (by simp only [s_X5_ofStreet, h1, if_neg h2, if_pos h3, Bool.false_eq_true, ↓reduceIte, Nat.reduceAdd, Nat.reduceMul, mj_tn0, mj_tn1, mj_tn2, mj_tn3]))
        · skip
          refine R_seg (φ := []) (pc' := 26) (L' := [.ref 1, .int s, .int w]) (st' := [.int w]) (σ' := (mj_KS N, I, mj_PP (2) d r)) 1 rfl trivial ?_
          refine R_br (q := (w : Int32) = 0) (t := 29) (f := 41) (rest := []) rfl (fun h4 => ?_) (fun h4 => ?_)
          · skip
            refine R_seg (φ := [mj_in s 6]) (pc' := 50) (L' := [.ref 1, .int s, .int w]) (st' := [.int (I 3 s)]) (σ' := (mj_KS N, I, mj_PP (2) d r)) 6 rfl ⟨mj_hasin h1 hn, trivial⟩ ?_
            exact R_ri rfl rfl (mj_leaf (by simp only [s_X5_ofStreet, h1, if_neg h2, if_neg h3, if_pos h4, Bool.false_eq_true, ↓reduceIte, Nat.reduceAdd, Nat.reduceMul, mj_tn0, mj_tn1, mj_tn2, mj_tn3]) (by simp only [s_X5_ofStreet, h1, if_neg h2, if_neg h3, if_pos h4, Bool.false_eq_true, ↓reduceIte, Nat.reduceAdd, Nat.reduceMul, mj_tn0, mj_tn1, mj_tn2, mj_tn3]))
          · skip
            refine R_seg (φ := [mj_in s 6]) (pc' := 50) (L' := [.ref 1, .int s, .int w]) (st' := [.int (I 4 s)]) (σ' := (mj_KS N, I, mj_PP (2) d r)) 5 rfl ⟨mj_hasin h1 hn, trivial⟩ ?_
            exact R_ri rfl rfl (mj_leaf (by simp only [s_X5_ofStreet, h1, if_neg h2, if_neg h3, if_neg h4, Bool.false_eq_true, ↓reduceIte, Nat.reduceAdd, Nat.reduceMul, mj_tn0, mj_tn1, mj_tn2, mj_tn3]) (by simp only [s_X5_ofStreet, h1, if_neg h2, if_neg h3, if_neg h4, Bool.false_eq_true, ↓reduceIte, Nat.reduceAdd, Nat.reduceMul, mj_tn0, mj_tn1, mj_tn2, mj_tn3]))
  · skip
    refine R_seg (φ := []) (pc' := 5) (L' := [.ref 1, .int s, .int w]) (st' := [.int s, .ref 10]) (σ' := (mj_KS N, I, mj_PP (10) d r)) 3 rfl trivial ?_
    refine R_ce (idx := 110) (mid := 7) (kind := 3) (N := N) (M' := mj_m_X1_hasStreet) (As := [.ref 10, .int s]) (rest := []) (I := I) (P := mj_PP (10) d r) (I' := I) (P' := mj_PP (10) d r) (v := some (.int (bI (sp_has (I 10 0) s)))) rfl rfl rfl mj_mc7 mj_dc7 rfl rfl rfl rfl rfl rfl (x_hasStreet l b base D z N 10 (by decide) s I (10) d r) ?_
    refine R_seg (φ := []) (pc' := 8) (L' := [.ref 1, .int s, .int w]) (st' := [.int (bI (sp_has (I 10 0) s))]) (σ' := (mj_KS N, I, mj_PP (10) d r)) 0 rfl trivial ?_
    refine R_br (q := (bI (sp_has (I 10 0) s) : Int32) = 0) (t := 11) (f := 13) (rest := []) rfl (fun h1 => ?_) (fun h1 => ?_)
    · skip
      replace h1 := bI_0.mp h1
      refine R_seg (φ := []) (pc' := 12) (L' := [.ref 1, .int s, .int w]) (st' := [.int (-1)]) (σ' := (mj_KS N, I, mj_PP (10) d r)) 1 rfl trivial ?_
      exact R_ri rfl rfl (mj_leaf (by simp only [s_X5_ofStreet, h1, Bool.false_eq_true, ↓reduceIte, Nat.reduceAdd, Nat.reduceMul, mj_tn0, mj_tn1, mj_tn2, mj_tn3]) (by simp only [s_X5_ofStreet, h1, Bool.false_eq_true, ↓reduceIte, Nat.reduceAdd, Nat.reduceMul, mj_tn0, mj_tn1, mj_tn2, mj_tn3]))
    · skip
      replace h1 := bI_1 h1
      refine R_seg (φ := []) (pc' := 14) (L' := [.ref 1, .int s, .int w]) (st' := [.int w]) (σ' := (mj_KS N, I, mj_PP (10) d r)) 1 rfl trivial ?_
      refine R_br (q := (w : Int32) < 0) (t := 22) (f := 17) (rest := []) rfl (fun h2 => ?_) (fun h2 => ?_)
      · skip
        refine R_seg (φ := []) (pc' := 24) (L' := [.ref 1, .int s, .int w]) (st' := [.int (-2)]) (σ' := (mj_KS N, I, mj_PP (10) d r)) 1 rfl trivial ?_
        exact R_ri rfl rfl (mj_leaf (by simp only [s_X5_ofStreet, h1, if_pos h2, Bool.false_eq_true, ↓reduceIte, Nat.reduceAdd, Nat.reduceMul, mj_tn0, mj_tn1, mj_tn2, mj_tn3]) (by simp only [s_X5_ofStreet, h1, if_pos h2, Bool.false_eq_true, ↓reduceIte, Nat.reduceAdd, Nat.reduceMul, mj_tn0, mj_tn1, mj_tn2, mj_tn3]))
      · skip
        refine R_seg (φ := []) (pc' := 19) (L' := [.ref 1, .int s, .int w]) (st' := [.int 1, .int w]) (σ' := (mj_KS N, I, mj_PP (10) d r)) 2 rfl trivial ?_
        refine R_br (q := (1 : Int32) < w) (t := 22) (f := 25) (rest := []) rfl (fun h3 => ?_) (fun h3 => ?_)
        · skip
          refine R_seg (φ := []) (pc' := 24) (L' := [.ref 1, .int s, .int w]) (st' := [.int (-2)]) (σ' := (mj_KS N, I, mj_PP (10) d r)) 1 rfl trivial ?_
          exact R_ri rfl rfl (mj_leaf (by simp only [s_X5_ofStreet, h1, if_neg h2, if_pos h3, Bool.false_eq_true, ↓reduceIte, Nat.reduceAdd, Nat.reduceMul, mj_tn0, mj_tn1, mj_tn2, mj_tn3]) (by simp only [s_X5_ofStreet, h1, if_neg h2, if_pos h3, Bool.false_eq_true, ↓reduceIte, Nat.reduceAdd, Nat.reduceMul, mj_tn0, mj_tn1, mj_tn2, mj_tn3]))
        · skip
          refine R_seg (φ := []) (pc' := 26) (L' := [.ref 1, .int s, .int w]) (st' := [.int w]) (σ' := (mj_KS N, I, mj_PP (10) d r)) 1 rfl trivial ?_
          refine R_br (q := (w : Int32) = 0) (t := 29) (f := 41) (rest := []) rfl (fun h4 => ?_) (fun h4 => ?_)
          · skip
            refine R_seg (φ := [mj_in s 6]) (pc' := 50) (L' := [.ref 1, .int s, .int w]) (st' := [.int (I 11 s)]) (σ' := (mj_KS N, I, mj_PP (10) d r)) 6 rfl ⟨mj_hasin h1 hn, trivial⟩ ?_
            exact R_ri rfl rfl (mj_leaf (by simp only [s_X5_ofStreet, h1, if_neg h2, if_neg h3, if_pos h4, Bool.false_eq_true, ↓reduceIte, Nat.reduceAdd, Nat.reduceMul, mj_tn0, mj_tn1, mj_tn2, mj_tn3]) (by simp only [s_X5_ofStreet, h1, if_neg h2, if_neg h3, if_pos h4, Bool.false_eq_true, ↓reduceIte, Nat.reduceAdd, Nat.reduceMul, mj_tn0, mj_tn1, mj_tn2, mj_tn3]))
          · skip
            refine R_seg (φ := [mj_in s 6]) (pc' := 50) (L' := [.ref 1, .int s, .int w]) (st' := [.int (I 12 s)]) (σ' := (mj_KS N, I, mj_PP (10) d r)) 5 rfl ⟨mj_hasin h1 hn, trivial⟩ ?_
            exact R_ri rfl rfl (mj_leaf (by simp only [s_X5_ofStreet, h1, if_neg h2, if_neg h3, if_neg h4, Bool.false_eq_true, ↓reduceIte, Nat.reduceAdd, Nat.reduceMul, mj_tn0, mj_tn1, mj_tn2, mj_tn3]) (by simp only [s_X5_ofStreet, h1, if_neg h2, if_neg h3, if_neg h4, Bool.false_eq_true, ↓reduceIte, Nat.reduceAdd, Nat.reduceMul, mj_tn0, mj_tn1, mj_tn2, mj_tn3]))
theorem mj_sub1 {w : Int32} (h2 : ¬ w < 0) (h3 : ¬ (3 : Int32) < w) (h4 : ¬ w = 0) : mj_in (w - 1) 3 := by
  obtain ⟨j, hj, rfl⟩ := mj_lit (M := 4) (n := 4) (by decide) h2 (fun q => h3 (Int32.lt_iff_toInt_lt.mpr (by have := Int32.le_iff_toInt_le.mp q; have e4 : (4 : Int32).toInt = 4 := (by decide); have e3 : (3 : Int32).toInt = 3 := (by decide); omega)))
  revert j
  unfold mj_in
  decide
def s_X5_ofPlant (cc : Nat) (q : Int32) (w : Int32) (I : mj_I) : Int32 := if sp_has (I cc 1) q then (if (w : Int32) < 0 then (-2) else (if (3 : Int32) < w then (-2) else (if (w : Int32) = 0 then (I (cc + 3) q) else (I (cc + 4 + 1 + q.toNatClampNeg) (w - 1))))) else (-1)
set_option maxHeartbeats 8000000 in
theorem x_X5_ofPlant (l : Launch) (b base : Nat) (D : va_G) (z : mj_K × (Int32 → Int32)) (N : Nat) (cc : Nat) (hcc : cc = 2 ∨ cc = 10) (q : Int32) (w : Int32) (I : mj_I) (d r : Nat) (hp : (I cc 1).toInt ≤ 3) : mj_Rn l b base D z mj_m_X5_ofPlant 0 [.ref 1, .int q, .int w] [] (mj_KS N, I, mj_PP cc d r) (mj_E N (some (.int (s_X5_ofPlant cc q w I))) I (mj_PP cc d r)) := by
  rcases hcc with rfl | rfl
  · skip
    refine R_seg (φ := []) (pc' := 5) (L' := [.ref 1, .int q, .int w]) (st' := [.int q, .ref 2]) (σ' := (mj_KS N, I, mj_PP (2) d r)) 3 rfl trivial ?_
    refine R_ce (idx := 119) (mid := 8) (kind := 3) (N := N) (M' := mj_m_X1_hasPlant) (As := [.ref 2, .int q]) (rest := []) (I := I) (P := mj_PP (2) d r) (I' := I) (P' := mj_PP (2) d r) (v := some (.int (bI (sp_has (I 2 1) q)))) rfl rfl rfl mj_mc8 mj_dc8 rfl rfl rfl rfl rfl rfl (x_hasPlant l b base D z N 2 (by decide) q I (2) d r) ?_
    refine R_seg (φ := []) (pc' := 8) (L' := [.ref 1, .int q, .int w]) (st' := [.int (bI (sp_has (I 2 1) q))]) (σ' := (mj_KS N, I, mj_PP (2) d r)) 0 rfl trivial ?_
    refine R_br (q := (bI (sp_has (I 2 1) q) : Int32) = 0) (t := 11) (f := 13) (rest := []) rfl (fun h1 => ?_) (fun h1 => ?_)
    · skip
      replace h1 := bI_0.mp h1
      refine R_seg (φ := []) (pc' := 12) (L' := [.ref 1, .int q, .int w]) (st' := [.int (-1)]) (σ' := (mj_KS N, I, mj_PP (2) d r)) 1 rfl trivial ?_
      exact R_ri rfl rfl (mj_leaf (by simp only [s_X5_ofPlant, h1, Bool.false_eq_true, ↓reduceIte, Nat.reduceAdd, Nat.reduceMul, mj_tn0, mj_tn1, mj_tn2, mj_tn3]) (by simp only [s_X5_ofPlant, h1, Bool.false_eq_true, ↓reduceIte, Nat.reduceAdd, Nat.reduceMul, mj_tn0, mj_tn1, mj_tn2, mj_tn3]))
    · skip
      replace h1 := bI_1 h1
      refine R_seg (φ := []) (pc' := 14) (L' := [.ref 1, .int q, .int w]) (st' := [.int w]) (σ' := (mj_KS N, I, mj_PP (2) d r)) 1 rfl trivial ?_
      refine R_br (q := (w : Int32) < 0) (t := 22) (f := 17) (rest := []) rfl (fun h2 => ?_) (fun h2 => ?_)
      · skip
        refine R_seg (φ := []) (pc' := 24) (L' := [.ref 1, .int q, .int w]) (st' := [.int (-2)]) (σ' := (mj_KS N, I, mj_PP (2) d r)) 1 rfl trivial ?_
        exact R_ri rfl rfl (mj_leaf (by simp only [s_X5_ofPlant, h1, if_pos h2, Bool.false_eq_true, ↓reduceIte, Nat.reduceAdd, Nat.reduceMul, mj_tn0, mj_tn1, mj_tn2, mj_tn3]) (by simp only [s_X5_ofPlant, h1, if_pos h2, Bool.false_eq_true, ↓reduceIte, Nat.reduceAdd, Nat.reduceMul, mj_tn0, mj_tn1, mj_tn2, mj_tn3]))
      · skip
        refine R_seg (φ := []) (pc' := 19) (L' := [.ref 1, .int q, .int w]) (st' := [.int 3, .int w]) (σ' := (mj_KS N, I, mj_PP (2) d r)) 2 rfl trivial ?_
        refine R_br (q := (3 : Int32) < w) (t := 22) (f := 25) (rest := []) rfl (fun h3 => ?_) (fun h3 => ?_)
        · skip
          refine R_seg (φ := []) (pc' := 24) (L' := [.ref 1, .int q, .int w]) (st' := [.int (-2)]) (σ' := (mj_KS N, I, mj_PP (2) d r)) 1 rfl trivial ?_
          exact R_ri rfl rfl (mj_leaf (by simp only [s_X5_ofPlant, h1, if_neg h2, if_pos h3, Bool.false_eq_true, ↓reduceIte, Nat.reduceAdd, Nat.reduceMul, mj_tn0, mj_tn1, mj_tn2, mj_tn3]) (by simp only [s_X5_ofPlant, h1, if_neg h2, if_pos h3, Bool.false_eq_true, ↓reduceIte, Nat.reduceAdd, Nat.reduceMul, mj_tn0, mj_tn1, mj_tn2, mj_tn3]))
        · skip
          refine R_seg (φ := []) (pc' := 26) (L' := [.ref 1, .int q, .int w]) (st' := [.int w]) (σ' := (mj_KS N, I, mj_PP (2) d r)) 1 rfl trivial ?_
          refine R_br (q := (w : Int32) = 0) (t := 29) (f := 41) (rest := []) rfl (fun h4 => ?_) (fun h4 => ?_)
          · skip
            refine R_seg (φ := [mj_in q 3]) (pc' := 54) (L' := [.ref 1, .int q, .int w]) (st' := [.int (I 5 q)]) (σ' := (mj_KS N, I, mj_PP (2) d r)) 6 rfl ⟨mj_hasin h1 hp, trivial⟩ ?_
            exact R_ri rfl rfl (mj_leaf (by simp only [s_X5_ofPlant, h1, if_neg h2, if_neg h3, if_pos h4, Bool.false_eq_true, ↓reduceIte, Nat.reduceAdd, Nat.reduceMul, mj_tn0, mj_tn1, mj_tn2, mj_tn3]) (by simp only [s_X5_ofPlant, h1, if_neg h2, if_neg h3, if_pos h4, Bool.false_eq_true, ↓reduceIte, Nat.reduceAdd, Nat.reduceMul, mj_tn0, mj_tn1, mj_tn2, mj_tn3]))
          · skip
            rcases mj_has3 h1 hp with rfl | rfl | rfl
            · skip
              refine R_seg (φ := [mj_in (0) 3, mj_in (w - 1) 3]) (pc' := 54) (L' := [.ref 1, .int (0), .int w]) (st' := [.int (I 7 (w - 1))]) (σ' := (mj_KS N, I, mj_PP (2) d r)) 9 rfl ⟨mj_in_d (by decide), mj_sub1 h2 h3 h4, trivial⟩ ?_
              exact R_ri rfl rfl (mj_leaf (by simp only [s_X5_ofPlant, h1, if_neg h2, if_neg h3, if_neg h4, Bool.false_eq_true, ↓reduceIte, Nat.reduceAdd, Nat.reduceMul, mj_tn0, mj_tn1, mj_tn2, mj_tn3]) (by simp only [s_X5_ofPlant, h1, if_neg h2, if_neg h3, if_neg h4, Bool.false_eq_true, ↓reduceIte, Nat.reduceAdd, Nat.reduceMul, mj_tn0, mj_tn1, mj_tn2, mj_tn3]))
            · skip
              refine R_seg (φ := [mj_in (1) 3, mj_in (w - 1) 3]) (pc' := 54) (L' := [.ref 1, .int (1), .int w]) (st' := [.int (I 8 (w - 1))]) (σ' := (mj_KS N, I, mj_PP (2) d r)) 9 rfl ⟨mj_in_d (by decide), mj_sub1 h2 h3 h4, trivial⟩ ?_
              exact R_ri rfl rfl (mj_leaf (by simp only [s_X5_ofPlant, h1, if_neg h2, if_neg h3, if_neg h4, Bool.false_eq_true, ↓reduceIte, Nat.reduceAdd, Nat.reduceMul, mj_tn0, mj_tn1, mj_tn2, mj_tn3]) (by simp only [s_X5_ofPlant, h1, if_neg h2, if_neg h3, if_neg h4, Bool.false_eq_true, ↓reduceIte, Nat.reduceAdd, Nat.reduceMul, mj_tn0, mj_tn1, mj_tn2, mj_tn3]))
            · skip
              refine R_seg (φ := [mj_in (2) 3, mj_in (w - 1) 3]) (pc' := 54) (L' := [.ref 1, .int (2), .int w]) (st' := [.int (I 9 (w - 1))]) (σ' := (mj_KS N, I, mj_PP (2) d r)) 9 rfl ⟨mj_in_d (by decide), mj_sub1 h2 h3 h4, trivial⟩ ?_
              exact R_ri rfl rfl (mj_leaf (by simp only [s_X5_ofPlant, h1, if_neg h2, if_neg h3, if_neg h4, Bool.false_eq_true, ↓reduceIte, Nat.reduceAdd, Nat.reduceMul, mj_tn0, mj_tn1, mj_tn2, mj_tn3]) (by simp only [s_X5_ofPlant, h1, if_neg h2, if_neg h3, if_neg h4, Bool.false_eq_true, ↓reduceIte, Nat.reduceAdd, Nat.reduceMul, mj_tn0, mj_tn1, mj_tn2, mj_tn3]))
  · skip
    refine R_seg (φ := []) (pc' := 5) (L' := [.ref 1, .int q, .int w]) (st' := [.int q, .ref 10]) (σ' := (mj_KS N, I, mj_PP (10) d r)) 3 rfl trivial ?_
    refine R_ce (idx := 119) (mid := 8) (kind := 3) (N := N) (M' := mj_m_X1_hasPlant) (As := [.ref 10, .int q]) (rest := []) (I := I) (P := mj_PP (10) d r) (I' := I) (P' := mj_PP (10) d r) (v := some (.int (bI (sp_has (I 10 1) q)))) rfl rfl rfl mj_mc8 mj_dc8 rfl rfl rfl rfl rfl rfl (x_hasPlant l b base D z N 10 (by decide) q I (10) d r) ?_
    refine R_seg (φ := []) (pc' := 8) (L' := [.ref 1, .int q, .int w]) (st' := [.int (bI (sp_has (I 10 1) q))]) (σ' := (mj_KS N, I, mj_PP (10) d r)) 0 rfl trivial ?_
    refine R_br (q := (bI (sp_has (I 10 1) q) : Int32) = 0) (t := 11) (f := 13) (rest := []) rfl (fun h1 => ?_) (fun h1 => ?_)
    · skip
      replace h1 := bI_0.mp h1
      refine R_seg (φ := []) (pc' := 12) (L' := [.ref 1, .int q, .int w]) (st' := [.int (-1)]) (σ' := (mj_KS N, I, mj_PP (10) d r)) 1 rfl trivial ?_
      exact R_ri rfl rfl (mj_leaf (by simp only [s_X5_ofPlant, h1, Bool.false_eq_true, ↓reduceIte, Nat.reduceAdd, Nat.reduceMul, mj_tn0, mj_tn1, mj_tn2, mj_tn3]) (by simp only [s_X5_ofPlant, h1, Bool.false_eq_true, ↓reduceIte, Nat.reduceAdd, Nat.reduceMul, mj_tn0, mj_tn1, mj_tn2, mj_tn3]))
    · skip
      replace h1 := bI_1 h1
      refine R_seg (φ := []) (pc' := 14) (L' := [.ref 1, .int q, .int w]) (st' := [.int w]) (σ' := (mj_KS N, I, mj_PP (10) d r)) 1 rfl trivial ?_
      refine R_br (q := (w : Int32) < 0) (t := 22) (f := 17) (rest := []) rfl (fun h2 => ?_) (fun h2 => ?_)
      · skip
        refine R_seg (φ := []) (pc' := 24) (L' := [.ref 1, .int q, .int w]) (st' := [.int (-2)]) (σ' := (mj_KS N, I, mj_PP (10) d r)) 1 rfl trivial ?_
        exact R_ri rfl rfl (mj_leaf (by simp only [s_X5_ofPlant, h1, if_pos h2, Bool.false_eq_true, ↓reduceIte, Nat.reduceAdd, Nat.reduceMul, mj_tn0, mj_tn1, mj_tn2, mj_tn3]) (by simp only [s_X5_ofPlant, h1, if_pos h2, Bool.false_eq_true, ↓reduceIte, Nat.reduceAdd, Nat.reduceMul, mj_tn0, mj_tn1, mj_tn2, mj_tn3]))
      · skip
        refine R_seg (φ := []) (pc' := 19) (L' := [.ref 1, .int q, .int w]) (st' := [.int 3, .int w]) (σ' := (mj_KS N, I, mj_PP (10) d r)) 2 rfl trivial ?_
        refine R_br (q := (3 : Int32) < w) (t := 22) (f := 25) (rest := []) rfl (fun h3 => ?_) (fun h3 => ?_)
        · skip
          refine R_seg (φ := []) (pc' := 24) (L' := [.ref 1, .int q, .int w]) (st' := [.int (-2)]) (σ' := (mj_KS N, I, mj_PP (10) d r)) 1 rfl trivial ?_
          exact R_ri rfl rfl (mj_leaf (by simp only [s_X5_ofPlant, h1, if_neg h2, if_pos h3, Bool.false_eq_true, ↓reduceIte, Nat.reduceAdd, Nat.reduceMul, mj_tn0, mj_tn1, mj_tn2, mj_tn3]) (by simp only [s_X5_ofPlant, h1, if_neg h2, if_pos h3, Bool.false_eq_true, ↓reduceIte, Nat.reduceAdd, Nat.reduceMul, mj_tn0, mj_tn1, mj_tn2, mj_tn3]))
        · skip
          refine R_seg (φ := []) (pc' := 26) (L' := [.ref 1, .int q, .int w]) (st' := [.int w]) (σ' := (mj_KS N, I, mj_PP (10) d r)) 1 rfl trivial ?_
          refine R_br (q := (w : Int32) = 0) (t := 29) (f := 41) (rest := []) rfl (fun h4 => ?_) (fun h4 => ?_)
          · skip
            refine R_seg (φ := [mj_in q 3]) (pc' := 54) (L' := [.ref 1, .int q, .int w]) (st' := [.int (I 13 q)]) (σ' := (mj_KS N, I, mj_PP (10) d r)) 6 rfl ⟨mj_hasin h1 hp, trivial⟩ ?_
            exact R_ri rfl rfl (mj_leaf (by simp only [s_X5_ofPlant, h1, if_neg h2, if_neg h3, if_pos h4, Bool.false_eq_true, ↓reduceIte, Nat.reduceAdd, Nat.reduceMul, mj_tn0, mj_tn1, mj_tn2, mj_tn3]) (by simp only [s_X5_ofPlant, h1, if_neg h2, if_neg h3, if_pos h4, Bool.false_eq_true, ↓reduceIte, Nat.reduceAdd, Nat.reduceMul, mj_tn0, mj_tn1, mj_tn2, mj_tn3]))
          · skip
            rcases mj_has3 h1 hp with rfl | rfl | rfl
            · skip
              refine R_seg (φ := [mj_in (0) 3, mj_in (w - 1) 3]) (pc' := 54) (L' := [.ref 1, .int (0), .int w]) (st' := [.int (I 15 (w - 1))]) (σ' := (mj_KS N, I, mj_PP (10) d r)) 9 rfl ⟨mj_in_d (by decide), mj_sub1 h2 h3 h4, trivial⟩ ?_
              exact R_ri rfl rfl (mj_leaf (by simp only [s_X5_ofPlant, h1, if_neg h2, if_neg h3, if_neg h4, Bool.false_eq_true, ↓reduceIte, Nat.reduceAdd, Nat.reduceMul, mj_tn0, mj_tn1, mj_tn2, mj_tn3]) (by simp only [s_X5_ofPlant, h1, if_neg h2, if_neg h3, if_neg h4, Bool.false_eq_true, ↓reduceIte, Nat.reduceAdd, Nat.reduceMul, mj_tn0, mj_tn1, mj_tn2, mj_tn3]))
            · skip
              refine R_seg (φ := [mj_in (1) 3, mj_in (w - 1) 3]) (pc' := 54) (L' := [.ref 1, .int (1), .int w]) (st' := [.int (I 16 (w - 1))]) (σ' := (mj_KS N, I, mj_PP (10) d r)) 9 rfl ⟨mj_in_d (by decide), mj_sub1 h2 h3 h4, trivial⟩ ?_
              exact R_ri rfl rfl (mj_leaf (by simp only [s_X5_ofPlant, h1, if_neg h2, if_neg h3, if_neg h4, Bool.false_eq_true, ↓reduceIte, Nat.reduceAdd, Nat.reduceMul, mj_tn0, mj_tn1, mj_tn2, mj_tn3]) (by simp only [s_X5_ofPlant, h1, if_neg h2, if_neg h3, if_neg h4, Bool.false_eq_true, ↓reduceIte, Nat.reduceAdd, Nat.reduceMul, mj_tn0, mj_tn1, mj_tn2, mj_tn3]))
            · skip
              refine R_seg (φ := [mj_in (2) 3, mj_in (w - 1) 3]) (pc' := 54) (L' := [.ref 1, .int (2), .int w]) (st' := [.int (I 17 (w - 1))]) (σ' := (mj_KS N, I, mj_PP (10) d r)) 9 rfl ⟨mj_in_d (by decide), mj_sub1 h2 h3 h4, trivial⟩ ?_
              exact R_ri rfl rfl (mj_leaf (by simp only [s_X5_ofPlant, h1, if_neg h2, if_neg h3, if_neg h4, Bool.false_eq_true, ↓reduceIte, Nat.reduceAdd, Nat.reduceMul, mj_tn0, mj_tn1, mj_tn2, mj_tn3]) (by simp only [s_X5_ofPlant, h1, if_neg h2, if_neg h3, if_neg h4, Bool.false_eq_true, ↓reduceIte, Nat.reduceAdd, Nat.reduceMul, mj_tn0, mj_tn1, mj_tn2, mj_tn3]))
def s_X5_let (cc : Nat) (s : Int32) (v : Int32) (I : mj_I) : Int32 × mj_I := if sp_has (I cc 0) s then (if (v : Int32) < 0 then ((-2), I) else (if (v : Int32) < 4 then (I (cc + 1) s, (mj_upI I (cc + 1) s v)) else ((-2), I))) else ((-1), I)
set_option maxHeartbeats 8000000 in
theorem x_X5_let (l : Launch) (b base : Nat) (D : va_G) (z : mj_K × (Int32 → Int32)) (N : Nat) (cc : Nat) (hcc : cc = 2 ∨ cc = 10) (s : Int32) (v : Int32) (I : mj_I) (d r : Nat) (hn : (I cc 0).toInt ≤ 6) : mj_Rn l b base D z mj_m_X5_let 0 [.ref 1, .int s, .int v, mj_mk] [] (mj_KS N, I, mj_PP cc d r) (mj_E N (some (.int (s_X5_let cc s v I).1)) (s_X5_let cc s v I).2 (mj_PP cc d r)) := by
  rcases hcc with rfl | rfl
  · skip
    refine R_seg (φ := []) (pc' := 5) (L' := [.ref 1, .int s, .int v, mj_mk]) (st' := [.int s, .ref 2]) (σ' := (mj_KS N, I, mj_PP (2) d r)) 3 rfl trivial ?_
    refine R_ce (idx := 110) (mid := 7) (kind := 3) (N := N) (M' := mj_m_X1_hasStreet) (As := [.ref 2, .int s]) (rest := []) (I := I) (P := mj_PP (2) d r) (I' := I) (P' := mj_PP (2) d r) (v := some (.int (bI (sp_has (I 2 0) s)))) rfl rfl rfl mj_mc7 mj_dc7 rfl rfl rfl rfl rfl rfl (x_hasStreet l b base D z N 2 (by decide) s I (2) d r) ?_
    refine R_seg (φ := []) (pc' := 8) (L' := [.ref 1, .int s, .int v, mj_mk]) (st' := [.int (bI (sp_has (I 2 0) s))]) (σ' := (mj_KS N, I, mj_PP (2) d r)) 0 rfl trivial ?_
    refine R_br (q := (bI (sp_has (I 2 0) s) : Int32) = 0) (t := 11) (f := 13) (rest := []) rfl (fun h1 => ?_) (fun h1 => ?_)
    · skip
      replace h1 := bI_0.mp h1
      refine R_seg (φ := []) (pc' := 12) (L' := [.ref 1, .int s, .int v, mj_mk]) (st' := [.int (-1)]) (σ' := (mj_KS N, I, mj_PP (2) d r)) 1 rfl trivial ?_
      exact R_ri rfl rfl (mj_leaf (by simp only [s_X5_let, h1, Bool.false_eq_true, ↓reduceIte, Nat.reduceAdd, Nat.reduceMul, mj_tn0, mj_tn1, mj_tn2, mj_tn3]) (by simp only [s_X5_let, h1, Bool.false_eq_true, ↓reduceIte, Nat.reduceAdd, Nat.reduceMul, mj_tn0, mj_tn1, mj_tn2, mj_tn3]))
    · skip
      replace h1 := bI_1 h1
      refine R_seg (φ := []) (pc' := 14) (L' := [.ref 1, .int s, .int v, mj_mk]) (st' := [.int v]) (σ' := (mj_KS N, I, mj_PP (2) d r)) 1 rfl trivial ?_
      refine R_br (q := (v : Int32) < 0) (t := 22) (f := 17) (rest := []) rfl (fun h2 => ?_) (fun h2 => ?_)
      · skip
        refine R_seg (φ := []) (pc' := 24) (L' := [.ref 1, .int s, .int v, mj_mk]) (st' := [.int (-2)]) (σ' := (mj_KS N, I, mj_PP (2) d r)) 1 rfl trivial ?_
        exact R_ri rfl rfl (mj_leaf (by simp only [s_X5_let, h1, if_pos h2, Bool.false_eq_true, ↓reduceIte, Nat.reduceAdd, Nat.reduceMul, mj_tn0, mj_tn1, mj_tn2, mj_tn3]) (by simp only [s_X5_let, h1, if_pos h2, Bool.false_eq_true, ↓reduceIte, Nat.reduceAdd, Nat.reduceMul, mj_tn0, mj_tn1, mj_tn2, mj_tn3]))
      · skip
        refine R_seg (φ := []) (pc' := 19) (L' := [.ref 1, .int s, .int v, mj_mk]) (st' := [.int 4, .int v]) (σ' := (mj_KS N, I, mj_PP (2) d r)) 2 rfl trivial ?_
        refine R_br (q := (v : Int32) < 4) (t := 25) (f := 22) (rest := []) rfl (fun h3 => ?_) (fun h3 => ?_)
        · skip
          refine R_seg (φ := [mj_in s 6, mj_in s 6]) (pc' := 46) (L' := [.ref 1, .int s, .int v, .int (I 3 s)]) (st' := [.int (I 3 s)]) (σ' := (mj_KS N, (mj_upI I 3 s v), mj_PP (2) d r)) 13 rfl ⟨mj_hasin h1 hn, mj_hasin h1 hn, trivial⟩ ?_
          exact R_ri rfl rfl (mj_leaf (by simp only [s_X5_let, h1, if_neg h2, if_pos h3, Bool.false_eq_true, ↓reduceIte, Nat.reduceAdd, Nat.reduceMul, mj_tn0, mj_tn1, mj_tn2, mj_tn3]) (by simp only [s_X5_let, h1, if_neg h2, if_pos h3, Bool.false_eq_true, ↓reduceIte, Nat.reduceAdd, Nat.reduceMul, mj_tn0, mj_tn1, mj_tn2, mj_tn3]))
        · skip
          refine R_seg (φ := []) (pc' := 24) (L' := [.ref 1, .int s, .int v, mj_mk]) (st' := [.int (-2)]) (σ' := (mj_KS N, I, mj_PP (2) d r)) 1 rfl trivial ?_
          exact R_ri rfl rfl (mj_leaf (by simp only [s_X5_let, h1, if_neg h2, if_neg h3, Bool.false_eq_true, ↓reduceIte, Nat.reduceAdd, Nat.reduceMul, mj_tn0, mj_tn1, mj_tn2, mj_tn3]) (by simp only [s_X5_let, h1, if_neg h2, if_neg h3, Bool.false_eq_true, ↓reduceIte, Nat.reduceAdd, Nat.reduceMul, mj_tn0, mj_tn1, mj_tn2, mj_tn3]))
  · skip
    refine R_seg (φ := []) (pc' := 5) (L' := [.ref 1, .int s, .int v, mj_mk]) (st' := [.int s, .ref 10]) (σ' := (mj_KS N, I, mj_PP (10) d r)) 3 rfl trivial ?_
    refine R_ce (idx := 110) (mid := 7) (kind := 3) (N := N) (M' := mj_m_X1_hasStreet) (As := [.ref 10, .int s]) (rest := []) (I := I) (P := mj_PP (10) d r) (I' := I) (P' := mj_PP (10) d r) (v := some (.int (bI (sp_has (I 10 0) s)))) rfl rfl rfl mj_mc7 mj_dc7 rfl rfl rfl rfl rfl rfl (x_hasStreet l b base D z N 10 (by decide) s I (10) d r) ?_
    refine R_seg (φ := []) (pc' := 8) (L' := [.ref 1, .int s, .int v, mj_mk]) (st' := [.int (bI (sp_has (I 10 0) s))]) (σ' := (mj_KS N, I, mj_PP (10) d r)) 0 rfl trivial ?_
    refine R_br (q := (bI (sp_has (I 10 0) s) : Int32) = 0) (t := 11) (f := 13) (rest := []) rfl (fun h1 => ?_) (fun h1 => ?_)
    · skip
      replace h1 := bI_0.mp h1
      refine R_seg (φ := []) (pc' := 12) (L' := [.ref 1, .int s, .int v, mj_mk]) (st' := [.int (-1)]) (σ' := (mj_KS N, I, mj_PP (10) d r)) 1 rfl trivial ?_
      exact R_ri rfl rfl (mj_leaf (by simp only [s_X5_let, h1, Bool.false_eq_true, ↓reduceIte, Nat.reduceAdd, Nat.reduceMul, mj_tn0, mj_tn1, mj_tn2, mj_tn3]) (by simp only [s_X5_let, h1, Bool.false_eq_true, ↓reduceIte, Nat.reduceAdd, Nat.reduceMul, mj_tn0, mj_tn1, mj_tn2, mj_tn3]))
    · skip
      replace h1 := bI_1 h1
      refine R_seg (φ := []) (pc' := 14) (L' := [.ref 1, .int s, .int v, mj_mk]) (st' := [.int v]) (σ' := (mj_KS N, I, mj_PP (10) d r)) 1 rfl trivial ?_
      refine R_br (q := (v : Int32) < 0) (t := 22) (f := 17) (rest := []) rfl (fun h2 => ?_) (fun h2 => ?_)
      · skip
        refine R_seg (φ := []) (pc' := 24) (L' := [.ref 1, .int s, .int v, mj_mk]) (st' := [.int (-2)]) (σ' := (mj_KS N, I, mj_PP (10) d r)) 1 rfl trivial ?_
        exact R_ri rfl rfl (mj_leaf (by simp only [s_X5_let, h1, if_pos h2, Bool.false_eq_true, ↓reduceIte, Nat.reduceAdd, Nat.reduceMul, mj_tn0, mj_tn1, mj_tn2, mj_tn3]) (by simp only [s_X5_let, h1, if_pos h2, Bool.false_eq_true, ↓reduceIte, Nat.reduceAdd, Nat.reduceMul, mj_tn0, mj_tn1, mj_tn2, mj_tn3]))
      · skip
        refine R_seg (φ := []) (pc' := 19) (L' := [.ref 1, .int s, .int v, mj_mk]) (st' := [.int 4, .int v]) (σ' := (mj_KS N, I, mj_PP (10) d r)) 2 rfl trivial ?_
        refine R_br (q := (v : Int32) < 4) (t := 25) (f := 22) (rest := []) rfl (fun h3 => ?_) (fun h3 => ?_)
        · skip
          refine R_seg (φ := [mj_in s 6, mj_in s 6]) (pc' := 46) (L' := [.ref 1, .int s, .int v, .int (I 11 s)]) (st' := [.int (I 11 s)]) (σ' := (mj_KS N, (mj_upI I 11 s v), mj_PP (10) d r)) 13 rfl ⟨mj_hasin h1 hn, mj_hasin h1 hn, trivial⟩ ?_
          exact R_ri rfl rfl (mj_leaf (by simp only [s_X5_let, h1, if_neg h2, if_pos h3, Bool.false_eq_true, ↓reduceIte, Nat.reduceAdd, Nat.reduceMul, mj_tn0, mj_tn1, mj_tn2, mj_tn3]) (by simp only [s_X5_let, h1, if_neg h2, if_pos h3, Bool.false_eq_true, ↓reduceIte, Nat.reduceAdd, Nat.reduceMul, mj_tn0, mj_tn1, mj_tn2, mj_tn3]))
        · skip
          refine R_seg (φ := []) (pc' := 24) (L' := [.ref 1, .int s, .int v, mj_mk]) (st' := [.int (-2)]) (σ' := (mj_KS N, I, mj_PP (10) d r)) 1 rfl trivial ?_
          exact R_ri rfl rfl (mj_leaf (by simp only [s_X5_let, h1, if_neg h2, if_neg h3, Bool.false_eq_true, ↓reduceIte, Nat.reduceAdd, Nat.reduceMul, mj_tn0, mj_tn1, mj_tn2, mj_tn3]) (by simp only [s_X5_let, h1, if_neg h2, if_neg h3, Bool.false_eq_true, ↓reduceIte, Nat.reduceAdd, Nat.reduceMul, mj_tn0, mj_tn1, mj_tn2, mj_tn3]))
def s_X5_corner (cc : Nat) (x : Int32) (y : Int32) (v : Int32) (I : mj_I) : Int32 × mj_I := if sp_has (I cc 0) x then (if sp_has (I cc 0) y then (if (x : Int32) = y then ((-1), I) else (if (bI (sp_cor (I (cc + 2)) x y) : Int32) = v then (0, I) else (1, sp_setc I (cc + 2) x y v))) else ((-1), I)) else ((-1), I)
set_option maxHeartbeats 8000000 in
theorem x_X5_corner (l : Launch) (b base : Nat) (D : va_G) (z : mj_K × (Int32 → Int32)) (N : Nat) (cc : Nat) (hcc : cc = 2 ∨ cc = 10) (x : Int32) (y : Int32) (v : Int32) (I : mj_I) (d r : Nat) (hn : (I cc 0).toInt ≤ 6) : mj_Rn l b base D z mj_m_X5_corner 0 [.ref 1, .int x, .int y, .int v] [] (mj_KS N, I, mj_PP cc d r) (mj_E N (some (.int (s_X5_corner cc x y v I).1)) (s_X5_corner cc x y v I).2 (mj_PP cc d r)) := by
  rcases hcc with rfl | rfl
  · skip
    refine R_seg (φ := []) (pc' := 5) (L' := [.ref 1, .int x, .int y, .int v]) (st' := [.int x, .ref 2]) (σ' := (mj_KS N, I, mj_PP (2) d r)) 3 rfl trivial ?_
    refine R_ce (idx := 110) (mid := 7) (kind := 3) (N := N) (M' := mj_m_X1_hasStreet) (As := [.ref 2, .int x]) (rest := []) (I := I) (P := mj_PP (2) d r) (I' := I) (P' := mj_PP (2) d r) (v := some (.int (bI (sp_has (I 2 0) x)))) rfl rfl rfl mj_mc7 mj_dc7 rfl rfl rfl rfl rfl rfl (x_hasStreet l b base D z N 2 (by decide) x I (2) d r) ?_
    refine R_seg (φ := []) (pc' := 8) (L' := [.ref 1, .int x, .int y, .int v]) (st' := [.int (bI (sp_has (I 2 0) x))]) (σ' := (mj_KS N, I, mj_PP (2) d r)) 0 rfl trivial ?_
    refine R_br (q := (bI (sp_has (I 2 0) x) : Int32) = 0) (t := 27) (f := 11) (rest := []) rfl (fun h1 => ?_) (fun h1 => ?_)
    · skip
      replace h1 := bI_0.mp h1
      refine R_seg (φ := []) (pc' := 28) (L' := [.ref 1, .int x, .int y, .int v]) (st' := [.int (-1)]) (σ' := (mj_KS N, I, mj_PP (2) d r)) 1 rfl trivial ?_
      exact R_ri rfl rfl (mj_leaf (by simp only [s_X5_corner, h1, Bool.false_eq_true, ↓reduceIte, Nat.reduceAdd, Nat.reduceMul, mj_tn0, mj_tn1, mj_tn2, mj_tn3]) (by simp only [s_X5_corner, h1, Bool.false_eq_true, ↓reduceIte, Nat.reduceAdd, Nat.reduceMul, mj_tn0, mj_tn1, mj_tn2, mj_tn3]))
    · skip
      replace h1 := bI_1 h1
      refine R_seg (φ := []) (pc' := 16) (L' := [.ref 1, .int x, .int y, .int v]) (st' := [.int y, .ref 2]) (σ' := (mj_KS N, I, mj_PP (2) d r)) 3 rfl trivial ?_
      refine R_ce (idx := 110) (mid := 7) (kind := 3) (N := N) (M' := mj_m_X1_hasStreet) (As := [.ref 2, .int y]) (rest := []) (I := I) (P := mj_PP (2) d r) (I' := I) (P' := mj_PP (2) d r) (v := some (.int (bI (sp_has (I 2 0) y)))) rfl rfl rfl mj_mc7 mj_dc7 rfl rfl rfl rfl rfl rfl (x_hasStreet l b base D z N 2 (by decide) y I (2) d r) ?_
      refine R_seg (φ := []) (pc' := 19) (L' := [.ref 1, .int x, .int y, .int v]) (st' := [.int (bI (sp_has (I 2 0) y))]) (σ' := (mj_KS N, I, mj_PP (2) d r)) 0 rfl trivial ?_
      refine R_br (q := (bI (sp_has (I 2 0) y) : Int32) = 0) (t := 27) (f := 22) (rest := []) rfl (fun h2 => ?_) (fun h2 => ?_)
      · skip
        replace h2 := bI_0.mp h2
        refine R_seg (φ := []) (pc' := 28) (L' := [.ref 1, .int x, .int y, .int v]) (st' := [.int (-1)]) (σ' := (mj_KS N, I, mj_PP (2) d r)) 1 rfl trivial ?_
        exact R_ri rfl rfl (mj_leaf (by simp only [s_X5_corner, h1, h2, Bool.false_eq_true, ↓reduceIte, Nat.reduceAdd, Nat.reduceMul, mj_tn0, mj_tn1, mj_tn2, mj_tn3]) (by simp only [s_X5_corner, h1, h2, Bool.false_eq_true, ↓reduceIte, Nat.reduceAdd, Nat.reduceMul, mj_tn0, mj_tn1, mj_tn2, mj_tn3]))
      · skip
        replace h2 := bI_1 h2
        refine R_seg (φ := []) (pc' := 24) (L' := [.ref 1, .int x, .int y, .int v]) (st' := [.int y, .int x]) (σ' := (mj_KS N, I, mj_PP (2) d r)) 2 rfl trivial ?_
        refine R_br (q := (x : Int32) = y) (t := 27) (f := 29) (rest := []) rfl (fun h3 => ?_) (fun h3 => ?_)
        · skip
          refine R_seg (φ := []) (pc' := 28) (L' := [.ref 1, .int x, .int y, .int v]) (st' := [.int (-1)]) (σ' := (mj_KS N, I, mj_PP (2) d r)) 1 rfl trivial ?_
          exact R_ri rfl rfl (mj_leaf (by simp only [s_X5_corner, h1, h2, if_pos h3, Bool.false_eq_true, ↓reduceIte, Nat.reduceAdd, Nat.reduceMul, mj_tn0, mj_tn1, mj_tn2, mj_tn3]) (by simp only [s_X5_corner, h1, h2, if_pos h3, Bool.false_eq_true, ↓reduceIte, Nat.reduceAdd, Nat.reduceMul, mj_tn0, mj_tn1, mj_tn2, mj_tn3]))
        · skip
          refine R_seg (φ := []) (pc' := 35) (L' := [.ref 1, .int x, .int y, .int v]) (st' := [.int y, .int x, .ref 2]) (σ' := (mj_KS N, I, mj_PP (2) d r)) 4 rfl trivial ?_
          refine R_ce (idx := 129) (mid := 9) (kind := 3) (N := N) (M' := mj_m_X1_hasCorner) (As := [.ref 2, .int x, .int y]) (rest := []) (I := I) (P := mj_PP (2) d r) (I' := I) (P' := mj_PP (2) d r) (v := some (.int (bI (sp_cor (I 4) x y)))) rfl rfl rfl mj_mc9 mj_dc9 rfl rfl rfl rfl rfl rfl (x_hasCorner l b base D z N 2 (by decide) x y I (2) d r (mj_hasin h1 hn)) ?_
          refine R_seg (φ := []) (pc' := 39) (L' := [.ref 1, .int x, .int y, .int v]) (st' := [.int v, .int (bI (sp_cor (I 4) x y))]) (σ' := (mj_KS N, I, mj_PP (2) d r)) 1 rfl trivial ?_
          refine R_br (q := (bI (sp_cor (I 4) x y) : Int32) = v) (t := 42) (f := 44) (rest := []) rfl (fun h4 => ?_) (fun h4 => ?_)
          · skip
            refine R_seg (φ := []) (pc' := 43) (L' := [.ref 1, .int x, .int y, .int v]) (st' := [.int 0]) (σ' := (mj_KS N, I, mj_PP (2) d r)) 1 rfl trivial ?_
            exact R_ri rfl rfl (mj_leaf (by simp only [s_X5_corner, h1, h2, if_neg h3, if_pos h4, Bool.false_eq_true, ↓reduceIte, Nat.reduceAdd, Nat.reduceMul, mj_tn0, mj_tn1, mj_tn2, mj_tn3]) (by simp only [s_X5_corner, h1, h2, if_neg h3, if_pos h4, Bool.false_eq_true, ↓reduceIte, Nat.reduceAdd, Nat.reduceMul, mj_tn0, mj_tn1, mj_tn2, mj_tn3]))
          · skip
            refine R_seg (φ := []) (pc' := 51) (L' := [.ref 1, .int x, .int y, .int v]) (st' := [.int v, .int y, .int x, .ref 2]) (σ' := (mj_KS N, I, mj_PP (2) d r)) 5 rfl trivial ?_
            refine R_ce (idx := 133) (mid := 11) (kind := 3) (N := N) (M' := mj_m_X1_setCorner) (As := [.ref 2, .int x, .int y, .int v]) (rest := []) (I := I) (P := mj_PP (2) d r) (I' := sp_setc I 4 x y v) (P' := mj_PP (2) d r) (v := none) rfl rfl rfl mj_mc11 mj_dc11 rfl rfl rfl rfl rfl rfl (x_setCorner l b base D z N 2 (by decide) x y v I (2) d r (mj_hasin h1 hn) (mj_hasin h2 hn)) ?_
            refine R_seg (φ := []) (pc' := 55) (L' := [.ref 1, .int x, .int y, .int v]) (st' := [.int 1]) (σ' := (mj_KS N, sp_setc I 4 x y v, mj_PP (2) d r)) 1 rfl trivial ?_
            exact R_ri rfl rfl (mj_leaf (by simp only [s_X5_corner, h1, h2, if_neg h3, if_neg h4, Bool.false_eq_true, ↓reduceIte, Nat.reduceAdd, Nat.reduceMul, mj_tn0, mj_tn1, mj_tn2, mj_tn3]) (by simp only [s_X5_corner, h1, h2, if_neg h3, if_neg h4, Bool.false_eq_true, ↓reduceIte, Nat.reduceAdd, Nat.reduceMul, mj_tn0, mj_tn1, mj_tn2, mj_tn3]))
  · skip
    refine R_seg (φ := []) (pc' := 5) (L' := [.ref 1, .int x, .int y, .int v]) (st' := [.int x, .ref 10]) (σ' := (mj_KS N, I, mj_PP (10) d r)) 3 rfl trivial ?_
    refine R_ce (idx := 110) (mid := 7) (kind := 3) (N := N) (M' := mj_m_X1_hasStreet) (As := [.ref 10, .int x]) (rest := []) (I := I) (P := mj_PP (10) d r) (I' := I) (P' := mj_PP (10) d r) (v := some (.int (bI (sp_has (I 10 0) x)))) rfl rfl rfl mj_mc7 mj_dc7 rfl rfl rfl rfl rfl rfl (x_hasStreet l b base D z N 10 (by decide) x I (10) d r) ?_
    refine R_seg (φ := []) (pc' := 8) (L' := [.ref 1, .int x, .int y, .int v]) (st' := [.int (bI (sp_has (I 10 0) x))]) (σ' := (mj_KS N, I, mj_PP (10) d r)) 0 rfl trivial ?_
    refine R_br (q := (bI (sp_has (I 10 0) x) : Int32) = 0) (t := 27) (f := 11) (rest := []) rfl (fun h1 => ?_) (fun h1 => ?_)
    · skip
      replace h1 := bI_0.mp h1
      refine R_seg (φ := []) (pc' := 28) (L' := [.ref 1, .int x, .int y, .int v]) (st' := [.int (-1)]) (σ' := (mj_KS N, I, mj_PP (10) d r)) 1 rfl trivial ?_
      exact R_ri rfl rfl (mj_leaf (by simp only [s_X5_corner, h1, Bool.false_eq_true, ↓reduceIte, Nat.reduceAdd, Nat.reduceMul, mj_tn0, mj_tn1, mj_tn2, mj_tn3]) (by simp only [s_X5_corner, h1, Bool.false_eq_true, ↓reduceIte, Nat.reduceAdd, Nat.reduceMul, mj_tn0, mj_tn1, mj_tn2, mj_tn3]))
    · skip
      replace h1 := bI_1 h1
      refine R_seg (φ := []) (pc' := 16) (L' := [.ref 1, .int x, .int y, .int v]) (st' := [.int y, .ref 10]) (σ' := (mj_KS N, I, mj_PP (10) d r)) 3 rfl trivial ?_
      refine R_ce (idx := 110) (mid := 7) (kind := 3) (N := N) (M' := mj_m_X1_hasStreet) (As := [.ref 10, .int y]) (rest := []) (I := I) (P := mj_PP (10) d r) (I' := I) (P' := mj_PP (10) d r) (v := some (.int (bI (sp_has (I 10 0) y)))) rfl rfl rfl mj_mc7 mj_dc7 rfl rfl rfl rfl rfl rfl (x_hasStreet l b base D z N 10 (by decide) y I (10) d r) ?_
      refine R_seg (φ := []) (pc' := 19) (L' := [.ref 1, .int x, .int y, .int v]) (st' := [.int (bI (sp_has (I 10 0) y))]) (σ' := (mj_KS N, I, mj_PP (10) d r)) 0 rfl trivial ?_
      refine R_br (q := (bI (sp_has (I 10 0) y) : Int32) = 0) (t := 27) (f := 22) (rest := []) rfl (fun h2 => ?_) (fun h2 => ?_)
      · skip
        replace h2 := bI_0.mp h2
        refine R_seg (φ := []) (pc' := 28) (L' := [.ref 1, .int x, .int y, .int v]) (st' := [.int (-1)]) (σ' := (mj_KS N, I, mj_PP (10) d r)) 1 rfl trivial ?_
        exact R_ri rfl rfl (mj_leaf (by simp only [s_X5_corner, h1, h2, Bool.false_eq_true, ↓reduceIte, Nat.reduceAdd, Nat.reduceMul, mj_tn0, mj_tn1, mj_tn2, mj_tn3]) (by simp only [s_X5_corner, h1, h2, Bool.false_eq_true, ↓reduceIte, Nat.reduceAdd, Nat.reduceMul, mj_tn0, mj_tn1, mj_tn2, mj_tn3]))
      · skip
        replace h2 := bI_1 h2
        refine R_seg (φ := []) (pc' := 24) (L' := [.ref 1, .int x, .int y, .int v]) (st' := [.int y, .int x]) (σ' := (mj_KS N, I, mj_PP (10) d r)) 2 rfl trivial ?_
        refine R_br (q := (x : Int32) = y) (t := 27) (f := 29) (rest := []) rfl (fun h3 => ?_) (fun h3 => ?_)
        · skip
          refine R_seg (φ := []) (pc' := 28) (L' := [.ref 1, .int x, .int y, .int v]) (st' := [.int (-1)]) (σ' := (mj_KS N, I, mj_PP (10) d r)) 1 rfl trivial ?_
          exact R_ri rfl rfl (mj_leaf (by simp only [s_X5_corner, h1, h2, if_pos h3, Bool.false_eq_true, ↓reduceIte, Nat.reduceAdd, Nat.reduceMul, mj_tn0, mj_tn1, mj_tn2, mj_tn3]) (by simp only [s_X5_corner, h1, h2, if_pos h3, Bool.false_eq_true, ↓reduceIte, Nat.reduceAdd, Nat.reduceMul, mj_tn0, mj_tn1, mj_tn2, mj_tn3]))
        · skip
          refine R_seg (φ := []) (pc' := 35) (L' := [.ref 1, .int x, .int y, .int v]) (st' := [.int y, .int x, .ref 10]) (σ' := (mj_KS N, I, mj_PP (10) d r)) 4 rfl trivial ?_
          refine R_ce (idx := 129) (mid := 9) (kind := 3) (N := N) (M' := mj_m_X1_hasCorner) (As := [.ref 10, .int x, .int y]) (rest := []) (I := I) (P := mj_PP (10) d r) (I' := I) (P' := mj_PP (10) d r) (v := some (.int (bI (sp_cor (I 12) x y)))) rfl rfl rfl mj_mc9 mj_dc9 rfl rfl rfl rfl rfl rfl (x_hasCorner l b base D z N 10 (by decide) x y I (10) d r (mj_hasin h1 hn)) ?_
          refine R_seg (φ := []) (pc' := 39) (L' := [.ref 1, .int x, .int y, .int v]) (st' := [.int v, .int (bI (sp_cor (I 12) x y))]) (σ' := (mj_KS N, I, mj_PP (10) d r)) 1 rfl trivial ?_
          refine R_br (q := (bI (sp_cor (I 12) x y) : Int32) = v) (t := 42) (f := 44) (rest := []) rfl (fun h4 => ?_) (fun h4 => ?_)
          · skip
            refine R_seg (φ := []) (pc' := 43) (L' := [.ref 1, .int x, .int y, .int v]) (st' := [.int 0]) (σ' := (mj_KS N, I, mj_PP (10) d r)) 1 rfl trivial ?_
            exact R_ri rfl rfl (mj_leaf (by simp only [s_X5_corner, h1, h2, if_neg h3, if_pos h4, Bool.false_eq_true, ↓reduceIte, Nat.reduceAdd, Nat.reduceMul, mj_tn0, mj_tn1, mj_tn2, mj_tn3]) (by simp only [s_X5_corner, h1, h2, if_neg h3, if_pos h4, Bool.false_eq_true, ↓reduceIte, Nat.reduceAdd, Nat.reduceMul, mj_tn0, mj_tn1, mj_tn2, mj_tn3]))
          · skip
            refine R_seg (φ := []) (pc' := 51) (L' := [.ref 1, .int x, .int y, .int v]) (st' := [.int v, .int y, .int x, .ref 10]) (σ' := (mj_KS N, I, mj_PP (10) d r)) 5 rfl trivial ?_
            refine R_ce (idx := 133) (mid := 11) (kind := 3) (N := N) (M' := mj_m_X1_setCorner) (As := [.ref 10, .int x, .int y, .int v]) (rest := []) (I := I) (P := mj_PP (10) d r) (I' := sp_setc I 12 x y v) (P' := mj_PP (10) d r) (v := none) rfl rfl rfl mj_mc11 mj_dc11 rfl rfl rfl rfl rfl rfl (x_setCorner l b base D z N 10 (by decide) x y v I (10) d r (mj_hasin h1 hn) (mj_hasin h2 hn)) ?_
            refine R_seg (φ := []) (pc' := 55) (L' := [.ref 1, .int x, .int y, .int v]) (st' := [.int 1]) (σ' := (mj_KS N, sp_setc I 12 x y v, mj_PP (10) d r)) 1 rfl trivial ?_
            exact R_ri rfl rfl (mj_leaf (by simp only [s_X5_corner, h1, h2, if_neg h3, if_neg h4, Bool.false_eq_true, ↓reduceIte, Nat.reduceAdd, Nat.reduceMul, mj_tn0, mj_tn1, mj_tn2, mj_tn3]) (by simp only [s_X5_corner, h1, h2, if_neg h3, if_neg h4, Bool.false_eq_true, ↓reduceIte, Nat.reduceAdd, Nat.reduceMul, mj_tn0, mj_tn1, mj_tn2, mj_tn3]))
theorem mj_in8 {x : Int32} (hr : 0 ≤ x.toInt ∧ x.toInt ≤ 8) (h : x < 8) : mj_in x 8 := by
  have := mj_iL h
  exact (show 0 ≤ x.toInt ∧ x.toInt < ((8 : Nat) : Int) from ⟨hr.1, this⟩)
def s_X5_reading (cc : Nat) (q : Int32) (e : Int32) (I : mj_I) : Int32 × mj_I := if sp_has (I cc 1) q then (if (e : Int32) = (-9) then (if (I 1 11 : Int32) < 8 then (((I 1 11) + 1) - 1, (mj_upI (mj_upI (mj_upI I 32 (I 1 11) q) 33 (I 1 11) e) 1 11 ((I 1 11) + 1))) else ((-4), I)) else (if (e : Int32) < 0 then ((-2), I) else (if (e : Int32) < 24 then (if (I 1 11 : Int32) < 8 then (((I 1 11) + 1) - 1, (mj_upI (mj_upI (mj_upI I 32 (I 1 11) q) 33 (I 1 11) e) 1 11 ((I 1 11) + 1))) else ((-4), I)) else ((-2), I)))) else ((-1), I)
set_option maxHeartbeats 8000000 in
theorem x_X5_reading (l : Launch) (b base : Nat) (D : va_G) (z : mj_K × (Int32 → Int32)) (N : Nat) (cc : Nat) (hcc : cc = 2 ∨ cc = 10) (q : Int32) (e : Int32) (I : mj_I) (d r : Nat) (hr : 0 ≤ (I 1 11).toInt ∧ (I 1 11).toInt ≤ 8) : mj_Rn l b base D z mj_m_X5_reading 0 [.ref 1, .int q, .int e] [] (mj_KS N, I, mj_PP cc d r) (mj_E N (some (.int (s_X5_reading cc q e I).1)) (s_X5_reading cc q e I).2 (mj_PP cc d r)) := by
  rcases hcc with rfl | rfl
  · skip
    refine R_seg (φ := []) (pc' := 5) (L' := [.ref 1, .int q, .int e]) (st' := [.int q, .ref 2]) (σ' := (mj_KS N, I, mj_PP (2) d r)) 3 rfl trivial ?_
    refine R_ce (idx := 119) (mid := 8) (kind := 3) (N := N) (M' := mj_m_X1_hasPlant) (As := [.ref 2, .int q]) (rest := []) (I := I) (P := mj_PP (2) d r) (I' := I) (P' := mj_PP (2) d r) (v := some (.int (bI (sp_has (I 2 1) q)))) rfl rfl rfl mj_mc8 mj_dc8 rfl rfl rfl rfl rfl rfl (x_hasPlant l b base D z N 2 (by decide) q I (2) d r) ?_
    refine R_seg (φ := []) (pc' := 8) (L' := [.ref 1, .int q, .int e]) (st' := [.int (bI (sp_has (I 2 1) q))]) (σ' := (mj_KS N, I, mj_PP (2) d r)) 0 rfl trivial ?_
    refine R_br (q := (bI (sp_has (I 2 1) q) : Int32) = 0) (t := 11) (f := 13) (rest := []) rfl (fun h1 => ?_) (fun h1 => ?_)
    · skip
      replace h1 := bI_0.mp h1
      refine R_seg (φ := []) (pc' := 12) (L' := [.ref 1, .int q, .int e]) (st' := [.int (-1)]) (σ' := (mj_KS N, I, mj_PP (2) d r)) 1 rfl trivial ?_
      exact R_ri rfl rfl (mj_leaf (by simp only [s_X5_reading, h1, Bool.false_eq_true, ↓reduceIte, Nat.reduceAdd, Nat.reduceMul, mj_tn0, mj_tn1, mj_tn2, mj_tn3]) (by simp only [s_X5_reading, h1, Bool.false_eq_true, ↓reduceIte, Nat.reduceAdd, Nat.reduceMul, mj_tn0, mj_tn1, mj_tn2, mj_tn3]))
    · skip
      replace h1 := bI_1 h1
      refine R_seg (φ := []) (pc' := 16) (L' := [.ref 1, .int q, .int e]) (st' := [.int (-9), .int e]) (σ' := (mj_KS N, I, mj_PP (2) d r)) 2 rfl trivial ?_
      refine R_br (q := (e : Int32) = (-9)) (t := 32) (f := 19) (rest := []) rfl (fun h2 => ?_) (fun h2 => ?_)
      · skip
        refine R_seg (φ := []) (pc' := 38) (L' := [.ref 1, .int q, .int e]) (st' := [.int 8, .int (I 1 11)]) (σ' := (mj_KS N, I, mj_PP (2) d r)) 3 rfl trivial ?_
        refine R_br (q := (I 1 11 : Int32) < 8) (t := 44) (f := 41) (rest := []) rfl (fun h3 => ?_) (fun h3 => ?_)
        · skip
          refine R_seg (φ := [mj_in (I 1 11) 8, mj_in (I 1 11) 8]) (pc' := 80) (L' := [.ref 1, .int q, .int e]) (st' := [.int (((I 1 11) + 1) - 1)]) (σ' := (mj_KS N, (mj_upI (mj_upI (mj_upI I 32 (I 1 11) q) 33 (I 1 11) e) 1 11 ((I 1 11) + 1)), mj_PP (2) d r)) 22 rfl ⟨mj_in8 hr (by assumption), mj_in8 hr (by assumption), trivial⟩ ?_
          exact R_ri rfl rfl (mj_leaf (by simp only [s_X5_reading, h1, if_pos h2, if_pos h3, Bool.false_eq_true, ↓reduceIte, Nat.reduceAdd, Nat.reduceMul, mj_tn0, mj_tn1, mj_tn2, mj_tn3]) (by simp only [s_X5_reading, h1, if_pos h2, if_pos h3, Bool.false_eq_true, ↓reduceIte, Nat.reduceAdd, Nat.reduceMul, mj_tn0, mj_tn1, mj_tn2, mj_tn3]))
        · skip
          refine R_seg (φ := []) (pc' := 43) (L' := [.ref 1, .int q, .int e]) (st' := [.int (-4)]) (σ' := (mj_KS N, I, mj_PP (2) d r)) 1 rfl trivial ?_
          exact R_ri rfl rfl (mj_leaf (by simp only [s_X5_reading, h1, if_pos h2, if_neg h3, Bool.false_eq_true, ↓reduceIte, Nat.reduceAdd, Nat.reduceMul, mj_tn0, mj_tn1, mj_tn2, mj_tn3]) (by simp only [s_X5_reading, h1, if_pos h2, if_neg h3, Bool.false_eq_true, ↓reduceIte, Nat.reduceAdd, Nat.reduceMul, mj_tn0, mj_tn1, mj_tn2, mj_tn3]))
      · skip
        refine R_seg (φ := []) (pc' := 20) (L' := [.ref 1, .int q, .int e]) (st' := [.int e]) (σ' := (mj_KS N, I, mj_PP (2) d r)) 1 rfl trivial ?_
        refine R_br (q := (e : Int32) < 0) (t := 29) (f := 23) (rest := []) rfl (fun h4 => ?_) (fun h4 => ?_)
        · skip
          refine R_seg (φ := []) (pc' := 31) (L' := [.ref 1, .int q, .int e]) (st' := [.int (-2)]) (σ' := (mj_KS N, I, mj_PP (2) d r)) 1 rfl trivial ?_
          exact R_ri rfl rfl (mj_leaf (by simp only [s_X5_reading, h1, if_neg h2, if_pos h4, Bool.false_eq_true, ↓reduceIte, Nat.reduceAdd, Nat.reduceMul, mj_tn0, mj_tn1, mj_tn2, mj_tn3]) (by simp only [s_X5_reading, h1, if_neg h2, if_pos h4, Bool.false_eq_true, ↓reduceIte, Nat.reduceAdd, Nat.reduceMul, mj_tn0, mj_tn1, mj_tn2, mj_tn3]))
        · skip
          refine R_seg (φ := []) (pc' := 26) (L' := [.ref 1, .int q, .int e]) (st' := [.int 24, .int e]) (σ' := (mj_KS N, I, mj_PP (2) d r)) 2 rfl trivial ?_
          refine R_br (q := (e : Int32) < 24) (t := 32) (f := 29) (rest := []) rfl (fun h5 => ?_) (fun h5 => ?_)
          · skip
            refine R_seg (φ := []) (pc' := 38) (L' := [.ref 1, .int q, .int e]) (st' := [.int 8, .int (I 1 11)]) (σ' := (mj_KS N, I, mj_PP (2) d r)) 3 rfl trivial ?_
            refine R_br (q := (I 1 11 : Int32) < 8) (t := 44) (f := 41) (rest := []) rfl (fun h6 => ?_) (fun h6 => ?_)
            · skip
              refine R_seg (φ := [mj_in (I 1 11) 8, mj_in (I 1 11) 8]) (pc' := 80) (L' := [.ref 1, .int q, .int e]) (st' := [.int (((I 1 11) + 1) - 1)]) (σ' := (mj_KS N, (mj_upI (mj_upI (mj_upI I 32 (I 1 11) q) 33 (I 1 11) e) 1 11 ((I 1 11) + 1)), mj_PP (2) d r)) 22 rfl ⟨mj_in8 hr (by assumption), mj_in8 hr (by assumption), trivial⟩ ?_
              exact R_ri rfl rfl (mj_leaf (by simp only [s_X5_reading, h1, if_neg h2, if_neg h4, if_pos h5, if_pos h6, Bool.false_eq_true, ↓reduceIte, Nat.reduceAdd, Nat.reduceMul, mj_tn0, mj_tn1, mj_tn2, mj_tn3]) (by simp only [s_X5_reading, h1, if_neg h2, if_neg h4, if_pos h5, if_pos h6, Bool.false_eq_true, ↓reduceIte, Nat.reduceAdd, Nat.reduceMul, mj_tn0, mj_tn1, mj_tn2, mj_tn3]))
            · skip
              refine R_seg (φ := []) (pc' := 43) (L' := [.ref 1, .int q, .int e]) (st' := [.int (-4)]) (σ' := (mj_KS N, I, mj_PP (2) d r)) 1 rfl trivial ?_
              exact R_ri rfl rfl (mj_leaf (by simp only [s_X5_reading, h1, if_neg h2, if_neg h4, if_pos h5, if_neg h6, Bool.false_eq_true, ↓reduceIte, Nat.reduceAdd, Nat.reduceMul, mj_tn0, mj_tn1, mj_tn2, mj_tn3]) (by simp only [s_X5_reading, h1, if_neg h2, if_neg h4, if_pos h5, if_neg h6, Bool.false_eq_true, ↓reduceIte, Nat.reduceAdd, Nat.reduceMul, mj_tn0, mj_tn1, mj_tn2, mj_tn3]))
          · skip
            refine R_seg (φ := []) (pc' := 31) (L' := [.ref 1, .int q, .int e]) (st' := [.int (-2)]) (σ' := (mj_KS N, I, mj_PP (2) d r)) 1 rfl trivial ?_
            exact R_ri rfl rfl (mj_leaf (by simp only [s_X5_reading, h1, if_neg h2, if_neg h4, if_neg h5, Bool.false_eq_true, ↓reduceIte, Nat.reduceAdd, Nat.reduceMul, mj_tn0, mj_tn1, mj_tn2, mj_tn3]) (by simp only [s_X5_reading, h1, if_neg h2, if_neg h4, if_neg h5, Bool.false_eq_true, ↓reduceIte, Nat.reduceAdd, Nat.reduceMul, mj_tn0, mj_tn1, mj_tn2, mj_tn3]))
  · skip
    refine R_seg (φ := []) (pc' := 5) (L' := [.ref 1, .int q, .int e]) (st' := [.int q, .ref 10]) (σ' := (mj_KS N, I, mj_PP (10) d r)) 3 rfl trivial ?_
    refine R_ce (idx := 119) (mid := 8) (kind := 3) (N := N) (M' := mj_m_X1_hasPlant) (As := [.ref 10, .int q]) (rest := []) (I := I) (P := mj_PP (10) d r) (I' := I) (P' := mj_PP (10) d r) (v := some (.int (bI (sp_has (I 10 1) q)))) rfl rfl rfl mj_mc8 mj_dc8 rfl rfl rfl rfl rfl rfl (x_hasPlant l b base D z N 10 (by decide) q I (10) d r) ?_
    refine R_seg (φ := []) (pc' := 8) (L' := [.ref 1, .int q, .int e]) (st' := [.int (bI (sp_has (I 10 1) q))]) (σ' := (mj_KS N, I, mj_PP (10) d r)) 0 rfl trivial ?_
    refine R_br (q := (bI (sp_has (I 10 1) q) : Int32) = 0) (t := 11) (f := 13) (rest := []) rfl (fun h1 => ?_) (fun h1 => ?_)
    · skip
      replace h1 := bI_0.mp h1
      refine R_seg (φ := []) (pc' := 12) (L' := [.ref 1, .int q, .int e]) (st' := [.int (-1)]) (σ' := (mj_KS N, I, mj_PP (10) d r)) 1 rfl trivial ?_
      exact R_ri rfl rfl (mj_leaf (by simp only [s_X5_reading, h1, Bool.false_eq_true, ↓reduceIte, Nat.reduceAdd, Nat.reduceMul, mj_tn0, mj_tn1, mj_tn2, mj_tn3]) (by simp only [s_X5_reading, h1, Bool.false_eq_true, ↓reduceIte, Nat.reduceAdd, Nat.reduceMul, mj_tn0, mj_tn1, mj_tn2, mj_tn3]))
    · skip
      replace h1 := bI_1 h1
      refine R_seg (φ := []) (pc' := 16) (L' := [.ref 1, .int q, .int e]) (st' := [.int (-9), .int e]) (σ' := (mj_KS N, I, mj_PP (10) d r)) 2 rfl trivial ?_
      refine R_br (q := (e : Int32) = (-9)) (t := 32) (f := 19) (rest := []) rfl (fun h2 => ?_) (fun h2 => ?_)
      · skip
        refine R_seg (φ := []) (pc' := 38) (L' := [.ref 1, .int q, .int e]) (st' := [.int 8, .int (I 1 11)]) (σ' := (mj_KS N, I, mj_PP (10) d r)) 3 rfl trivial ?_
        refine R_br (q := (I 1 11 : Int32) < 8) (t := 44) (f := 41) (rest := []) rfl (fun h3 => ?_) (fun h3 => ?_)
        · skip
          refine R_seg (φ := [mj_in (I 1 11) 8, mj_in (I 1 11) 8]) (pc' := 80) (L' := [.ref 1, .int q, .int e]) (st' := [.int (((I 1 11) + 1) - 1)]) (σ' := (mj_KS N, (mj_upI (mj_upI (mj_upI I 32 (I 1 11) q) 33 (I 1 11) e) 1 11 ((I 1 11) + 1)), mj_PP (10) d r)) 22 rfl ⟨mj_in8 hr (by assumption), mj_in8 hr (by assumption), trivial⟩ ?_
          exact R_ri rfl rfl (mj_leaf (by simp only [s_X5_reading, h1, if_pos h2, if_pos h3, Bool.false_eq_true, ↓reduceIte, Nat.reduceAdd, Nat.reduceMul, mj_tn0, mj_tn1, mj_tn2, mj_tn3]) (by simp only [s_X5_reading, h1, if_pos h2, if_pos h3, Bool.false_eq_true, ↓reduceIte, Nat.reduceAdd, Nat.reduceMul, mj_tn0, mj_tn1, mj_tn2, mj_tn3]))
        · skip
          refine R_seg (φ := []) (pc' := 43) (L' := [.ref 1, .int q, .int e]) (st' := [.int (-4)]) (σ' := (mj_KS N, I, mj_PP (10) d r)) 1 rfl trivial ?_
          exact R_ri rfl rfl (mj_leaf (by simp only [s_X5_reading, h1, if_pos h2, if_neg h3, Bool.false_eq_true, ↓reduceIte, Nat.reduceAdd, Nat.reduceMul, mj_tn0, mj_tn1, mj_tn2, mj_tn3]) (by simp only [s_X5_reading, h1, if_pos h2, if_neg h3, Bool.false_eq_true, ↓reduceIte, Nat.reduceAdd, Nat.reduceMul, mj_tn0, mj_tn1, mj_tn2, mj_tn3]))
      · skip
        refine R_seg (φ := []) (pc' := 20) (L' := [.ref 1, .int q, .int e]) (st' := [.int e]) (σ' := (mj_KS N, I, mj_PP (10) d r)) 1 rfl trivial ?_
        refine R_br (q := (e : Int32) < 0) (t := 29) (f := 23) (rest := []) rfl (fun h4 => ?_) (fun h4 => ?_)
        · skip
          refine R_seg (φ := []) (pc' := 31) (L' := [.ref 1, .int q, .int e]) (st' := [.int (-2)]) (σ' := (mj_KS N, I, mj_PP (10) d r)) 1 rfl trivial ?_
          exact R_ri rfl rfl (mj_leaf (by simp only [s_X5_reading, h1, if_neg h2, if_pos h4, Bool.false_eq_true, ↓reduceIte, Nat.reduceAdd, Nat.reduceMul, mj_tn0, mj_tn1, mj_tn2, mj_tn3]) (by simp only [s_X5_reading, h1, if_neg h2, if_pos h4, Bool.false_eq_true, ↓reduceIte, Nat.reduceAdd, Nat.reduceMul, mj_tn0, mj_tn1, mj_tn2, mj_tn3]))
        · skip
          refine R_seg (φ := []) (pc' := 26) (L' := [.ref 1, .int q, .int e]) (st' := [.int 24, .int e]) (σ' := (mj_KS N, I, mj_PP (10) d r)) 2 rfl trivial ?_
          refine R_br (q := (e : Int32) < 24) (t := 32) (f := 29) (rest := []) rfl (fun h5 => ?_) (fun h5 => ?_)
          · skip
            refine R_seg (φ := []) (pc' := 38) (L' := [.ref 1, .int q, .int e]) (st' := [.int 8, .int (I 1 11)]) (σ' := (mj_KS N, I, mj_PP (10) d r)) 3 rfl trivial ?_
            refine R_br (q := (I 1 11 : Int32) < 8) (t := 44) (f := 41) (rest := []) rfl (fun h6 => ?_) (fun h6 => ?_)
            · skip
              refine R_seg (φ := [mj_in (I 1 11) 8, mj_in (I 1 11) 8]) (pc' := 80) (L' := [.ref 1, .int q, .int e]) (st' := [.int (((I 1 11) + 1) - 1)]) (σ' := (mj_KS N, (mj_upI (mj_upI (mj_upI I 32 (I 1 11) q) 33 (I 1 11) e) 1 11 ((I 1 11) + 1)), mj_PP (10) d r)) 22 rfl ⟨mj_in8 hr (by assumption), mj_in8 hr (by assumption), trivial⟩ ?_
              exact R_ri rfl rfl (mj_leaf (by simp only [s_X5_reading, h1, if_neg h2, if_neg h4, if_pos h5, if_pos h6, Bool.false_eq_true, ↓reduceIte, Nat.reduceAdd, Nat.reduceMul, mj_tn0, mj_tn1, mj_tn2, mj_tn3]) (by simp only [s_X5_reading, h1, if_neg h2, if_neg h4, if_pos h5, if_pos h6, Bool.false_eq_true, ↓reduceIte, Nat.reduceAdd, Nat.reduceMul, mj_tn0, mj_tn1, mj_tn2, mj_tn3]))
            · skip
              refine R_seg (φ := []) (pc' := 43) (L' := [.ref 1, .int q, .int e]) (st' := [.int (-4)]) (σ' := (mj_KS N, I, mj_PP (10) d r)) 1 rfl trivial ?_
              exact R_ri rfl rfl (mj_leaf (by simp only [s_X5_reading, h1, if_neg h2, if_neg h4, if_pos h5, if_neg h6, Bool.false_eq_true, ↓reduceIte, Nat.reduceAdd, Nat.reduceMul, mj_tn0, mj_tn1, mj_tn2, mj_tn3]) (by simp only [s_X5_reading, h1, if_neg h2, if_neg h4, if_pos h5, if_neg h6, Bool.false_eq_true, ↓reduceIte, Nat.reduceAdd, Nat.reduceMul, mj_tn0, mj_tn1, mj_tn2, mj_tn3]))
          · skip
            refine R_seg (φ := []) (pc' := 31) (L' := [.ref 1, .int q, .int e]) (st' := [.int (-2)]) (σ' := (mj_KS N, I, mj_PP (10) d r)) 1 rfl trivial ?_
            exact R_ri rfl rfl (mj_leaf (by simp only [s_X5_reading, h1, if_neg h2, if_neg h4, if_neg h5, Bool.false_eq_true, ↓reduceIte, Nat.reduceAdd, Nat.reduceMul, mj_tn0, mj_tn1, mj_tn2, mj_tn3]) (by simp only [s_X5_reading, h1, if_neg h2, if_neg h4, if_neg h5, Bool.false_eq_true, ↓reduceIte, Nat.reduceAdd, Nat.reduceMul, mj_tn0, mj_tn1, mj_tn2, mj_tn3]))
def s_X5_sheet (k : Int32) (a : Int32) (n : Int32) (I : mj_I) : Int32 × mj_I := if ((s_X5_isSheet k I) : Int32) = 0 then ((s_X5_refuse (-1) I).1, (s_X5_refuse (-1) I).2) else (if ((s_X5_isLane a I) : Int32) = 0 then ((s_X5_refuse (-2) I).1, (s_X5_refuse (-2) I).2) else (if (60 : Int32) < n then ((s_X5_refuse (-2) I).1, (s_X5_refuse (-2) I).2) else (if (n : Int32) < 0 then ((s_X5_comeTo 4 I).1, (s_X5_comeTo 4 I).2) else (1, sp_ren (mj_upI I 1 13 0) (34 + 2 * k.toNatClampNeg) a n))))
set_option maxHeartbeats 8000000 in
theorem x_X5_sheet (l : Launch) (b base : Nat) (D : va_G) (z : mj_K × (Int32 → Int32)) (N : Nat) (k : Int32) (a : Int32) (n : Int32) (I : mj_I) (c d r : Nat) : mj_Rn l b base D z mj_m_X5_sheet 0 [.ref 1, .int k, .int a, .int n] [] (mj_KS N, I, mj_PP c d r) (mj_E N (some (.int (s_X5_sheet k a n I).1)) (s_X5_sheet k a n I).2 (mj_PP c d r)) := by
  refine R_seg (φ := []) (pc' := 1) (L' := [.ref 1, .int k, .int a, .int n]) (st' := [.int k]) (σ' := (mj_KS N, I, mj_PP c d r)) 1 rfl trivial ?_
  refine R_ce (idx := 75) (mid := 88) (kind := 1) (N := N) (M' := mj_m_X5_isSheet) (As := [.int k]) (rest := []) (I := I) (P := mj_PP c d r) (I' := I) (P' := mj_PP c d r) (v := some (.int (s_X5_isSheet k I))) rfl rfl rfl mj_mc88 mj_dc88 rfl rfl rfl rfl rfl rfl (x_X5_isSheet l b base D z N k I c d r) ?_
  refine R_seg (φ := []) (pc' := 4) (L' := [.ref 1, .int k, .int a, .int n]) (st' := [.int (s_X5_isSheet k I)]) (σ' := (mj_KS N, I, mj_PP c d r)) 0 rfl trivial ?_
  refine R_br (q := ((s_X5_isSheet k I) : Int32) = 0) (t := 7) (f := 13) (rest := []) rfl (fun h1 => ?_) (fun h1 => ?_)
  · skip
    refine R_seg (φ := []) (pc' := 9) (L' := [.ref 1, .int k, .int a, .int n]) (st' := [.int (-1), .ref 1]) (σ' := (mj_KS N, I, mj_PP c d r)) 2 rfl trivial ?_
    refine R_ce (idx := 79) (mid := 90) (kind := 0) (N := N) (M' := mj_m_X5_refuse) (As := [.ref 1, .int (-1)]) (rest := []) (I := I) (P := mj_PP c d r) (I' := (s_X5_refuse (-1) I).2) (P' := mj_PP c d r) (v := some (.int ((s_X5_refuse (-1) I).1))) rfl rfl rfl mj_mc90 mj_dc90 rfl rfl rfl rfl rfl rfl (x_X5_refuse l b base D z N (-1) I c d r) ?_
    refine R_seg (φ := []) (pc' := 12) (L' := [.ref 1, .int k, .int a, .int n]) (st' := [.int ((s_X5_refuse (-1) I).1)]) (σ' := (mj_KS N, (s_X5_refuse (-1) I).2, mj_PP c d r)) 0 rfl trivial ?_
    exact R_ri rfl rfl (mj_leaf (by simp only [s_X5_sheet, if_pos h1, Bool.false_eq_true, ↓reduceIte, Nat.reduceAdd, Nat.reduceMul, mj_tn0, mj_tn1, mj_tn2, mj_tn3]) (by simp only [s_X5_sheet, if_pos h1, Bool.false_eq_true, ↓reduceIte, Nat.reduceAdd, Nat.reduceMul, mj_tn0, mj_tn1, mj_tn2, mj_tn3]))
  · skip
    refine R_seg (φ := []) (pc' := 14) (L' := [.ref 1, .int k, .int a, .int n]) (st' := [.int a]) (σ' := (mj_KS N, I, mj_PP c d r)) 1 rfl trivial ?_
    refine R_ce (idx := 83) (mid := 89) (kind := 1) (N := N) (M' := mj_m_X5_isLane) (As := [.int a]) (rest := []) (I := I) (P := mj_PP c d r) (I' := I) (P' := mj_PP c d r) (v := some (.int (s_X5_isLane a I))) rfl rfl rfl mj_mc89 mj_dc89 rfl rfl rfl rfl rfl rfl (x_X5_isLane l b base D z N a I c d r) ?_
    refine R_seg (φ := []) (pc' := 17) (L' := [.ref 1, .int k, .int a, .int n]) (st' := [.int (s_X5_isLane a I)]) (σ' := (mj_KS N, I, mj_PP c d r)) 0 rfl trivial ?_
    refine R_br (q := ((s_X5_isLane a I) : Int32) = 0) (t := 26) (f := 20) (rest := []) rfl (fun h2 => ?_) (fun h2 => ?_)
    · skip
      refine R_seg (φ := []) (pc' := 29) (L' := [.ref 1, .int k, .int a, .int n]) (st' := [.int (-2), .ref 1]) (σ' := (mj_KS N, I, mj_PP c d r)) 2 rfl trivial ?_
      refine R_ce (idx := 79) (mid := 90) (kind := 0) (N := N) (M' := mj_m_X5_refuse) (As := [.ref 1, .int (-2)]) (rest := []) (I := I) (P := mj_PP c d r) (I' := (s_X5_refuse (-2) I).2) (P' := mj_PP c d r) (v := some (.int ((s_X5_refuse (-2) I).1))) rfl rfl rfl mj_mc90 mj_dc90 rfl rfl rfl rfl rfl rfl (x_X5_refuse l b base D z N (-2) I c d r) ?_
      refine R_seg (φ := []) (pc' := 32) (L' := [.ref 1, .int k, .int a, .int n]) (st' := [.int ((s_X5_refuse (-2) I).1)]) (σ' := (mj_KS N, (s_X5_refuse (-2) I).2, mj_PP c d r)) 0 rfl trivial ?_
      exact R_ri rfl rfl (mj_leaf (by simp only [s_X5_sheet, if_neg h1, if_pos h2, Bool.false_eq_true, ↓reduceIte, Nat.reduceAdd, Nat.reduceMul, mj_tn0, mj_tn1, mj_tn2, mj_tn3]) (by simp only [s_X5_sheet, if_neg h1, if_pos h2, Bool.false_eq_true, ↓reduceIte, Nat.reduceAdd, Nat.reduceMul, mj_tn0, mj_tn1, mj_tn2, mj_tn3]))
    · skip
      refine R_seg (φ := []) (pc' := 23) (L' := [.ref 1, .int k, .int a, .int n]) (st' := [.int 60, .int n]) (σ' := (mj_KS N, I, mj_PP c d r)) 2 rfl trivial ?_
      refine R_br (q := (60 : Int32) < n) (t := 26) (f := 33) (rest := []) rfl (fun h3 => ?_) (fun h3 => ?_)
      · skip
        refine R_seg (φ := []) (pc' := 29) (L' := [.ref 1, .int k, .int a, .int n]) (st' := [.int (-2), .ref 1]) (σ' := (mj_KS N, I, mj_PP c d r)) 2 rfl trivial ?_
        refine R_ce (idx := 79) (mid := 90) (kind := 0) (N := N) (M' := mj_m_X5_refuse) (As := [.ref 1, .int (-2)]) (rest := []) (I := I) (P := mj_PP c d r) (I' := (s_X5_refuse (-2) I).2) (P' := mj_PP c d r) (v := some (.int ((s_X5_refuse (-2) I).1))) rfl rfl rfl mj_mc90 mj_dc90 rfl rfl rfl rfl rfl rfl (x_X5_refuse l b base D z N (-2) I c d r) ?_
        refine R_seg (φ := []) (pc' := 32) (L' := [.ref 1, .int k, .int a, .int n]) (st' := [.int ((s_X5_refuse (-2) I).1)]) (σ' := (mj_KS N, (s_X5_refuse (-2) I).2, mj_PP c d r)) 0 rfl trivial ?_
        exact R_ri rfl rfl (mj_leaf (by simp only [s_X5_sheet, if_neg h1, if_neg h2, if_pos h3, Bool.false_eq_true, ↓reduceIte, Nat.reduceAdd, Nat.reduceMul, mj_tn0, mj_tn1, mj_tn2, mj_tn3]) (by simp only [s_X5_sheet, if_neg h1, if_neg h2, if_pos h3, Bool.false_eq_true, ↓reduceIte, Nat.reduceAdd, Nat.reduceMul, mj_tn0, mj_tn1, mj_tn2, mj_tn3]))
      · skip
        refine R_seg (φ := []) (pc' := 34) (L' := [.ref 1, .int k, .int a, .int n]) (st' := [.int n]) (σ' := (mj_KS N, I, mj_PP c d r)) 1 rfl trivial ?_
        refine R_br (q := (n : Int32) < 0) (t := 37) (f := 43) (rest := []) rfl (fun h4 => ?_) (fun h4 => ?_)
        · skip
          refine R_seg (φ := []) (pc' := 39) (L' := [.ref 1, .int k, .int a, .int n]) (st' := [.int 4, .ref 1]) (σ' := (mj_KS N, I, mj_PP c d r)) 2 rfl trivial ?_
          refine R_ce (idx := 90) (mid := 91) (kind := 0) (N := N) (M' := mj_m_X5_comeTo) (As := [.ref 1, .int 4]) (rest := []) (I := I) (P := mj_PP c d r) (I' := (s_X5_comeTo 4 I).2) (P' := mj_PP c d r) (v := some (.int ((s_X5_comeTo 4 I).1))) rfl rfl rfl mj_mc91 mj_dc91 rfl rfl rfl rfl rfl rfl (x_X5_comeTo l b base D z N 4 I c d r) ?_
          refine R_seg (φ := []) (pc' := 42) (L' := [.ref 1, .int k, .int a, .int n]) (st' := [.int ((s_X5_comeTo 4 I).1)]) (σ' := (mj_KS N, (s_X5_comeTo 4 I).2, mj_PP c d r)) 0 rfl trivial ?_
          exact R_ri rfl rfl (mj_leaf (by simp only [s_X5_sheet, if_neg h1, if_neg h2, if_neg h3, if_pos h4, Bool.false_eq_true, ↓reduceIte, Nat.reduceAdd, Nat.reduceMul, mj_tn0, mj_tn1, mj_tn2, mj_tn3]) (by simp only [s_X5_sheet, if_neg h1, if_neg h2, if_neg h3, if_pos h4, Bool.false_eq_true, ↓reduceIte, Nat.reduceAdd, Nat.reduceMul, mj_tn0, mj_tn1, mj_tn2, mj_tn3]))
        · skip
          rcases mj_sh4 h1 with rfl | rfl | rfl | rfl
          · skip
            refine R_seg (φ := [mj_in (0) 4]) (pc' := 56) (L' := [.ref 1, .int (0), .int a, .int n]) (st' := [.int n, .int a, .ref 34]) (σ' := (mj_KS N, (mj_upI I 1 13 0), mj_PP c d r)) 9 rfl ⟨mj_in_d (by decide), trivial⟩ ?_
            refine R_ce (idx := 234) (mid := 35) (kind := 3) (N := N) (M' := mj_m_X4_renew) (As := [.ref 34, .int a, .int n]) (rest := []) (I := (mj_upI I 1 13 0)) (P := mj_PP c d r) (I' := sp_ren (mj_upI I 1 13 0) 34 a n) (P' := mj_PP c d r) (v := none) rfl rfl rfl mj_mc35 mj_dc35 rfl rfl rfl rfl rfl rfl (x_renew l b base D z N 34 (by decide) a n (mj_upI I 1 13 0) c d r) ?_
            refine R_seg (φ := []) (pc' := 60) (L' := [.ref 1, .int (0), .int a, .int n]) (st' := [.int 1]) (σ' := (mj_KS N, sp_ren (mj_upI I 1 13 0) 34 a n, mj_PP c d r)) 1 rfl trivial ?_
            exact R_ri rfl rfl (mj_leaf (by simp only [s_X5_sheet, if_neg h1, if_neg h2, if_neg h3, if_neg h4, Bool.false_eq_true, ↓reduceIte, Nat.reduceAdd, Nat.reduceMul, mj_tn0, mj_tn1, mj_tn2, mj_tn3]) (by simp only [s_X5_sheet, if_neg h1, if_neg h2, if_neg h3, if_neg h4, Bool.false_eq_true, ↓reduceIte, Nat.reduceAdd, Nat.reduceMul, mj_tn0, mj_tn1, mj_tn2, mj_tn3]))
          · skip
            refine R_seg (φ := [mj_in (1) 4]) (pc' := 56) (L' := [.ref 1, .int (1), .int a, .int n]) (st' := [.int n, .int a, .ref 36]) (σ' := (mj_KS N, (mj_upI I 1 13 0), mj_PP c d r)) 9 rfl ⟨mj_in_d (by decide), trivial⟩ ?_
            refine R_ce (idx := 234) (mid := 35) (kind := 3) (N := N) (M' := mj_m_X4_renew) (As := [.ref 36, .int a, .int n]) (rest := []) (I := (mj_upI I 1 13 0)) (P := mj_PP c d r) (I' := sp_ren (mj_upI I 1 13 0) 36 a n) (P' := mj_PP c d r) (v := none) rfl rfl rfl mj_mc35 mj_dc35 rfl rfl rfl rfl rfl rfl (x_renew l b base D z N 36 (by decide) a n (mj_upI I 1 13 0) c d r) ?_
            refine R_seg (φ := []) (pc' := 60) (L' := [.ref 1, .int (1), .int a, .int n]) (st' := [.int 1]) (σ' := (mj_KS N, sp_ren (mj_upI I 1 13 0) 36 a n, mj_PP c d r)) 1 rfl trivial ?_
            exact R_ri rfl rfl (mj_leaf (by simp only [s_X5_sheet, if_neg h1, if_neg h2, if_neg h3, if_neg h4, Bool.false_eq_true, ↓reduceIte, Nat.reduceAdd, Nat.reduceMul, mj_tn0, mj_tn1, mj_tn2, mj_tn3]) (by simp only [s_X5_sheet, if_neg h1, if_neg h2, if_neg h3, if_neg h4, Bool.false_eq_true, ↓reduceIte, Nat.reduceAdd, Nat.reduceMul, mj_tn0, mj_tn1, mj_tn2, mj_tn3]))
          · skip
            refine R_seg (φ := [mj_in (2) 4]) (pc' := 56) (L' := [.ref 1, .int (2), .int a, .int n]) (st' := [.int n, .int a, .ref 38]) (σ' := (mj_KS N, (mj_upI I 1 13 0), mj_PP c d r)) 9 rfl ⟨mj_in_d (by decide), trivial⟩ ?_
            refine R_ce (idx := 234) (mid := 35) (kind := 3) (N := N) (M' := mj_m_X4_renew) (As := [.ref 38, .int a, .int n]) (rest := []) (I := (mj_upI I 1 13 0)) (P := mj_PP c d r) (I' := sp_ren (mj_upI I 1 13 0) 38 a n) (P' := mj_PP c d r) (v := none) rfl rfl rfl mj_mc35 mj_dc35 rfl rfl rfl rfl rfl rfl (x_renew l b base D z N 38 (by decide) a n (mj_upI I 1 13 0) c d r) ?_
            refine R_seg (φ := []) (pc' := 60) (L' := [.ref 1, .int (2), .int a, .int n]) (st' := [.int 1]) (σ' := (mj_KS N, sp_ren (mj_upI I 1 13 0) 38 a n, mj_PP c d r)) 1 rfl trivial ?_
            exact R_ri rfl rfl (mj_leaf (by simp only [s_X5_sheet, if_neg h1, if_neg h2, if_neg h3, if_neg h4, Bool.false_eq_true, ↓reduceIte, Nat.reduceAdd, Nat.reduceMul, mj_tn0, mj_tn1, mj_tn2, mj_tn3]) (by simp only [s_X5_sheet, if_neg h1, if_neg h2, if_neg h3, if_neg h4, Bool.false_eq_true, ↓reduceIte, Nat.reduceAdd, Nat.reduceMul, mj_tn0, mj_tn1, mj_tn2, mj_tn3]))
          · skip
            refine R_seg (φ := [mj_in (3) 4]) (pc' := 56) (L' := [.ref 1, .int (3), .int a, .int n]) (st' := [.int n, .int a, .ref 40]) (σ' := (mj_KS N, (mj_upI I 1 13 0), mj_PP c d r)) 9 rfl ⟨mj_in_d (by decide), trivial⟩ ?_
            refine R_ce (idx := 234) (mid := 35) (kind := 3) (N := N) (M' := mj_m_X4_renew) (As := [.ref 40, .int a, .int n]) (rest := []) (I := (mj_upI I 1 13 0)) (P := mj_PP c d r) (I' := sp_ren (mj_upI I 1 13 0) 40 a n) (P' := mj_PP c d r) (v := none) rfl rfl rfl mj_mc35 mj_dc35 rfl rfl rfl rfl rfl rfl (x_renew l b base D z N 40 (by decide) a n (mj_upI I 1 13 0) c d r) ?_
            refine R_seg (φ := []) (pc' := 60) (L' := [.ref 1, .int (3), .int a, .int n]) (st' := [.int 1]) (σ' := (mj_KS N, sp_ren (mj_upI I 1 13 0) 40 a n, mj_PP c d r)) 1 rfl trivial ?_
            exact R_ri rfl rfl (mj_leaf (by simp only [s_X5_sheet, if_neg h1, if_neg h2, if_neg h3, if_neg h4, Bool.false_eq_true, ↓reduceIte, Nat.reduceAdd, Nat.reduceMul, mj_tn0, mj_tn1, mj_tn2, mj_tn3]) (by simp only [s_X5_sheet, if_neg h1, if_neg h2, if_neg h3, if_neg h4, Bool.false_eq_true, ↓reduceIte, Nat.reduceAdd, Nat.reduceMul, mj_tn0, mj_tn1, mj_tn2, mj_tn3]))
def s_X5_lose (k : Int32) (I : mj_I) : Int32 × mj_I := if ((s_X5_isSheet k I) : Int32) = 0 then ((-1), I) else (if (I (34 + 2 * k.toNatClampNeg) 0 : Int32) = 0 then (0, (mj_upI I (34 + 2 * k.toNatClampNeg) 0 0)) else (1, (mj_upI I (34 + 2 * k.toNatClampNeg) 0 0)))
set_option maxHeartbeats 8000000 in
theorem x_X5_lose (l : Launch) (b base : Nat) (D : va_G) (z : mj_K × (Int32 → Int32)) (N : Nat) (k : Int32) (I : mj_I) (c d r : Nat) : mj_Rn l b base D z mj_m_X5_lose 0 [.ref 1, .int k, mj_mk] [] (mj_KS N, I, mj_PP c d r) (mj_E N (some (.int (s_X5_lose k I).1)) (s_X5_lose k I).2 (mj_PP c d r)) := by
  refine R_seg (φ := []) (pc' := 1) (L' := [.ref 1, .int k, mj_mk]) (st' := [.int k]) (σ' := (mj_KS N, I, mj_PP c d r)) 1 rfl trivial ?_
  refine R_ce (idx := 75) (mid := 88) (kind := 1) (N := N) (M' := mj_m_X5_isSheet) (As := [.int k]) (rest := []) (I := I) (P := mj_PP c d r) (I' := I) (P' := mj_PP c d r) (v := some (.int (s_X5_isSheet k I))) rfl rfl rfl mj_mc88 mj_dc88 rfl rfl rfl rfl rfl rfl (x_X5_isSheet l b base D z N k I c d r) ?_
  refine R_seg (φ := []) (pc' := 4) (L' := [.ref 1, .int k, mj_mk]) (st' := [.int (s_X5_isSheet k I)]) (σ' := (mj_KS N, I, mj_PP c d r)) 0 rfl trivial ?_
  refine R_br (q := ((s_X5_isSheet k I) : Int32) = 0) (t := 7) (f := 9) (rest := []) rfl (fun h1 => ?_) (fun h1 => ?_)
  · skip
    refine R_seg (φ := []) (pc' := 8) (L' := [.ref 1, .int k, mj_mk]) (st' := [.int (-1)]) (σ' := (mj_KS N, I, mj_PP c d r)) 1 rfl trivial ?_
    exact R_ri rfl rfl (mj_leaf (by simp only [s_X5_lose, if_pos h1, Bool.false_eq_true, ↓reduceIte, Nat.reduceAdd, Nat.reduceMul, mj_tn0, mj_tn1, mj_tn2, mj_tn3]) (by simp only [s_X5_lose, if_pos h1, Bool.false_eq_true, ↓reduceIte, Nat.reduceAdd, Nat.reduceMul, mj_tn0, mj_tn1, mj_tn2, mj_tn3]))
  · skip
    rcases mj_sh4 h1 with rfl | rfl | rfl | rfl
    · skip
      refine R_seg (φ := [mj_in (0) 4]) (pc' := 18) (L' := [.ref 1, .int (0), mj_mk]) (st' := [.int (I 34 0)]) (σ' := (mj_KS N, I, mj_PP c d r)) 5 rfl ⟨mj_in_d (by decide), trivial⟩ ?_
      refine R_br (q := (I 34 0 : Int32) = 0) (t := 25) (f := 21) (rest := []) rfl (fun h2 => ?_) (fun h2 => ?_)
      · skip
        refine R_seg (φ := [mj_in (0) 4, (0 : Int32) = 0 ∨ (0 : Int32) = 1]) (pc' := 38) (L' := [.ref 1, .int (0), .int 0]) (st' := [.int 0]) (σ' := (mj_KS N, (mj_upI I 34 0 0), mj_PP c d r)) 9 rfl ⟨mj_in_d (by decide), Or.inl rfl, trivial⟩ ?_
        exact R_ri rfl rfl (mj_leaf (by simp only [s_X5_lose, if_neg h1, if_pos h2, Bool.false_eq_true, ↓reduceIte, Nat.reduceAdd, Nat.reduceMul, mj_tn0, mj_tn1, mj_tn2, mj_tn3]) (by simp only [s_X5_lose, if_neg h1, if_pos h2, Bool.false_eq_true, ↓reduceIte, Nat.reduceAdd, Nat.reduceMul, mj_tn0, mj_tn1, mj_tn2, mj_tn3]))
      · skip
        refine R_seg (φ := [mj_in (0) 4, (0 : Int32) = 0 ∨ (0 : Int32) = 1]) (pc' := 38) (L' := [.ref 1, .int (0), .int 1]) (st' := [.int 1]) (σ' := (mj_KS N, (mj_upI I 34 0 0), mj_PP c d r)) 10 rfl ⟨mj_in_d (by decide), Or.inl rfl, trivial⟩ ?_
        exact R_ri rfl rfl (mj_leaf (by simp only [s_X5_lose, if_neg h1, if_neg h2, Bool.false_eq_true, ↓reduceIte, Nat.reduceAdd, Nat.reduceMul, mj_tn0, mj_tn1, mj_tn2, mj_tn3]) (by simp only [s_X5_lose, if_neg h1, if_neg h2, Bool.false_eq_true, ↓reduceIte, Nat.reduceAdd, Nat.reduceMul, mj_tn0, mj_tn1, mj_tn2, mj_tn3]))
    · skip
      refine R_seg (φ := [mj_in (1) 4]) (pc' := 18) (L' := [.ref 1, .int (1), mj_mk]) (st' := [.int (I 36 0)]) (σ' := (mj_KS N, I, mj_PP c d r)) 5 rfl ⟨mj_in_d (by decide), trivial⟩ ?_
      refine R_br (q := (I 36 0 : Int32) = 0) (t := 25) (f := 21) (rest := []) rfl (fun h2 => ?_) (fun h2 => ?_)
      · skip
        refine R_seg (φ := [mj_in (1) 4, (0 : Int32) = 0 ∨ (0 : Int32) = 1]) (pc' := 38) (L' := [.ref 1, .int (1), .int 0]) (st' := [.int 0]) (σ' := (mj_KS N, (mj_upI I 36 0 0), mj_PP c d r)) 9 rfl ⟨mj_in_d (by decide), Or.inl rfl, trivial⟩ ?_
        exact R_ri rfl rfl (mj_leaf (by simp only [s_X5_lose, if_neg h1, if_pos h2, Bool.false_eq_true, ↓reduceIte, Nat.reduceAdd, Nat.reduceMul, mj_tn0, mj_tn1, mj_tn2, mj_tn3]) (by simp only [s_X5_lose, if_neg h1, if_pos h2, Bool.false_eq_true, ↓reduceIte, Nat.reduceAdd, Nat.reduceMul, mj_tn0, mj_tn1, mj_tn2, mj_tn3]))
      · skip
        refine R_seg (φ := [mj_in (1) 4, (0 : Int32) = 0 ∨ (0 : Int32) = 1]) (pc' := 38) (L' := [.ref 1, .int (1), .int 1]) (st' := [.int 1]) (σ' := (mj_KS N, (mj_upI I 36 0 0), mj_PP c d r)) 10 rfl ⟨mj_in_d (by decide), Or.inl rfl, trivial⟩ ?_
        exact R_ri rfl rfl (mj_leaf (by simp only [s_X5_lose, if_neg h1, if_neg h2, Bool.false_eq_true, ↓reduceIte, Nat.reduceAdd, Nat.reduceMul, mj_tn0, mj_tn1, mj_tn2, mj_tn3]) (by simp only [s_X5_lose, if_neg h1, if_neg h2, Bool.false_eq_true, ↓reduceIte, Nat.reduceAdd, Nat.reduceMul, mj_tn0, mj_tn1, mj_tn2, mj_tn3]))
    · skip
      refine R_seg (φ := [mj_in (2) 4]) (pc' := 18) (L' := [.ref 1, .int (2), mj_mk]) (st' := [.int (I 38 0)]) (σ' := (mj_KS N, I, mj_PP c d r)) 5 rfl ⟨mj_in_d (by decide), trivial⟩ ?_
      refine R_br (q := (I 38 0 : Int32) = 0) (t := 25) (f := 21) (rest := []) rfl (fun h2 => ?_) (fun h2 => ?_)
      · skip
        refine R_seg (φ := [mj_in (2) 4, (0 : Int32) = 0 ∨ (0 : Int32) = 1]) (pc' := 38) (L' := [.ref 1, .int (2), .int 0]) (st' := [.int 0]) (σ' := (mj_KS N, (mj_upI I 38 0 0), mj_PP c d r)) 9 rfl ⟨mj_in_d (by decide), Or.inl rfl, trivial⟩ ?_
        exact R_ri rfl rfl (mj_leaf (by simp only [s_X5_lose, if_neg h1, if_pos h2, Bool.false_eq_true, ↓reduceIte, Nat.reduceAdd, Nat.reduceMul, mj_tn0, mj_tn1, mj_tn2, mj_tn3]) (by simp only [s_X5_lose, if_neg h1, if_pos h2, Bool.false_eq_true, ↓reduceIte, Nat.reduceAdd, Nat.reduceMul, mj_tn0, mj_tn1, mj_tn2, mj_tn3]))
      · skip
        refine R_seg (φ := [mj_in (2) 4, (0 : Int32) = 0 ∨ (0 : Int32) = 1]) (pc' := 38) (L' := [.ref 1, .int (2), .int 1]) (st' := [.int 1]) (σ' := (mj_KS N, (mj_upI I 38 0 0), mj_PP c d r)) 10 rfl ⟨mj_in_d (by decide), Or.inl rfl, trivial⟩ ?_
        exact R_ri rfl rfl (mj_leaf (by simp only [s_X5_lose, if_neg h1, if_neg h2, Bool.false_eq_true, ↓reduceIte, Nat.reduceAdd, Nat.reduceMul, mj_tn0, mj_tn1, mj_tn2, mj_tn3]) (by simp only [s_X5_lose, if_neg h1, if_neg h2, Bool.false_eq_true, ↓reduceIte, Nat.reduceAdd, Nat.reduceMul, mj_tn0, mj_tn1, mj_tn2, mj_tn3]))
    · skip
      refine R_seg (φ := [mj_in (3) 4]) (pc' := 18) (L' := [.ref 1, .int (3), mj_mk]) (st' := [.int (I 40 0)]) (σ' := (mj_KS N, I, mj_PP c d r)) 5 rfl ⟨mj_in_d (by decide), trivial⟩ ?_
      refine R_br (q := (I 40 0 : Int32) = 0) (t := 25) (f := 21) (rest := []) rfl (fun h2 => ?_) (fun h2 => ?_)
      · skip
        refine R_seg (φ := [mj_in (3) 4, (0 : Int32) = 0 ∨ (0 : Int32) = 1]) (pc' := 38) (L' := [.ref 1, .int (3), .int 0]) (st' := [.int 0]) (σ' := (mj_KS N, (mj_upI I 40 0 0), mj_PP c d r)) 9 rfl ⟨mj_in_d (by decide), Or.inl rfl, trivial⟩ ?_
        exact R_ri rfl rfl (mj_leaf (by simp only [s_X5_lose, if_neg h1, if_pos h2, Bool.false_eq_true, ↓reduceIte, Nat.reduceAdd, Nat.reduceMul, mj_tn0, mj_tn1, mj_tn2, mj_tn3]) (by simp only [s_X5_lose, if_neg h1, if_pos h2, Bool.false_eq_true, ↓reduceIte, Nat.reduceAdd, Nat.reduceMul, mj_tn0, mj_tn1, mj_tn2, mj_tn3]))
      · skip
        refine R_seg (φ := [mj_in (3) 4, (0 : Int32) = 0 ∨ (0 : Int32) = 1]) (pc' := 38) (L' := [.ref 1, .int (3), .int 1]) (st' := [.int 1]) (σ' := (mj_KS N, (mj_upI I 40 0 0), mj_PP c d r)) 10 rfl ⟨mj_in_d (by decide), Or.inl rfl, trivial⟩ ?_
        exact R_ri rfl rfl (mj_leaf (by simp only [s_X5_lose, if_neg h1, if_neg h2, Bool.false_eq_true, ↓reduceIte, Nat.reduceAdd, Nat.reduceMul, mj_tn0, mj_tn1, mj_tn2, mj_tn3]) (by simp only [s_X5_lose, if_neg h1, if_neg h2, Bool.false_eq_true, ↓reduceIte, Nat.reduceAdd, Nat.reduceMul, mj_tn0, mj_tn1, mj_tn2, mj_tn3]))
theorem mj_hcin {len i : Int32} (h : sp_hc len i 1 = true) (hl : 0 ≤ len.toInt ∧ len.toInt ≤ 60) : mj_in i 60 := by
  unfold sp_hc at h
  by_cases h1 : i < 0
  · rw [if_pos h1] at h; cases h
  · rw [if_neg h1] at h
    by_cases h2 : len - 1 < i
    · rw [if_pos h2] at h; cases h
    · have a1 := mj_i0 h1
      have a2 := mj_iN h2
      have e1 : (1 : Int32).toInt = 1 := by decide
      have e : (len - 1).toInt = len.toInt - 1 := by
        rw [mj_isub (by omega) (by omega), e1]
      exact (show 0 ≤ i.toInt ∧ i.toInt < ((60 : Nat) : Int) from ⟨a1, by omega⟩)
def s_X5_put (k : Int32) (i : Int32) (v : Int32) (I : mj_I) : Int32 × mj_I := if ((s_X5_isSheet k I) : Int32) = 0 then ((s_X5_refuse (-1) I).1, (s_X5_refuse (-1) I).2) else (if (I (34 + 2 * k.toNatClampNeg) 0 : Int32) = 0 then ((s_X5_comeTo 1 I).1, (s_X5_comeTo 1 I).2) else (if sp_hc (I (34 + 2 * k.toNatClampNeg) 2) i 1 then (1, (mj_upI (mj_upI I 1 13 0) (34 + 2 * k.toNatClampNeg + 1) i (sp_cut (I (34 + 2 * k.toNatClampNeg) 1) v))) else ((s_X5_comeTo 3 I).1, (s_X5_comeTo 3 I).2)))
set_option maxHeartbeats 8000000 in
theorem x_X5_put (l : Launch) (b base : Nat) (D : va_G) (z : mj_K × (Int32 → Int32)) (N : Nat) (k : Int32) (i : Int32) (v : Int32) (I : mj_I) (c d r : Nat) (hl : ∀ j : Nat, j < 4 → 0 ≤ (I (34 + 2 * j) 2).toInt ∧ (I (34 + 2 * j) 2).toInt ≤ 60) : mj_Rn l b base D z mj_m_X5_put 0 [.ref 1, .int k, .int i, .int v] [] (mj_KS N, I, mj_PP c d r) (mj_E N (some (.int (s_X5_put k i v I).1)) (s_X5_put k i v I).2 (mj_PP c d r)) := by
  refine R_seg (φ := []) (pc' := 1) (L' := [.ref 1, .int k, .int i, .int v]) (st' := [.int k]) (σ' := (mj_KS N, I, mj_PP c d r)) 1 rfl trivial ?_
  refine R_ce (idx := 75) (mid := 88) (kind := 1) (N := N) (M' := mj_m_X5_isSheet) (As := [.int k]) (rest := []) (I := I) (P := mj_PP c d r) (I' := I) (P' := mj_PP c d r) (v := some (.int (s_X5_isSheet k I))) rfl rfl rfl mj_mc88 mj_dc88 rfl rfl rfl rfl rfl rfl (x_X5_isSheet l b base D z N k I c d r) ?_
  refine R_seg (φ := []) (pc' := 4) (L' := [.ref 1, .int k, .int i, .int v]) (st' := [.int (s_X5_isSheet k I)]) (σ' := (mj_KS N, I, mj_PP c d r)) 0 rfl trivial ?_
  refine R_br (q := ((s_X5_isSheet k I) : Int32) = 0) (t := 7) (f := 13) (rest := []) rfl (fun h1 => ?_) (fun h1 => ?_)
  · skip
    refine R_seg (φ := []) (pc' := 9) (L' := [.ref 1, .int k, .int i, .int v]) (st' := [.int (-1), .ref 1]) (σ' := (mj_KS N, I, mj_PP c d r)) 2 rfl trivial ?_
    refine R_ce (idx := 79) (mid := 90) (kind := 0) (N := N) (M' := mj_m_X5_refuse) (As := [.ref 1, .int (-1)]) (rest := []) (I := I) (P := mj_PP c d r) (I' := (s_X5_refuse (-1) I).2) (P' := mj_PP c d r) (v := some (.int ((s_X5_refuse (-1) I).1))) rfl rfl rfl mj_mc90 mj_dc90 rfl rfl rfl rfl rfl rfl (x_X5_refuse l b base D z N (-1) I c d r) ?_
    refine R_seg (φ := []) (pc' := 12) (L' := [.ref 1, .int k, .int i, .int v]) (st' := [.int ((s_X5_refuse (-1) I).1)]) (σ' := (mj_KS N, (s_X5_refuse (-1) I).2, mj_PP c d r)) 0 rfl trivial ?_
    exact R_ri rfl rfl (mj_leaf (by simp only [s_X5_put, if_pos h1, Bool.false_eq_true, ↓reduceIte, Nat.reduceAdd, Nat.reduceMul, mj_tn0, mj_tn1, mj_tn2, mj_tn3]) (by simp only [s_X5_put, if_pos h1, Bool.false_eq_true, ↓reduceIte, Nat.reduceAdd, Nat.reduceMul, mj_tn0, mj_tn1, mj_tn2, mj_tn3]))
  · skip
    rcases mj_sh4 h1 with rfl | rfl | rfl | rfl
    · skip
      refine R_seg (φ := [mj_in (0) 4]) (pc' := 22) (L' := [.ref 1, .int (0), .int i, .int v]) (st' := [.int (I 34 0)]) (σ' := (mj_KS N, I, mj_PP c d r)) 5 rfl ⟨mj_in_d (by decide), trivial⟩ ?_
      refine R_br (q := (I 34 0 : Int32) = 0) (t := 25) (f := 31) (rest := []) rfl (fun h2 => ?_) (fun h2 => ?_)
      · skip
        refine R_seg (φ := []) (pc' := 27) (L' := [.ref 1, .int (0), .int i, .int v]) (st' := [.int 1, .ref 1]) (σ' := (mj_KS N, I, mj_PP c d r)) 2 rfl trivial ?_
        refine R_ce (idx := 90) (mid := 91) (kind := 0) (N := N) (M' := mj_m_X5_comeTo) (As := [.ref 1, .int 1]) (rest := []) (I := I) (P := mj_PP c d r) (I' := (s_X5_comeTo 1 I).2) (P' := mj_PP c d r) (v := some (.int ((s_X5_comeTo 1 I).1))) rfl rfl rfl mj_mc91 mj_dc91 rfl rfl rfl rfl rfl rfl (x_X5_comeTo l b base D z N 1 I c d r) ?_
        refine R_seg (φ := []) (pc' := 30) (L' := [.ref 1, .int (0), .int i, .int v]) (st' := [.int ((s_X5_comeTo 1 I).1)]) (σ' := (mj_KS N, (s_X5_comeTo 1 I).2, mj_PP c d r)) 0 rfl trivial ?_
        exact R_ri rfl rfl (mj_leaf (by simp only [s_X5_put, if_neg h1, if_pos h2, Bool.false_eq_true, ↓reduceIte, Nat.reduceAdd, Nat.reduceMul, mj_tn0, mj_tn1, mj_tn2, mj_tn3]) (by simp only [s_X5_put, if_neg h1, if_pos h2, Bool.false_eq_true, ↓reduceIte, Nat.reduceAdd, Nat.reduceMul, mj_tn0, mj_tn1, mj_tn2, mj_tn3]))
      · skip
        refine R_seg (φ := [mj_in (0) 4]) (pc' := 39) (L' := [.ref 1, .int (0), .int i, .int v]) (st' := [.int 1, .int i, .ref 34]) (σ' := (mj_KS N, I, mj_PP c d r)) 6 rfl ⟨mj_in_d (by decide), trivial⟩ ?_
        refine R_ce (idx := 242) (mid := 36) (kind := 3) (N := N) (M' := mj_m_X4_hasCells) (As := [.ref 34, .int i, .int 1]) (rest := []) (I := I) (P := mj_PP c d r) (I' := I) (P' := mj_PP c d r) (v := some (.int (bI (sp_hc (I 34 2) i 1)))) rfl rfl rfl mj_mc36 mj_dc36 rfl rfl rfl rfl rfl rfl (x_hasCells l b base D z N 34 (by decide) i 1 I c d r) ?_
        refine R_seg (φ := []) (pc' := 42) (L' := [.ref 1, .int (0), .int i, .int v]) (st' := [.int (bI (sp_hc (I 34 2) i 1))]) (σ' := (mj_KS N, I, mj_PP c d r)) 0 rfl trivial ?_
        refine R_br (q := (bI (sp_hc (I 34 2) i 1) : Int32) = 0) (t := 45) (f := 51) (rest := []) rfl (fun h3 => ?_) (fun h3 => ?_)
        · skip
          replace h3 := bI_0.mp h3
          refine R_seg (φ := []) (pc' := 47) (L' := [.ref 1, .int (0), .int i, .int v]) (st' := [.int 3, .ref 1]) (σ' := (mj_KS N, I, mj_PP c d r)) 2 rfl trivial ?_
          refine R_ce (idx := 90) (mid := 91) (kind := 0) (N := N) (M' := mj_m_X5_comeTo) (As := [.ref 1, .int 3]) (rest := []) (I := I) (P := mj_PP c d r) (I' := (s_X5_comeTo 3 I).2) (P' := mj_PP c d r) (v := some (.int ((s_X5_comeTo 3 I).1))) rfl rfl rfl mj_mc91 mj_dc91 rfl rfl rfl rfl rfl rfl (x_X5_comeTo l b base D z N 3 I c d r) ?_
          refine R_seg (φ := []) (pc' := 50) (L' := [.ref 1, .int (0), .int i, .int v]) (st' := [.int ((s_X5_comeTo 3 I).1)]) (σ' := (mj_KS N, (s_X5_comeTo 3 I).2, mj_PP c d r)) 0 rfl trivial ?_
          exact R_ri rfl rfl (mj_leaf (by simp only [s_X5_put, if_neg h1, if_neg h2, h3, Bool.false_eq_true, ↓reduceIte, Nat.reduceAdd, Nat.reduceMul, mj_tn0, mj_tn1, mj_tn2, mj_tn3]) (by simp only [s_X5_put, if_neg h1, if_neg h2, h3, Bool.false_eq_true, ↓reduceIte, Nat.reduceAdd, Nat.reduceMul, mj_tn0, mj_tn1, mj_tn2, mj_tn3]))
        · skip
          replace h3 := bI_1 h3
          refine R_seg (φ := [mj_in (0) 4, mj_in (0) 4]) (pc' := 73) (L' := [.ref 1, .int (0), .int i, .int v]) (st' := [.int v, .ref 34, .int i, .ref 35]) (σ' := (mj_KS N, (mj_upI I 1 13 0), mj_PP c d r)) 14 rfl ⟨mj_in_d (by decide), mj_in_d (by decide), trivial⟩ ?_
          refine R_ce (idx := 245) (mid := 38) (kind := 3) (N := N) (M' := mj_m_X4_cut) (As := [.ref 34, .int v]) (rest := [.int i, .ref 35]) (I := (mj_upI I 1 13 0)) (P := mj_PP c d r) (I' := (mj_upI I 1 13 0)) (P' := mj_PP c d r) (v := some (.int (sp_cut (I 34 1) v))) rfl rfl rfl mj_mc38 mj_dc38 rfl rfl rfl rfl rfl rfl (x_cut l b base D z N 34 (by decide) v (mj_upI I 1 13 0) c d r) ?_
          refine R_seg (φ := [mj_in i 60]) (pc' := 78) (L' := [.ref 1, .int (0), .int i, .int v]) (st' := [.int 1]) (σ' := (mj_KS N, (mj_upI (mj_upI I 1 13 0) 35 i (sp_cut (I 34 1) v)), mj_PP c d r)) 2 rfl ⟨mj_hcin h3 (hl 0 (by decide)), trivial⟩ ?_
          exact R_ri rfl rfl (mj_leaf (by simp only [s_X5_put, if_neg h1, if_neg h2, h3, Bool.false_eq_true, ↓reduceIte, Nat.reduceAdd, Nat.reduceMul, mj_tn0, mj_tn1, mj_tn2, mj_tn3]) (by simp only [s_X5_put, if_neg h1, if_neg h2, h3, Bool.false_eq_true, ↓reduceIte, Nat.reduceAdd, Nat.reduceMul, mj_tn0, mj_tn1, mj_tn2, mj_tn3]))
    · skip
      refine R_seg (φ := [mj_in (1) 4]) (pc' := 22) (L' := [.ref 1, .int (1), .int i, .int v]) (st' := [.int (I 36 0)]) (σ' := (mj_KS N, I, mj_PP c d r)) 5 rfl ⟨mj_in_d (by decide), trivial⟩ ?_
      refine R_br (q := (I 36 0 : Int32) = 0) (t := 25) (f := 31) (rest := []) rfl (fun h2 => ?_) (fun h2 => ?_)
      · skip
        refine R_seg (φ := []) (pc' := 27) (L' := [.ref 1, .int (1), .int i, .int v]) (st' := [.int 1, .ref 1]) (σ' := (mj_KS N, I, mj_PP c d r)) 2 rfl trivial ?_
        refine R_ce (idx := 90) (mid := 91) (kind := 0) (N := N) (M' := mj_m_X5_comeTo) (As := [.ref 1, .int 1]) (rest := []) (I := I) (P := mj_PP c d r) (I' := (s_X5_comeTo 1 I).2) (P' := mj_PP c d r) (v := some (.int ((s_X5_comeTo 1 I).1))) rfl rfl rfl mj_mc91 mj_dc91 rfl rfl rfl rfl rfl rfl (x_X5_comeTo l b base D z N 1 I c d r) ?_
        refine R_seg (φ := []) (pc' := 30) (L' := [.ref 1, .int (1), .int i, .int v]) (st' := [.int ((s_X5_comeTo 1 I).1)]) (σ' := (mj_KS N, (s_X5_comeTo 1 I).2, mj_PP c d r)) 0 rfl trivial ?_
        exact R_ri rfl rfl (mj_leaf (by simp only [s_X5_put, if_neg h1, if_pos h2, Bool.false_eq_true, ↓reduceIte, Nat.reduceAdd, Nat.reduceMul, mj_tn0, mj_tn1, mj_tn2, mj_tn3]) (by simp only [s_X5_put, if_neg h1, if_pos h2, Bool.false_eq_true, ↓reduceIte, Nat.reduceAdd, Nat.reduceMul, mj_tn0, mj_tn1, mj_tn2, mj_tn3]))
      · skip
        refine R_seg (φ := [mj_in (1) 4]) (pc' := 39) (L' := [.ref 1, .int (1), .int i, .int v]) (st' := [.int 1, .int i, .ref 36]) (σ' := (mj_KS N, I, mj_PP c d r)) 6 rfl ⟨mj_in_d (by decide), trivial⟩ ?_
        refine R_ce (idx := 242) (mid := 36) (kind := 3) (N := N) (M' := mj_m_X4_hasCells) (As := [.ref 36, .int i, .int 1]) (rest := []) (I := I) (P := mj_PP c d r) (I' := I) (P' := mj_PP c d r) (v := some (.int (bI (sp_hc (I 36 2) i 1)))) rfl rfl rfl mj_mc36 mj_dc36 rfl rfl rfl rfl rfl rfl (x_hasCells l b base D z N 36 (by decide) i 1 I c d r) ?_
        refine R_seg (φ := []) (pc' := 42) (L' := [.ref 1, .int (1), .int i, .int v]) (st' := [.int (bI (sp_hc (I 36 2) i 1))]) (σ' := (mj_KS N, I, mj_PP c d r)) 0 rfl trivial ?_
        refine R_br (q := (bI (sp_hc (I 36 2) i 1) : Int32) = 0) (t := 45) (f := 51) (rest := []) rfl (fun h3 => ?_) (fun h3 => ?_)
        · skip
          replace h3 := bI_0.mp h3
          refine R_seg (φ := []) (pc' := 47) (L' := [.ref 1, .int (1), .int i, .int v]) (st' := [.int 3, .ref 1]) (σ' := (mj_KS N, I, mj_PP c d r)) 2 rfl trivial ?_
          refine R_ce (idx := 90) (mid := 91) (kind := 0) (N := N) (M' := mj_m_X5_comeTo) (As := [.ref 1, .int 3]) (rest := []) (I := I) (P := mj_PP c d r) (I' := (s_X5_comeTo 3 I).2) (P' := mj_PP c d r) (v := some (.int ((s_X5_comeTo 3 I).1))) rfl rfl rfl mj_mc91 mj_dc91 rfl rfl rfl rfl rfl rfl (x_X5_comeTo l b base D z N 3 I c d r) ?_
          refine R_seg (φ := []) (pc' := 50) (L' := [.ref 1, .int (1), .int i, .int v]) (st' := [.int ((s_X5_comeTo 3 I).1)]) (σ' := (mj_KS N, (s_X5_comeTo 3 I).2, mj_PP c d r)) 0 rfl trivial ?_
          exact R_ri rfl rfl (mj_leaf (by simp only [s_X5_put, if_neg h1, if_neg h2, h3, Bool.false_eq_true, ↓reduceIte, Nat.reduceAdd, Nat.reduceMul, mj_tn0, mj_tn1, mj_tn2, mj_tn3]) (by simp only [s_X5_put, if_neg h1, if_neg h2, h3, Bool.false_eq_true, ↓reduceIte, Nat.reduceAdd, Nat.reduceMul, mj_tn0, mj_tn1, mj_tn2, mj_tn3]))
        · skip
          replace h3 := bI_1 h3
          refine R_seg (φ := [mj_in (1) 4, mj_in (1) 4]) (pc' := 73) (L' := [.ref 1, .int (1), .int i, .int v]) (st' := [.int v, .ref 36, .int i, .ref 37]) (σ' := (mj_KS N, (mj_upI I 1 13 0), mj_PP c d r)) 14 rfl ⟨mj_in_d (by decide), mj_in_d (by decide), trivial⟩ ?_
          refine R_ce (idx := 245) (mid := 38) (kind := 3) (N := N) (M' := mj_m_X4_cut) (As := [.ref 36, .int v]) (rest := [.int i, .ref 37]) (I := (mj_upI I 1 13 0)) (P := mj_PP c d r) (I' := (mj_upI I 1 13 0)) (P' := mj_PP c d r) (v := some (.int (sp_cut (I 36 1) v))) rfl rfl rfl mj_mc38 mj_dc38 rfl rfl rfl rfl rfl rfl (x_cut l b base D z N 36 (by decide) v (mj_upI I 1 13 0) c d r) ?_
          refine R_seg (φ := [mj_in i 60]) (pc' := 78) (L' := [.ref 1, .int (1), .int i, .int v]) (st' := [.int 1]) (σ' := (mj_KS N, (mj_upI (mj_upI I 1 13 0) 37 i (sp_cut (I 36 1) v)), mj_PP c d r)) 2 rfl ⟨mj_hcin h3 (hl 1 (by decide)), trivial⟩ ?_
          exact R_ri rfl rfl (mj_leaf (by simp only [s_X5_put, if_neg h1, if_neg h2, h3, Bool.false_eq_true, ↓reduceIte, Nat.reduceAdd, Nat.reduceMul, mj_tn0, mj_tn1, mj_tn2, mj_tn3]) (by simp only [s_X5_put, if_neg h1, if_neg h2, h3, Bool.false_eq_true, ↓reduceIte, Nat.reduceAdd, Nat.reduceMul, mj_tn0, mj_tn1, mj_tn2, mj_tn3]))
    · skip
      refine R_seg (φ := [mj_in (2) 4]) (pc' := 22) (L' := [.ref 1, .int (2), .int i, .int v]) (st' := [.int (I 38 0)]) (σ' := (mj_KS N, I, mj_PP c d r)) 5 rfl ⟨mj_in_d (by decide), trivial⟩ ?_
      refine R_br (q := (I 38 0 : Int32) = 0) (t := 25) (f := 31) (rest := []) rfl (fun h2 => ?_) (fun h2 => ?_)
      · skip
        refine R_seg (φ := []) (pc' := 27) (L' := [.ref 1, .int (2), .int i, .int v]) (st' := [.int 1, .ref 1]) (σ' := (mj_KS N, I, mj_PP c d r)) 2 rfl trivial ?_
        refine R_ce (idx := 90) (mid := 91) (kind := 0) (N := N) (M' := mj_m_X5_comeTo) (As := [.ref 1, .int 1]) (rest := []) (I := I) (P := mj_PP c d r) (I' := (s_X5_comeTo 1 I).2) (P' := mj_PP c d r) (v := some (.int ((s_X5_comeTo 1 I).1))) rfl rfl rfl mj_mc91 mj_dc91 rfl rfl rfl rfl rfl rfl (x_X5_comeTo l b base D z N 1 I c d r) ?_
        refine R_seg (φ := []) (pc' := 30) (L' := [.ref 1, .int (2), .int i, .int v]) (st' := [.int ((s_X5_comeTo 1 I).1)]) (σ' := (mj_KS N, (s_X5_comeTo 1 I).2, mj_PP c d r)) 0 rfl trivial ?_
        exact R_ri rfl rfl (mj_leaf (by simp only [s_X5_put, if_neg h1, if_pos h2, Bool.false_eq_true, ↓reduceIte, Nat.reduceAdd, Nat.reduceMul, mj_tn0, mj_tn1, mj_tn2, mj_tn3]) (by simp only [s_X5_put, if_neg h1, if_pos h2, Bool.false_eq_true, ↓reduceIte, Nat.reduceAdd, Nat.reduceMul, mj_tn0, mj_tn1, mj_tn2, mj_tn3]))
      · skip
        refine R_seg (φ := [mj_in (2) 4]) (pc' := 39) (L' := [.ref 1, .int (2), .int i, .int v]) (st' := [.int 1, .int i, .ref 38]) (σ' := (mj_KS N, I, mj_PP c d r)) 6 rfl ⟨mj_in_d (by decide), trivial⟩ ?_
        refine R_ce (idx := 242) (mid := 36) (kind := 3) (N := N) (M' := mj_m_X4_hasCells) (As := [.ref 38, .int i, .int 1]) (rest := []) (I := I) (P := mj_PP c d r) (I' := I) (P' := mj_PP c d r) (v := some (.int (bI (sp_hc (I 38 2) i 1)))) rfl rfl rfl mj_mc36 mj_dc36 rfl rfl rfl rfl rfl rfl (x_hasCells l b base D z N 38 (by decide) i 1 I c d r) ?_
        refine R_seg (φ := []) (pc' := 42) (L' := [.ref 1, .int (2), .int i, .int v]) (st' := [.int (bI (sp_hc (I 38 2) i 1))]) (σ' := (mj_KS N, I, mj_PP c d r)) 0 rfl trivial ?_
        refine R_br (q := (bI (sp_hc (I 38 2) i 1) : Int32) = 0) (t := 45) (f := 51) (rest := []) rfl (fun h3 => ?_) (fun h3 => ?_)
        · skip
          replace h3 := bI_0.mp h3
          refine R_seg (φ := []) (pc' := 47) (L' := [.ref 1, .int (2), .int i, .int v]) (st' := [.int 3, .ref 1]) (σ' := (mj_KS N, I, mj_PP c d r)) 2 rfl trivial ?_
          refine R_ce (idx := 90) (mid := 91) (kind := 0) (N := N) (M' := mj_m_X5_comeTo) (As := [.ref 1, .int 3]) (rest := []) (I := I) (P := mj_PP c d r) (I' := (s_X5_comeTo 3 I).2) (P' := mj_PP c d r) (v := some (.int ((s_X5_comeTo 3 I).1))) rfl rfl rfl mj_mc91 mj_dc91 rfl rfl rfl rfl rfl rfl (x_X5_comeTo l b base D z N 3 I c d r) ?_
          refine R_seg (φ := []) (pc' := 50) (L' := [.ref 1, .int (2), .int i, .int v]) (st' := [.int ((s_X5_comeTo 3 I).1)]) (σ' := (mj_KS N, (s_X5_comeTo 3 I).2, mj_PP c d r)) 0 rfl trivial ?_
          exact R_ri rfl rfl (mj_leaf (by simp only [s_X5_put, if_neg h1, if_neg h2, h3, Bool.false_eq_true, ↓reduceIte, Nat.reduceAdd, Nat.reduceMul, mj_tn0, mj_tn1, mj_tn2, mj_tn3]) (by simp only [s_X5_put, if_neg h1, if_neg h2, h3, Bool.false_eq_true, ↓reduceIte, Nat.reduceAdd, Nat.reduceMul, mj_tn0, mj_tn1, mj_tn2, mj_tn3]))
        · skip
          replace h3 := bI_1 h3
          refine R_seg (φ := [mj_in (2) 4, mj_in (2) 4]) (pc' := 73) (L' := [.ref 1, .int (2), .int i, .int v]) (st' := [.int v, .ref 38, .int i, .ref 39]) (σ' := (mj_KS N, (mj_upI I 1 13 0), mj_PP c d r)) 14 rfl ⟨mj_in_d (by decide), mj_in_d (by decide), trivial⟩ ?_
          refine R_ce (idx := 245) (mid := 38) (kind := 3) (N := N) (M' := mj_m_X4_cut) (As := [.ref 38, .int v]) (rest := [.int i, .ref 39]) (I := (mj_upI I 1 13 0)) (P := mj_PP c d r) (I' := (mj_upI I 1 13 0)) (P' := mj_PP c d r) (v := some (.int (sp_cut (I 38 1) v))) rfl rfl rfl mj_mc38 mj_dc38 rfl rfl rfl rfl rfl rfl (x_cut l b base D z N 38 (by decide) v (mj_upI I 1 13 0) c d r) ?_
          refine R_seg (φ := [mj_in i 60]) (pc' := 78) (L' := [.ref 1, .int (2), .int i, .int v]) (st' := [.int 1]) (σ' := (mj_KS N, (mj_upI (mj_upI I 1 13 0) 39 i (sp_cut (I 38 1) v)), mj_PP c d r)) 2 rfl ⟨mj_hcin h3 (hl 2 (by decide)), trivial⟩ ?_
          exact R_ri rfl rfl (mj_leaf (by simp only [s_X5_put, if_neg h1, if_neg h2, h3, Bool.false_eq_true, ↓reduceIte, Nat.reduceAdd, Nat.reduceMul, mj_tn0, mj_tn1, mj_tn2, mj_tn3]) (by simp only [s_X5_put, if_neg h1, if_neg h2, h3, Bool.false_eq_true, ↓reduceIte, Nat.reduceAdd, Nat.reduceMul, mj_tn0, mj_tn1, mj_tn2, mj_tn3]))
    · skip
      refine R_seg (φ := [mj_in (3) 4]) (pc' := 22) (L' := [.ref 1, .int (3), .int i, .int v]) (st' := [.int (I 40 0)]) (σ' := (mj_KS N, I, mj_PP c d r)) 5 rfl ⟨mj_in_d (by decide), trivial⟩ ?_
      refine R_br (q := (I 40 0 : Int32) = 0) (t := 25) (f := 31) (rest := []) rfl (fun h2 => ?_) (fun h2 => ?_)
      · skip
        refine R_seg (φ := []) (pc' := 27) (L' := [.ref 1, .int (3), .int i, .int v]) (st' := [.int 1, .ref 1]) (σ' := (mj_KS N, I, mj_PP c d r)) 2 rfl trivial ?_
        refine R_ce (idx := 90) (mid := 91) (kind := 0) (N := N) (M' := mj_m_X5_comeTo) (As := [.ref 1, .int 1]) (rest := []) (I := I) (P := mj_PP c d r) (I' := (s_X5_comeTo 1 I).2) (P' := mj_PP c d r) (v := some (.int ((s_X5_comeTo 1 I).1))) rfl rfl rfl mj_mc91 mj_dc91 rfl rfl rfl rfl rfl rfl (x_X5_comeTo l b base D z N 1 I c d r) ?_
        refine R_seg (φ := []) (pc' := 30) (L' := [.ref 1, .int (3), .int i, .int v]) (st' := [.int ((s_X5_comeTo 1 I).1)]) (σ' := (mj_KS N, (s_X5_comeTo 1 I).2, mj_PP c d r)) 0 rfl trivial ?_
        exact R_ri rfl rfl (mj_leaf (by simp only [s_X5_put, if_neg h1, if_pos h2, Bool.false_eq_true, ↓reduceIte, Nat.reduceAdd, Nat.reduceMul, mj_tn0, mj_tn1, mj_tn2, mj_tn3]) (by simp only [s_X5_put, if_neg h1, if_pos h2, Bool.false_eq_true, ↓reduceIte, Nat.reduceAdd, Nat.reduceMul, mj_tn0, mj_tn1, mj_tn2, mj_tn3]))
      · skip
        refine R_seg (φ := [mj_in (3) 4]) (pc' := 39) (L' := [.ref 1, .int (3), .int i, .int v]) (st' := [.int 1, .int i, .ref 40]) (σ' := (mj_KS N, I, mj_PP c d r)) 6 rfl ⟨mj_in_d (by decide), trivial⟩ ?_
        refine R_ce (idx := 242) (mid := 36) (kind := 3) (N := N) (M' := mj_m_X4_hasCells) (As := [.ref 40, .int i, .int 1]) (rest := []) (I := I) (P := mj_PP c d r) (I' := I) (P' := mj_PP c d r) (v := some (.int (bI (sp_hc (I 40 2) i 1)))) rfl rfl rfl mj_mc36 mj_dc36 rfl rfl rfl rfl rfl rfl (x_hasCells l b base D z N 40 (by decide) i 1 I c d r) ?_
        refine R_seg (φ := []) (pc' := 42) (L' := [.ref 1, .int (3), .int i, .int v]) (st' := [.int (bI (sp_hc (I 40 2) i 1))]) (σ' := (mj_KS N, I, mj_PP c d r)) 0 rfl trivial ?_
        refine R_br (q := (bI (sp_hc (I 40 2) i 1) : Int32) = 0) (t := 45) (f := 51) (rest := []) rfl (fun h3 => ?_) (fun h3 => ?_)
        · skip
          replace h3 := bI_0.mp h3
          refine R_seg (φ := []) (pc' := 47) (L' := [.ref 1, .int (3), .int i, .int v]) (st' := [.int 3, .ref 1]) (σ' := (mj_KS N, I, mj_PP c d r)) 2 rfl trivial ?_
          refine R_ce (idx := 90) (mid := 91) (kind := 0) (N := N) (M' := mj_m_X5_comeTo) (As := [.ref 1, .int 3]) (rest := []) (I := I) (P := mj_PP c d r) (I' := (s_X5_comeTo 3 I).2) (P' := mj_PP c d r) (v := some (.int ((s_X5_comeTo 3 I).1))) rfl rfl rfl mj_mc91 mj_dc91 rfl rfl rfl rfl rfl rfl (x_X5_comeTo l b base D z N 3 I c d r) ?_
          refine R_seg (φ := []) (pc' := 50) (L' := [.ref 1, .int (3), .int i, .int v]) (st' := [.int ((s_X5_comeTo 3 I).1)]) (σ' := (mj_KS N, (s_X5_comeTo 3 I).2, mj_PP c d r)) 0 rfl trivial ?_
          exact R_ri rfl rfl (mj_leaf (by simp only [s_X5_put, if_neg h1, if_neg h2, h3, Bool.false_eq_true, ↓reduceIte, Nat.reduceAdd, Nat.reduceMul, mj_tn0, mj_tn1, mj_tn2, mj_tn3]) (by simp only [s_X5_put, if_neg h1, if_neg h2, h3, Bool.false_eq_true, ↓reduceIte, Nat.reduceAdd, Nat.reduceMul, mj_tn0, mj_tn1, mj_tn2, mj_tn3]))
        · skip
          replace h3 := bI_1 h3
          refine R_seg (φ := [mj_in (3) 4, mj_in (3) 4]) (pc' := 73) (L' := [.ref 1, .int (3), .int i, .int v]) (st' := [.int v, .ref 40, .int i, .ref 41]) (σ' := (mj_KS N, (mj_upI I 1 13 0), mj_PP c d r)) 14 rfl ⟨mj_in_d (by decide), mj_in_d (by decide), trivial⟩ ?_
          refine R_ce (idx := 245) (mid := 38) (kind := 3) (N := N) (M' := mj_m_X4_cut) (As := [.ref 40, .int v]) (rest := [.int i, .ref 41]) (I := (mj_upI I 1 13 0)) (P := mj_PP c d r) (I' := (mj_upI I 1 13 0)) (P' := mj_PP c d r) (v := some (.int (sp_cut (I 40 1) v))) rfl rfl rfl mj_mc38 mj_dc38 rfl rfl rfl rfl rfl rfl (x_cut l b base D z N 40 (by decide) v (mj_upI I 1 13 0) c d r) ?_
          refine R_seg (φ := [mj_in i 60]) (pc' := 78) (L' := [.ref 1, .int (3), .int i, .int v]) (st' := [.int 1]) (σ' := (mj_KS N, (mj_upI (mj_upI I 1 13 0) 41 i (sp_cut (I 40 1) v)), mj_PP c d r)) 2 rfl ⟨mj_hcin h3 (hl 3 (by decide)), trivial⟩ ?_
          exact R_ri rfl rfl (mj_leaf (by simp only [s_X5_put, if_neg h1, if_neg h2, h3, Bool.false_eq_true, ↓reduceIte, Nat.reduceAdd, Nat.reduceMul, mj_tn0, mj_tn1, mj_tn2, mj_tn3]) (by simp only [s_X5_put, if_neg h1, if_neg h2, h3, Bool.false_eq_true, ↓reduceIte, Nat.reduceAdd, Nat.reduceMul, mj_tn0, mj_tn1, mj_tn2, mj_tn3]))
def s_X5_tellPlant (cc : Nat) (q : Int32) (I : mj_I) : Int32 × mj_I := ((s_X5_leave 1 I) (cc + 4 + 1 + q.toNatClampNeg) 0, (s_X5_leave 1 I))
set_option maxHeartbeats 8000000 in
theorem x_X5_tellPlant (l : Launch) (b base : Nat) (D : va_G) (z : mj_K × (Int32 → Int32)) (N : Nat) (cc : Nat) (hcc : cc = 2 ∨ cc = 10) (q : Int32) (I : mj_I) (d r : Nat) (hq : q = 0 ∨ q = 1 ∨ q = 2) : mj_Rn l b base D z mj_m_X5_tellPlant 0 [.ref 1, .int q] [] (mj_KS N, I, mj_PP cc d r) (mj_E N (some (.int (s_X5_tellPlant cc q I).1)) (s_X5_tellPlant cc q I).2 (mj_PP cc d r)) := by
  rcases hcc with rfl | rfl
  · skip
    refine R_seg (φ := []) (pc' := 2) (L' := [.ref 1, .int q]) (st' := [.int 1, .ref 1]) (σ' := (mj_KS N, I, mj_PP (2) d r)) 2 rfl trivial ?_
    refine R_ce (idx := 276) (mid := 87) (kind := 0) (N := N) (M' := mj_m_X5_leave) (As := [.ref 1, .int 1]) (rest := []) (I := I) (P := mj_PP (2) d r) (I' := (s_X5_leave 1 I)) (P' := mj_PP (2) d r) (v := none) rfl rfl rfl mj_mc87 mj_dc87 rfl rfl rfl rfl rfl rfl (x_X5_leave l b base D z N 1 I (2) d r) ?_
    refine R_seg (φ := []) (pc' := 5) (L' := [.ref 1, .int q]) (st' := []) (σ' := (mj_KS N, (s_X5_leave 1 I), mj_PP (2) d r)) 0 rfl trivial ?_
    rcases hq with rfl | rfl | rfl
    · skip
      refine R_seg (φ := [mj_in (0) 3, mj_in 0 3]) (pc' := 16) (L' := [.ref 1, .int (0)]) (st' := [.int ((s_X5_leave 1 I) 7 0)]) (σ' := (mj_KS N, (s_X5_leave 1 I), mj_PP (2) d r)) 7 rfl ⟨mj_in_d (by decide), mj_in_d (by decide), trivial⟩ ?_
      exact R_ri rfl rfl (mj_leaf (by simp only [s_X5_tellPlant, Bool.false_eq_true, ↓reduceIte, Nat.reduceAdd, Nat.reduceMul, mj_tn0, mj_tn1, mj_tn2, mj_tn3]) (by simp only [s_X5_tellPlant, Bool.false_eq_true, ↓reduceIte, Nat.reduceAdd, Nat.reduceMul, mj_tn0, mj_tn1, mj_tn2, mj_tn3]))
    · skip
      refine R_seg (φ := [mj_in (1) 3, mj_in 0 3]) (pc' := 16) (L' := [.ref 1, .int (1)]) (st' := [.int ((s_X5_leave 1 I) 8 0)]) (σ' := (mj_KS N, (s_X5_leave 1 I), mj_PP (2) d r)) 7 rfl ⟨mj_in_d (by decide), mj_in_d (by decide), trivial⟩ ?_
      exact R_ri rfl rfl (mj_leaf (by simp only [s_X5_tellPlant, Bool.false_eq_true, ↓reduceIte, Nat.reduceAdd, Nat.reduceMul, mj_tn0, mj_tn1, mj_tn2, mj_tn3]) (by simp only [s_X5_tellPlant, Bool.false_eq_true, ↓reduceIte, Nat.reduceAdd, Nat.reduceMul, mj_tn0, mj_tn1, mj_tn2, mj_tn3]))
    · skip
      refine R_seg (φ := [mj_in (2) 3, mj_in 0 3]) (pc' := 16) (L' := [.ref 1, .int (2)]) (st' := [.int ((s_X5_leave 1 I) 9 0)]) (σ' := (mj_KS N, (s_X5_leave 1 I), mj_PP (2) d r)) 7 rfl ⟨mj_in_d (by decide), mj_in_d (by decide), trivial⟩ ?_
      exact R_ri rfl rfl (mj_leaf (by simp only [s_X5_tellPlant, Bool.false_eq_true, ↓reduceIte, Nat.reduceAdd, Nat.reduceMul, mj_tn0, mj_tn1, mj_tn2, mj_tn3]) (by simp only [s_X5_tellPlant, Bool.false_eq_true, ↓reduceIte, Nat.reduceAdd, Nat.reduceMul, mj_tn0, mj_tn1, mj_tn2, mj_tn3]))
  · skip
    refine R_seg (φ := []) (pc' := 2) (L' := [.ref 1, .int q]) (st' := [.int 1, .ref 1]) (σ' := (mj_KS N, I, mj_PP (10) d r)) 2 rfl trivial ?_
    refine R_ce (idx := 276) (mid := 87) (kind := 0) (N := N) (M' := mj_m_X5_leave) (As := [.ref 1, .int 1]) (rest := []) (I := I) (P := mj_PP (10) d r) (I' := (s_X5_leave 1 I)) (P' := mj_PP (10) d r) (v := none) rfl rfl rfl mj_mc87 mj_dc87 rfl rfl rfl rfl rfl rfl (x_X5_leave l b base D z N 1 I (10) d r) ?_
    refine R_seg (φ := []) (pc' := 5) (L' := [.ref 1, .int q]) (st' := []) (σ' := (mj_KS N, (s_X5_leave 1 I), mj_PP (10) d r)) 0 rfl trivial ?_
    rcases hq with rfl | rfl | rfl
    · skip
      refine R_seg (φ := [mj_in (0) 3, mj_in 0 3]) (pc' := 16) (L' := [.ref 1, .int (0)]) (st' := [.int ((s_X5_leave 1 I) 15 0)]) (σ' := (mj_KS N, (s_X5_leave 1 I), mj_PP (10) d r)) 7 rfl ⟨mj_in_d (by decide), mj_in_d (by decide), trivial⟩ ?_
      exact R_ri rfl rfl (mj_leaf (by simp only [s_X5_tellPlant, Bool.false_eq_true, ↓reduceIte, Nat.reduceAdd, Nat.reduceMul, mj_tn0, mj_tn1, mj_tn2, mj_tn3]) (by simp only [s_X5_tellPlant, Bool.false_eq_true, ↓reduceIte, Nat.reduceAdd, Nat.reduceMul, mj_tn0, mj_tn1, mj_tn2, mj_tn3]))
    · skip
      refine R_seg (φ := [mj_in (1) 3, mj_in 0 3]) (pc' := 16) (L' := [.ref 1, .int (1)]) (st' := [.int ((s_X5_leave 1 I) 16 0)]) (σ' := (mj_KS N, (s_X5_leave 1 I), mj_PP (10) d r)) 7 rfl ⟨mj_in_d (by decide), mj_in_d (by decide), trivial⟩ ?_
      exact R_ri rfl rfl (mj_leaf (by simp only [s_X5_tellPlant, Bool.false_eq_true, ↓reduceIte, Nat.reduceAdd, Nat.reduceMul, mj_tn0, mj_tn1, mj_tn2, mj_tn3]) (by simp only [s_X5_tellPlant, Bool.false_eq_true, ↓reduceIte, Nat.reduceAdd, Nat.reduceMul, mj_tn0, mj_tn1, mj_tn2, mj_tn3]))
    · skip
      refine R_seg (φ := [mj_in (2) 3, mj_in 0 3]) (pc' := 16) (L' := [.ref 1, .int (2)]) (st' := [.int ((s_X5_leave 1 I) 17 0)]) (σ' := (mj_KS N, (s_X5_leave 1 I), mj_PP (10) d r)) 7 rfl ⟨mj_in_d (by decide), mj_in_d (by decide), trivial⟩ ?_
      exact R_ri rfl rfl (mj_leaf (by simp only [s_X5_tellPlant, Bool.false_eq_true, ↓reduceIte, Nat.reduceAdd, Nat.reduceMul, mj_tn0, mj_tn1, mj_tn2, mj_tn3]) (by simp only [s_X5_tellPlant, Bool.false_eq_true, ↓reduceIte, Nat.reduceAdd, Nat.reduceMul, mj_tn0, mj_tn1, mj_tn2, mj_tn3]))
def s_X5_tellShrub (cc : Nat) (q : Int32) (I : mj_I) : Int32 × mj_I := (((s_X5_tellPlant (cc) q (s_X5_leave 2 I)).1) + 100, (s_X5_tellPlant (cc) q (s_X5_leave 2 I)).2)
set_option maxHeartbeats 8000000 in
theorem x_X5_tellShrub (l : Launch) (b base : Nat) (D : va_G) (z : mj_K × (Int32 → Int32)) (N : Nat) (cc : Nat) (hcc : cc = 2 ∨ cc = 10) (q : Int32) (I : mj_I) (d r : Nat) (hq : q = 0 ∨ q = 1 ∨ q = 2) : mj_Rn l b base D z mj_m_X5_tellShrub 0 [.ref 1, .int q] [] (mj_KS N, I, mj_PP cc d r) (mj_E N (some (.int (s_X5_tellShrub cc q I).1)) (s_X5_tellShrub cc q I).2 (mj_PP cc d r)) := by
  rcases hcc with rfl | rfl
  · skip
    refine R_seg (φ := []) (pc' := 2) (L' := [.ref 1, .int q]) (st' := [.int 2, .ref 1]) (σ' := (mj_KS N, I, mj_PP (2) d r)) 2 rfl trivial ?_
    refine R_ce (idx := 276) (mid := 87) (kind := 0) (N := N) (M' := mj_m_X5_leave) (As := [.ref 1, .int 2]) (rest := []) (I := I) (P := mj_PP (2) d r) (I' := (s_X5_leave 2 I)) (P' := mj_PP (2) d r) (v := none) rfl rfl rfl mj_mc87 mj_dc87 rfl rfl rfl rfl rfl rfl (x_X5_leave l b base D z N 2 I (2) d r) ?_
    refine R_seg (φ := []) (pc' := 7) (L' := [.ref 1, .int q]) (st' := [.int q, .ref 1]) (σ' := (mj_KS N, (s_X5_leave 2 I), mj_PP (2) d r)) 2 rfl trivial ?_
    refine R_ce (idx := 263) (mid := 82) (kind := 0) (N := N) (M' := mj_m_X5_tellPlant) (As := [.ref 1, .int q]) (rest := []) (I := (s_X5_leave 2 I)) (P := mj_PP (2) d r) (I' := (s_X5_tellPlant (2) q (s_X5_leave 2 I)).2) (P' := mj_PP (2) d r) (v := some (.int ((s_X5_tellPlant (2) q (s_X5_leave 2 I)).1))) rfl rfl rfl mj_mc82 mj_dc82 rfl rfl rfl rfl rfl rfl (x_X5_tellPlant l b base D z N (2) (by decide) q (s_X5_leave 2 I) d r (hq)) ?_
    refine R_seg (φ := []) (pc' := 13) (L' := [.ref 1, .int q]) (st' := [.int (((s_X5_tellPlant (2) q (s_X5_leave 2 I)).1) + 100)]) (σ' := (mj_KS N, (s_X5_tellPlant (2) q (s_X5_leave 2 I)).2, mj_PP (2) d r)) 2 rfl trivial ?_
    exact R_ri rfl rfl (mj_leaf (by simp only [s_X5_tellShrub, Bool.false_eq_true, ↓reduceIte, Nat.reduceAdd, Nat.reduceMul, mj_tn0, mj_tn1, mj_tn2, mj_tn3]) (by simp only [s_X5_tellShrub, Bool.false_eq_true, ↓reduceIte, Nat.reduceAdd, Nat.reduceMul, mj_tn0, mj_tn1, mj_tn2, mj_tn3]))
  · skip
    refine R_seg (φ := []) (pc' := 2) (L' := [.ref 1, .int q]) (st' := [.int 2, .ref 1]) (σ' := (mj_KS N, I, mj_PP (10) d r)) 2 rfl trivial ?_
    refine R_ce (idx := 276) (mid := 87) (kind := 0) (N := N) (M' := mj_m_X5_leave) (As := [.ref 1, .int 2]) (rest := []) (I := I) (P := mj_PP (10) d r) (I' := (s_X5_leave 2 I)) (P' := mj_PP (10) d r) (v := none) rfl rfl rfl mj_mc87 mj_dc87 rfl rfl rfl rfl rfl rfl (x_X5_leave l b base D z N 2 I (10) d r) ?_
    refine R_seg (φ := []) (pc' := 7) (L' := [.ref 1, .int q]) (st' := [.int q, .ref 1]) (σ' := (mj_KS N, (s_X5_leave 2 I), mj_PP (10) d r)) 2 rfl trivial ?_
    refine R_ce (idx := 263) (mid := 82) (kind := 0) (N := N) (M' := mj_m_X5_tellPlant) (As := [.ref 1, .int q]) (rest := []) (I := (s_X5_leave 2 I)) (P := mj_PP (10) d r) (I' := (s_X5_tellPlant (10) q (s_X5_leave 2 I)).2) (P' := mj_PP (10) d r) (v := some (.int ((s_X5_tellPlant (10) q (s_X5_leave 2 I)).1))) rfl rfl rfl mj_mc82 mj_dc82 rfl rfl rfl rfl rfl rfl (x_X5_tellPlant l b base D z N (10) (by decide) q (s_X5_leave 2 I) d r (hq)) ?_
    refine R_seg (φ := []) (pc' := 13) (L' := [.ref 1, .int q]) (st' := [.int (((s_X5_tellPlant (10) q (s_X5_leave 2 I)).1) + 100)]) (σ' := (mj_KS N, (s_X5_tellPlant (10) q (s_X5_leave 2 I)).2, mj_PP (10) d r)) 2 rfl trivial ?_
    exact R_ri rfl rfl (mj_leaf (by simp only [s_X5_tellShrub, Bool.false_eq_true, ↓reduceIte, Nat.reduceAdd, Nat.reduceMul, mj_tn0, mj_tn1, mj_tn2, mj_tn3]) (by simp only [s_X5_tellShrub, Bool.false_eq_true, ↓reduceIte, Nat.reduceAdd, Nat.reduceMul, mj_tn0, mj_tn1, mj_tn2, mj_tn3]))
def s_X5_tellWeed (cc : Nat) (q : Int32) (I : mj_I) : Int32 × mj_I := (((s_X5_tellShrub (cc) q (s_X5_leave 3 I)).1) + ((s_X5_tellPlant (cc) q ((s_X5_tellShrub (cc) q (s_X5_leave 3 I)).2)).1), (s_X5_tellPlant (cc) q ((s_X5_tellShrub (cc) q (s_X5_leave 3 I)).2)).2)
set_option maxHeartbeats 8000000 in
theorem x_X5_tellWeed (l : Launch) (b base : Nat) (D : va_G) (z : mj_K × (Int32 → Int32)) (N : Nat) (cc : Nat) (hcc : cc = 2 ∨ cc = 10) (q : Int32) (I : mj_I) (d r : Nat) (hq : q = 0 ∨ q = 1 ∨ q = 2) : mj_Rn l b base D z mj_m_X5_tellWeed 0 [.ref 1, .int q, mj_mk] [] (mj_KS N, I, mj_PP cc d r) (mj_E N (some (.int (s_X5_tellWeed cc q I).1)) (s_X5_tellWeed cc q I).2 (mj_PP cc d r)) := by
  rcases hcc with rfl | rfl
  · skip
    refine R_seg (φ := []) (pc' := 2) (L' := [.ref 1, .int q, mj_mk]) (st' := [.int 3, .ref 1]) (σ' := (mj_KS N, I, mj_PP (2) d r)) 2 rfl trivial ?_
    refine R_ce (idx := 276) (mid := 87) (kind := 0) (N := N) (M' := mj_m_X5_leave) (As := [.ref 1, .int 3]) (rest := []) (I := I) (P := mj_PP (2) d r) (I' := (s_X5_leave 3 I)) (P' := mj_PP (2) d r) (v := none) rfl rfl rfl mj_mc87 mj_dc87 rfl rfl rfl rfl rfl rfl (x_X5_leave l b base D z N 3 I (2) d r) ?_
    refine R_seg (φ := []) (pc' := 7) (L' := [.ref 1, .int q, mj_mk]) (st' := [.int q, .ref 1]) (σ' := (mj_KS N, (s_X5_leave 3 I), mj_PP (2) d r)) 2 rfl trivial ?_
    refine R_ce (idx := 260) (mid := 83) (kind := 0) (N := N) (M' := mj_m_X5_tellShrub) (As := [.ref 1, .int q]) (rest := []) (I := (s_X5_leave 3 I)) (P := mj_PP (2) d r) (I' := (s_X5_tellShrub (2) q (s_X5_leave 3 I)).2) (P' := mj_PP (2) d r) (v := some (.int ((s_X5_tellShrub (2) q (s_X5_leave 3 I)).1))) rfl rfl rfl mj_mc83 mj_dc83 rfl rfl rfl rfl rfl rfl (x_X5_tellShrub l b base D z N (2) (by decide) q (s_X5_leave 3 I) d r (hq)) ?_
    refine R_seg (φ := []) (pc' := 14) (L' := [.ref 1, .int q, .int ((s_X5_tellShrub (2) q (s_X5_leave 3 I)).1)]) (st' := [.int q, .ref 1, .int ((s_X5_tellShrub (2) q (s_X5_leave 3 I)).1)]) (σ' := (mj_KS N, (s_X5_tellShrub (2) q (s_X5_leave 3 I)).2, mj_PP (2) d r)) 4 rfl trivial ?_
    refine R_ce (idx := 263) (mid := 82) (kind := 0) (N := N) (M' := mj_m_X5_tellPlant) (As := [.ref 1, .int q]) (rest := [.int ((s_X5_tellShrub (2) q (s_X5_leave 3 I)).1)]) (I := (s_X5_tellShrub (2) q (s_X5_leave 3 I)).2) (P := mj_PP (2) d r) (I' := (s_X5_tellPlant (2) q ((s_X5_tellShrub (2) q (s_X5_leave 3 I)).2)).2) (P' := mj_PP (2) d r) (v := some (.int ((s_X5_tellPlant (2) q ((s_X5_tellShrub (2) q (s_X5_leave 3 I)).2)).1))) rfl rfl rfl mj_mc82 mj_dc82 rfl rfl rfl rfl rfl rfl (x_X5_tellPlant l b base D z N (2) (by decide) q ((s_X5_tellShrub (2) q (s_X5_leave 3 I)).2) d r (hq)) ?_
    refine R_seg (φ := []) (pc' := 18) (L' := [.ref 1, .int q, .int ((s_X5_tellShrub (2) q (s_X5_leave 3 I)).1)]) (st' := [.int (((s_X5_tellShrub (2) q (s_X5_leave 3 I)).1) + ((s_X5_tellPlant (2) q ((s_X5_tellShrub (2) q (s_X5_leave 3 I)).2)).1))]) (σ' := (mj_KS N, (s_X5_tellPlant (2) q ((s_X5_tellShrub (2) q (s_X5_leave 3 I)).2)).2, mj_PP (2) d r)) 1 rfl trivial ?_
    exact R_ri rfl rfl (mj_leaf (by simp only [s_X5_tellWeed, Bool.false_eq_true, ↓reduceIte, Nat.reduceAdd, Nat.reduceMul, mj_tn0, mj_tn1, mj_tn2, mj_tn3]) (by simp only [s_X5_tellWeed, Bool.false_eq_true, ↓reduceIte, Nat.reduceAdd, Nat.reduceMul, mj_tn0, mj_tn1, mj_tn2, mj_tn3]))
  · skip
    refine R_seg (φ := []) (pc' := 2) (L' := [.ref 1, .int q, mj_mk]) (st' := [.int 3, .ref 1]) (σ' := (mj_KS N, I, mj_PP (10) d r)) 2 rfl trivial ?_
    refine R_ce (idx := 276) (mid := 87) (kind := 0) (N := N) (M' := mj_m_X5_leave) (As := [.ref 1, .int 3]) (rest := []) (I := I) (P := mj_PP (10) d r) (I' := (s_X5_leave 3 I)) (P' := mj_PP (10) d r) (v := none) rfl rfl rfl mj_mc87 mj_dc87 rfl rfl rfl rfl rfl rfl (x_X5_leave l b base D z N 3 I (10) d r) ?_
    refine R_seg (φ := []) (pc' := 7) (L' := [.ref 1, .int q, mj_mk]) (st' := [.int q, .ref 1]) (σ' := (mj_KS N, (s_X5_leave 3 I), mj_PP (10) d r)) 2 rfl trivial ?_
    refine R_ce (idx := 260) (mid := 83) (kind := 0) (N := N) (M' := mj_m_X5_tellShrub) (As := [.ref 1, .int q]) (rest := []) (I := (s_X5_leave 3 I)) (P := mj_PP (10) d r) (I' := (s_X5_tellShrub (10) q (s_X5_leave 3 I)).2) (P' := mj_PP (10) d r) (v := some (.int ((s_X5_tellShrub (10) q (s_X5_leave 3 I)).1))) rfl rfl rfl mj_mc83 mj_dc83 rfl rfl rfl rfl rfl rfl (x_X5_tellShrub l b base D z N (10) (by decide) q (s_X5_leave 3 I) d r (hq)) ?_
    refine R_seg (φ := []) (pc' := 14) (L' := [.ref 1, .int q, .int ((s_X5_tellShrub (10) q (s_X5_leave 3 I)).1)]) (st' := [.int q, .ref 1, .int ((s_X5_tellShrub (10) q (s_X5_leave 3 I)).1)]) (σ' := (mj_KS N, (s_X5_tellShrub (10) q (s_X5_leave 3 I)).2, mj_PP (10) d r)) 4 rfl trivial ?_
    refine R_ce (idx := 263) (mid := 82) (kind := 0) (N := N) (M' := mj_m_X5_tellPlant) (As := [.ref 1, .int q]) (rest := [.int ((s_X5_tellShrub (10) q (s_X5_leave 3 I)).1)]) (I := (s_X5_tellShrub (10) q (s_X5_leave 3 I)).2) (P := mj_PP (10) d r) (I' := (s_X5_tellPlant (10) q ((s_X5_tellShrub (10) q (s_X5_leave 3 I)).2)).2) (P' := mj_PP (10) d r) (v := some (.int ((s_X5_tellPlant (10) q ((s_X5_tellShrub (10) q (s_X5_leave 3 I)).2)).1))) rfl rfl rfl mj_mc82 mj_dc82 rfl rfl rfl rfl rfl rfl (x_X5_tellPlant l b base D z N (10) (by decide) q ((s_X5_tellShrub (10) q (s_X5_leave 3 I)).2) d r (hq)) ?_
    refine R_seg (φ := []) (pc' := 18) (L' := [.ref 1, .int q, .int ((s_X5_tellShrub (10) q (s_X5_leave 3 I)).1)]) (st' := [.int (((s_X5_tellShrub (10) q (s_X5_leave 3 I)).1) + ((s_X5_tellPlant (10) q ((s_X5_tellShrub (10) q (s_X5_leave 3 I)).2)).1))]) (σ' := (mj_KS N, (s_X5_tellPlant (10) q ((s_X5_tellShrub (10) q (s_X5_leave 3 I)).2)).2, mj_PP (10) d r)) 1 rfl trivial ?_
    exact R_ri rfl rfl (mj_leaf (by simp only [s_X5_tellWeed, Bool.false_eq_true, ↓reduceIte, Nat.reduceAdd, Nat.reduceMul, mj_tn0, mj_tn1, mj_tn2, mj_tn3]) (by simp only [s_X5_tellWeed, Bool.false_eq_true, ↓reduceIte, Nat.reduceAdd, Nat.reduceMul, mj_tn0, mj_tn1, mj_tn2, mj_tn3]))
def s_X5_tell (cc : Nat) (q : Int32) (I : mj_I) : Int32 × mj_I := if sp_has (I cc 1) q then (if (I (cc + 3) q : Int32) = 2 then ((s_X5_tellWeed (cc) q I).1, (s_X5_tellWeed (cc) q I).2) else (if (I (cc + 3) q : Int32) = 1 then ((s_X5_tellShrub (cc) q I).1, (s_X5_tellShrub (cc) q I).2) else ((s_X5_tellPlant (cc) q I).1, (s_X5_tellPlant (cc) q I).2))) else ((-1), I)
set_option maxHeartbeats 8000000 in
theorem x_X5_tell (l : Launch) (b base : Nat) (D : va_G) (z : mj_K × (Int32 → Int32)) (N : Nat) (cc : Nat) (hcc : cc = 2 ∨ cc = 10) (q : Int32) (I : mj_I) (d r : Nat) (hp : (I cc 1).toInt ≤ 3) : mj_Rn l b base D z mj_m_X5_tell 0 [.ref 1, .int q] [] (mj_KS N, I, mj_PP cc d r) (mj_E N (some (.int (s_X5_tell cc q I).1)) (s_X5_tell cc q I).2 (mj_PP cc d r)) := by
  rcases hcc with rfl | rfl
  · skip
    refine R_seg (φ := []) (pc' := 5) (L' := [.ref 1, .int q]) (st' := [.int q, .ref 2]) (σ' := (mj_KS N, I, mj_PP (2) d r)) 3 rfl trivial ?_
    refine R_ce (idx := 119) (mid := 8) (kind := 3) (N := N) (M' := mj_m_X1_hasPlant) (As := [.ref 2, .int q]) (rest := []) (I := I) (P := mj_PP (2) d r) (I' := I) (P' := mj_PP (2) d r) (v := some (.int (bI (sp_has (I 2 1) q)))) rfl rfl rfl mj_mc8 mj_dc8 rfl rfl rfl rfl rfl rfl (x_hasPlant l b base D z N 2 (by decide) q I (2) d r) ?_
    refine R_seg (φ := []) (pc' := 8) (L' := [.ref 1, .int q]) (st' := [.int (bI (sp_has (I 2 1) q))]) (σ' := (mj_KS N, I, mj_PP (2) d r)) 0 rfl trivial ?_
    refine R_br (q := (bI (sp_has (I 2 1) q) : Int32) = 0) (t := 11) (f := 13) (rest := []) rfl (fun h1 => ?_) (fun h1 => ?_)
    · skip
      replace h1 := bI_0.mp h1
      refine R_seg (φ := []) (pc' := 12) (L' := [.ref 1, .int q]) (st' := [.int (-1)]) (σ' := (mj_KS N, I, mj_PP (2) d r)) 1 rfl trivial ?_
      exact R_ri rfl rfl (mj_leaf (by simp only [s_X5_tell, h1, Bool.false_eq_true, ↓reduceIte, Nat.reduceAdd, Nat.reduceMul, mj_tn0, mj_tn1, mj_tn2, mj_tn3]) (by simp only [s_X5_tell, h1, Bool.false_eq_true, ↓reduceIte, Nat.reduceAdd, Nat.reduceMul, mj_tn0, mj_tn1, mj_tn2, mj_tn3]))
    · skip
      replace h1 := bI_1 h1
      refine R_seg (φ := [mj_in q 3]) (pc' := 23) (L' := [.ref 1, .int q]) (st' := [.int 2, .int (I 5 q)]) (σ' := (mj_KS N, I, mj_PP (2) d r)) 6 rfl ⟨mj_hasin h1 hp, trivial⟩ ?_
      refine R_br (q := (I 5 q : Int32) = 2) (t := 26) (f := 32) (rest := []) rfl (fun h2 => ?_) (fun h2 => ?_)
      · skip
        refine R_seg (φ := []) (pc' := 28) (L' := [.ref 1, .int q]) (st' := [.int q, .ref 1]) (σ' := (mj_KS N, I, mj_PP (2) d r)) 2 rfl trivial ?_
        refine R_ce (idx := 257) (mid := 84) (kind := 0) (N := N) (M' := mj_m_X5_tellWeed) (As := [.ref 1, .int q]) (rest := []) (I := I) (P := mj_PP (2) d r) (I' := (s_X5_tellWeed (2) q I).2) (P' := mj_PP (2) d r) (v := some (.int ((s_X5_tellWeed (2) q I).1))) rfl rfl rfl mj_mc84 mj_dc84 rfl rfl rfl rfl rfl rfl (x_X5_tellWeed l b base D z N (2) (by decide) q I d r (mj_has3 h1 hp)) ?_
        refine R_seg (φ := []) (pc' := 31) (L' := [.ref 1, .int q]) (st' := [.int ((s_X5_tellWeed (2) q I).1)]) (σ' := (mj_KS N, (s_X5_tellWeed (2) q I).2, mj_PP (2) d r)) 0 rfl trivial ?_
        exact R_ri rfl rfl (mj_leaf (by simp only [s_X5_tell, h1, if_pos h2, Bool.false_eq_true, ↓reduceIte, Nat.reduceAdd, Nat.reduceMul, mj_tn0, mj_tn1, mj_tn2, mj_tn3]) (by simp only [s_X5_tell, h1, if_pos h2, Bool.false_eq_true, ↓reduceIte, Nat.reduceAdd, Nat.reduceMul, mj_tn0, mj_tn1, mj_tn2, mj_tn3]))
      · skip
        refine R_seg (φ := [mj_in q 3]) (pc' := 42) (L' := [.ref 1, .int q]) (st' := [.int 1, .int (I 5 q)]) (σ' := (mj_KS N, I, mj_PP (2) d r)) 6 rfl ⟨mj_hasin h1 hp, trivial⟩ ?_
        refine R_br (q := (I 5 q : Int32) = 1) (t := 45) (f := 53) (rest := []) rfl (fun h3 => ?_) (fun h3 => ?_)
        · skip
          refine R_seg (φ := []) (pc' := 47) (L' := [.ref 1, .int q]) (st' := [.int q, .ref 1]) (σ' := (mj_KS N, I, mj_PP (2) d r)) 2 rfl trivial ?_
          refine R_ce (idx := 260) (mid := 83) (kind := 0) (N := N) (M' := mj_m_X5_tellShrub) (As := [.ref 1, .int q]) (rest := []) (I := I) (P := mj_PP (2) d r) (I' := (s_X5_tellShrub (2) q I).2) (P' := mj_PP (2) d r) (v := some (.int ((s_X5_tellShrub (2) q I).1))) rfl rfl rfl mj_mc83 mj_dc83 rfl rfl rfl rfl rfl rfl (x_X5_tellShrub l b base D z N (2) (by decide) q I d r (mj_has3 h1 hp)) ?_
          refine R_seg (φ := []) (pc' := 58) (L' := [.ref 1, .int q]) (st' := [.int ((s_X5_tellShrub (2) q I).1)]) (σ' := (mj_KS N, (s_X5_tellShrub (2) q I).2, mj_PP (2) d r)) 1 rfl trivial ?_
          exact R_ri rfl rfl (mj_leaf (by simp only [s_X5_tell, h1, if_neg h2, if_pos h3, Bool.false_eq_true, ↓reduceIte, Nat.reduceAdd, Nat.reduceMul, mj_tn0, mj_tn1, mj_tn2, mj_tn3]) (by simp only [s_X5_tell, h1, if_neg h2, if_pos h3, Bool.false_eq_true, ↓reduceIte, Nat.reduceAdd, Nat.reduceMul, mj_tn0, mj_tn1, mj_tn2, mj_tn3]))
        · skip
          refine R_seg (φ := []) (pc' := 55) (L' := [.ref 1, .int q]) (st' := [.int q, .ref 1]) (σ' := (mj_KS N, I, mj_PP (2) d r)) 2 rfl trivial ?_
          refine R_ce (idx := 263) (mid := 82) (kind := 0) (N := N) (M' := mj_m_X5_tellPlant) (As := [.ref 1, .int q]) (rest := []) (I := I) (P := mj_PP (2) d r) (I' := (s_X5_tellPlant (2) q I).2) (P' := mj_PP (2) d r) (v := some (.int ((s_X5_tellPlant (2) q I).1))) rfl rfl rfl mj_mc82 mj_dc82 rfl rfl rfl rfl rfl rfl (x_X5_tellPlant l b base D z N (2) (by decide) q I d r (mj_has3 h1 hp)) ?_
          refine R_seg (φ := []) (pc' := 58) (L' := [.ref 1, .int q]) (st' := [.int ((s_X5_tellPlant (2) q I).1)]) (σ' := (mj_KS N, (s_X5_tellPlant (2) q I).2, mj_PP (2) d r)) 0 rfl trivial ?_
          exact R_ri rfl rfl (mj_leaf (by simp only [s_X5_tell, h1, if_neg h2, if_neg h3, Bool.false_eq_true, ↓reduceIte, Nat.reduceAdd, Nat.reduceMul, mj_tn0, mj_tn1, mj_tn2, mj_tn3]) (by simp only [s_X5_tell, h1, if_neg h2, if_neg h3, Bool.false_eq_true, ↓reduceIte, Nat.reduceAdd, Nat.reduceMul, mj_tn0, mj_tn1, mj_tn2, mj_tn3]))
  · skip
    refine R_seg (φ := []) (pc' := 5) (L' := [.ref 1, .int q]) (st' := [.int q, .ref 10]) (σ' := (mj_KS N, I, mj_PP (10) d r)) 3 rfl trivial ?_
    refine R_ce (idx := 119) (mid := 8) (kind := 3) (N := N) (M' := mj_m_X1_hasPlant) (As := [.ref 10, .int q]) (rest := []) (I := I) (P := mj_PP (10) d r) (I' := I) (P' := mj_PP (10) d r) (v := some (.int (bI (sp_has (I 10 1) q)))) rfl rfl rfl mj_mc8 mj_dc8 rfl rfl rfl rfl rfl rfl (x_hasPlant l b base D z N 10 (by decide) q I (10) d r) ?_
    refine R_seg (φ := []) (pc' := 8) (L' := [.ref 1, .int q]) (st' := [.int (bI (sp_has (I 10 1) q))]) (σ' := (mj_KS N, I, mj_PP (10) d r)) 0 rfl trivial ?_
    refine R_br (q := (bI (sp_has (I 10 1) q) : Int32) = 0) (t := 11) (f := 13) (rest := []) rfl (fun h1 => ?_) (fun h1 => ?_)
    · skip
      replace h1 := bI_0.mp h1
      refine R_seg (φ := []) (pc' := 12) (L' := [.ref 1, .int q]) (st' := [.int (-1)]) (σ' := (mj_KS N, I, mj_PP (10) d r)) 1 rfl trivial ?_
      exact R_ri rfl rfl (mj_leaf (by simp only [s_X5_tell, h1, Bool.false_eq_true, ↓reduceIte, Nat.reduceAdd, Nat.reduceMul, mj_tn0, mj_tn1, mj_tn2, mj_tn3]) (by simp only [s_X5_tell, h1, Bool.false_eq_true, ↓reduceIte, Nat.reduceAdd, Nat.reduceMul, mj_tn0, mj_tn1, mj_tn2, mj_tn3]))
    · skip
      replace h1 := bI_1 h1
      refine R_seg (φ := [mj_in q 3]) (pc' := 23) (L' := [.ref 1, .int q]) (st' := [.int 2, .int (I 13 q)]) (σ' := (mj_KS N, I, mj_PP (10) d r)) 6 rfl ⟨mj_hasin h1 hp, trivial⟩ ?_
      refine R_br (q := (I 13 q : Int32) = 2) (t := 26) (f := 32) (rest := []) rfl (fun h2 => ?_) (fun h2 => ?_)
      · skip
        refine R_seg (φ := []) (pc' := 28) (L' := [.ref 1, .int q]) (st' := [.int q, .ref 1]) (σ' := (mj_KS N, I, mj_PP (10) d r)) 2 rfl trivial ?_
        refine R_ce (idx := 257) (mid := 84) (kind := 0) (N := N) (M' := mj_m_X5_tellWeed) (As := [.ref 1, .int q]) (rest := []) (I := I) (P := mj_PP (10) d r) (I' := (s_X5_tellWeed (10) q I).2) (P' := mj_PP (10) d r) (v := some (.int ((s_X5_tellWeed (10) q I).1))) rfl rfl rfl mj_mc84 mj_dc84 rfl rfl rfl rfl rfl rfl (x_X5_tellWeed l b base D z N (10) (by decide) q I d r (mj_has3 h1 hp)) ?_
        refine R_seg (φ := []) (pc' := 31) (L' := [.ref 1, .int q]) (st' := [.int ((s_X5_tellWeed (10) q I).1)]) (σ' := (mj_KS N, (s_X5_tellWeed (10) q I).2, mj_PP (10) d r)) 0 rfl trivial ?_
        exact R_ri rfl rfl (mj_leaf (by simp only [s_X5_tell, h1, if_pos h2, Bool.false_eq_true, ↓reduceIte, Nat.reduceAdd, Nat.reduceMul, mj_tn0, mj_tn1, mj_tn2, mj_tn3]) (by simp only [s_X5_tell, h1, if_pos h2, Bool.false_eq_true, ↓reduceIte, Nat.reduceAdd, Nat.reduceMul, mj_tn0, mj_tn1, mj_tn2, mj_tn3]))
      · skip
        refine R_seg (φ := [mj_in q 3]) (pc' := 42) (L' := [.ref 1, .int q]) (st' := [.int 1, .int (I 13 q)]) (σ' := (mj_KS N, I, mj_PP (10) d r)) 6 rfl ⟨mj_hasin h1 hp, trivial⟩ ?_
        refine R_br (q := (I 13 q : Int32) = 1) (t := 45) (f := 53) (rest := []) rfl (fun h3 => ?_) (fun h3 => ?_)
        · skip
          refine R_seg (φ := []) (pc' := 47) (L' := [.ref 1, .int q]) (st' := [.int q, .ref 1]) (σ' := (mj_KS N, I, mj_PP (10) d r)) 2 rfl trivial ?_
          refine R_ce (idx := 260) (mid := 83) (kind := 0) (N := N) (M' := mj_m_X5_tellShrub) (As := [.ref 1, .int q]) (rest := []) (I := I) (P := mj_PP (10) d r) (I' := (s_X5_tellShrub (10) q I).2) (P' := mj_PP (10) d r) (v := some (.int ((s_X5_tellShrub (10) q I).1))) rfl rfl rfl mj_mc83 mj_dc83 rfl rfl rfl rfl rfl rfl (x_X5_tellShrub l b base D z N (10) (by decide) q I d r (mj_has3 h1 hp)) ?_
          refine R_seg (φ := []) (pc' := 58) (L' := [.ref 1, .int q]) (st' := [.int ((s_X5_tellShrub (10) q I).1)]) (σ' := (mj_KS N, (s_X5_tellShrub (10) q I).2, mj_PP (10) d r)) 1 rfl trivial ?_
          exact R_ri rfl rfl (mj_leaf (by simp only [s_X5_tell, h1, if_neg h2, if_pos h3, Bool.false_eq_true, ↓reduceIte, Nat.reduceAdd, Nat.reduceMul, mj_tn0, mj_tn1, mj_tn2, mj_tn3]) (by simp only [s_X5_tell, h1, if_neg h2, if_pos h3, Bool.false_eq_true, ↓reduceIte, Nat.reduceAdd, Nat.reduceMul, mj_tn0, mj_tn1, mj_tn2, mj_tn3]))
        · skip
          refine R_seg (φ := []) (pc' := 55) (L' := [.ref 1, .int q]) (st' := [.int q, .ref 1]) (σ' := (mj_KS N, I, mj_PP (10) d r)) 2 rfl trivial ?_
          refine R_ce (idx := 263) (mid := 82) (kind := 0) (N := N) (M' := mj_m_X5_tellPlant) (As := [.ref 1, .int q]) (rest := []) (I := I) (P := mj_PP (10) d r) (I' := (s_X5_tellPlant (10) q I).2) (P' := mj_PP (10) d r) (v := some (.int ((s_X5_tellPlant (10) q I).1))) rfl rfl rfl mj_mc82 mj_dc82 rfl rfl rfl rfl rfl rfl (x_X5_tellPlant l b base D z N (10) (by decide) q I d r (mj_has3 h1 hp)) ?_
          refine R_seg (φ := []) (pc' := 58) (L' := [.ref 1, .int q]) (st' := [.int ((s_X5_tellPlant (10) q I).1)]) (σ' := (mj_KS N, (s_X5_tellPlant (10) q I).2, mj_PP (10) d r)) 0 rfl trivial ?_
          exact R_ri rfl rfl (mj_leaf (by simp only [s_X5_tell, h1, if_neg h2, if_neg h3, Bool.false_eq_true, ↓reduceIte, Nat.reduceAdd, Nat.reduceMul, mj_tn0, mj_tn1, mj_tn2, mj_tn3]) (by simp only [s_X5_tell, h1, if_neg h2, if_neg h3, Bool.false_eq_true, ↓reduceIte, Nat.reduceAdd, Nat.reduceMul, mj_tn0, mj_tn1, mj_tn2, mj_tn3]))
def s_X5_label (cc : Nat) (q : Int32) (I : mj_I) : Int32 × mj_I := if sp_has (I cc 1) q then (if (I (cc + 3) q : Int32) = 2 then ((s_X5_labelWeed  I).1, (s_X5_labelWeed  I).2) else ((s_X5_labelLent q I).1, (s_X5_labelLent q I).2)) else ((-1), I)
set_option maxHeartbeats 8000000 in
theorem x_X5_label (l : Launch) (b base : Nat) (D : va_G) (z : mj_K × (Int32 → Int32)) (N : Nat) (cc : Nat) (hcc : cc = 2 ∨ cc = 10) (q : Int32) (I : mj_I) (d r : Nat) (hp : (I cc 1).toInt ≤ 3) : mj_Rn l b base D z mj_m_X5_label 0 [.ref 1, .int q] [] (mj_KS N, I, mj_PP cc d r) (mj_E N (some (.int (s_X5_label cc q I).1)) (s_X5_label cc q I).2 (mj_PP cc d r)) := by
  rcases hcc with rfl | rfl
  · skip
    refine R_seg (φ := []) (pc' := 5) (L' := [.ref 1, .int q]) (st' := [.int q, .ref 2]) (σ' := (mj_KS N, I, mj_PP (2) d r)) 3 rfl trivial ?_
    refine R_ce (idx := 119) (mid := 8) (kind := 3) (N := N) (M' := mj_m_X1_hasPlant) (As := [.ref 2, .int q]) (rest := []) (I := I) (P := mj_PP (2) d r) (I' := I) (P' := mj_PP (2) d r) (v := some (.int (bI (sp_has (I 2 1) q)))) rfl rfl rfl mj_mc8 mj_dc8 rfl rfl rfl rfl rfl rfl (x_hasPlant l b base D z N 2 (by decide) q I (2) d r) ?_
    refine R_seg (φ := []) (pc' := 8) (L' := [.ref 1, .int q]) (st' := [.int (bI (sp_has (I 2 1) q))]) (σ' := (mj_KS N, I, mj_PP (2) d r)) 0 rfl trivial ?_
    refine R_br (q := (bI (sp_has (I 2 1) q) : Int32) = 0) (t := 11) (f := 13) (rest := []) rfl (fun h1 => ?_) (fun h1 => ?_)
    · skip
      replace h1 := bI_0.mp h1
      refine R_seg (φ := []) (pc' := 12) (L' := [.ref 1, .int q]) (st' := [.int (-1)]) (σ' := (mj_KS N, I, mj_PP (2) d r)) 1 rfl trivial ?_
      exact R_ri rfl rfl (mj_leaf (by simp only [s_X5_label, h1, Bool.false_eq_true, ↓reduceIte, Nat.reduceAdd, Nat.reduceMul, mj_tn0, mj_tn1, mj_tn2, mj_tn3]) (by simp only [s_X5_label, h1, Bool.false_eq_true, ↓reduceIte, Nat.reduceAdd, Nat.reduceMul, mj_tn0, mj_tn1, mj_tn2, mj_tn3]))
    · skip
      replace h1 := bI_1 h1
      refine R_seg (φ := [mj_in q 3]) (pc' := 23) (L' := [.ref 1, .int q]) (st' := [.int 2, .int (I 5 q)]) (σ' := (mj_KS N, I, mj_PP (2) d r)) 6 rfl ⟨mj_hasin h1 hp, trivial⟩ ?_
      refine R_br (q := (I 5 q : Int32) = 2) (t := 26) (f := 33) (rest := []) rfl (fun h2 => ?_) (fun h2 => ?_)
      · skip
        refine R_seg (φ := []) (pc' := 27) (L' := [.ref 1, .int q]) (st' := [.ref 1]) (σ' := (mj_KS N, I, mj_PP (2) d r)) 1 rfl trivial ?_
        refine R_ce (idx := 266) (mid := 86) (kind := 0) (N := N) (M' := mj_m_X5_labelWeed) (As := [.ref 1]) (rest := []) (I := I) (P := mj_PP (2) d r) (I' := (s_X5_labelWeed  I).2) (P' := mj_PP (2) d r) (v := some (.int ((s_X5_labelWeed  I).1))) rfl rfl rfl mj_mc86 mj_dc86 rfl rfl rfl rfl rfl rfl (x_X5_labelWeed l b base D z N  I (2) d r) ?_
        refine R_seg (φ := []) (pc' := 38) (L' := [.ref 1, .int q]) (st' := [.int ((s_X5_labelWeed  I).1)]) (σ' := (mj_KS N, (s_X5_labelWeed  I).2, mj_PP (2) d r)) 1 rfl trivial ?_
        exact R_ri rfl rfl (mj_leaf (by simp only [s_X5_label, h1, if_pos h2, Bool.false_eq_true, ↓reduceIte, Nat.reduceAdd, Nat.reduceMul, mj_tn0, mj_tn1, mj_tn2, mj_tn3]) (by simp only [s_X5_label, h1, if_pos h2, Bool.false_eq_true, ↓reduceIte, Nat.reduceAdd, Nat.reduceMul, mj_tn0, mj_tn1, mj_tn2, mj_tn3]))
      · skip
        refine R_seg (φ := []) (pc' := 35) (L' := [.ref 1, .int q]) (st' := [.int q, .ref 1]) (σ' := (mj_KS N, I, mj_PP (2) d r)) 2 rfl trivial ?_
        refine R_ce (idx := 270) (mid := 85) (kind := 0) (N := N) (M' := mj_m_X5_labelLent) (As := [.ref 1, .int q]) (rest := []) (I := I) (P := mj_PP (2) d r) (I' := (s_X5_labelLent q I).2) (P' := mj_PP (2) d r) (v := some (.int ((s_X5_labelLent q I).1))) rfl rfl rfl mj_mc85 mj_dc85 rfl rfl rfl rfl rfl rfl (x_X5_labelLent l b base D z N q I (2) d r) ?_
        refine R_seg (φ := []) (pc' := 38) (L' := [.ref 1, .int q]) (st' := [.int ((s_X5_labelLent q I).1)]) (σ' := (mj_KS N, (s_X5_labelLent q I).2, mj_PP (2) d r)) 0 rfl trivial ?_
        exact R_ri rfl rfl (mj_leaf (by simp only [s_X5_label, h1, if_neg h2, Bool.false_eq_true, ↓reduceIte, Nat.reduceAdd, Nat.reduceMul, mj_tn0, mj_tn1, mj_tn2, mj_tn3]) (by simp only [s_X5_label, h1, if_neg h2, Bool.false_eq_true, ↓reduceIte, Nat.reduceAdd, Nat.reduceMul, mj_tn0, mj_tn1, mj_tn2, mj_tn3]))
  · skip
    refine R_seg (φ := []) (pc' := 5) (L' := [.ref 1, .int q]) (st' := [.int q, .ref 10]) (σ' := (mj_KS N, I, mj_PP (10) d r)) 3 rfl trivial ?_
    refine R_ce (idx := 119) (mid := 8) (kind := 3) (N := N) (M' := mj_m_X1_hasPlant) (As := [.ref 10, .int q]) (rest := []) (I := I) (P := mj_PP (10) d r) (I' := I) (P' := mj_PP (10) d r) (v := some (.int (bI (sp_has (I 10 1) q)))) rfl rfl rfl mj_mc8 mj_dc8 rfl rfl rfl rfl rfl rfl (x_hasPlant l b base D z N 10 (by decide) q I (10) d r) ?_
    refine R_seg (φ := []) (pc' := 8) (L' := [.ref 1, .int q]) (st' := [.int (bI (sp_has (I 10 1) q))]) (σ' := (mj_KS N, I, mj_PP (10) d r)) 0 rfl trivial ?_
    refine R_br (q := (bI (sp_has (I 10 1) q) : Int32) = 0) (t := 11) (f := 13) (rest := []) rfl (fun h1 => ?_) (fun h1 => ?_)
    · skip
      replace h1 := bI_0.mp h1
      refine R_seg (φ := []) (pc' := 12) (L' := [.ref 1, .int q]) (st' := [.int (-1)]) (σ' := (mj_KS N, I, mj_PP (10) d r)) 1 rfl trivial ?_
      exact R_ri rfl rfl (mj_leaf (by simp only [s_X5_label, h1, Bool.false_eq_true, ↓reduceIte, Nat.reduceAdd, Nat.reduceMul, mj_tn0, mj_tn1, mj_tn2, mj_tn3]) (by simp only [s_X5_label, h1, Bool.false_eq_true, ↓reduceIte, Nat.reduceAdd, Nat.reduceMul, mj_tn0, mj_tn1, mj_tn2, mj_tn3]))
    · skip
      replace h1 := bI_1 h1
      refine R_seg (φ := [mj_in q 3]) (pc' := 23) (L' := [.ref 1, .int q]) (st' := [.int 2, .int (I 13 q)]) (σ' := (mj_KS N, I, mj_PP (10) d r)) 6 rfl ⟨mj_hasin h1 hp, trivial⟩ ?_
      refine R_br (q := (I 13 q : Int32) = 2) (t := 26) (f := 33) (rest := []) rfl (fun h2 => ?_) (fun h2 => ?_)
      · skip
        refine R_seg (φ := []) (pc' := 27) (L' := [.ref 1, .int q]) (st' := [.ref 1]) (σ' := (mj_KS N, I, mj_PP (10) d r)) 1 rfl trivial ?_
        refine R_ce (idx := 266) (mid := 86) (kind := 0) (N := N) (M' := mj_m_X5_labelWeed) (As := [.ref 1]) (rest := []) (I := I) (P := mj_PP (10) d r) (I' := (s_X5_labelWeed  I).2) (P' := mj_PP (10) d r) (v := some (.int ((s_X5_labelWeed  I).1))) rfl rfl rfl mj_mc86 mj_dc86 rfl rfl rfl rfl rfl rfl (x_X5_labelWeed l b base D z N  I (10) d r) ?_
        refine R_seg (φ := []) (pc' := 38) (L' := [.ref 1, .int q]) (st' := [.int ((s_X5_labelWeed  I).1)]) (σ' := (mj_KS N, (s_X5_labelWeed  I).2, mj_PP (10) d r)) 1 rfl trivial ?_
        exact R_ri rfl rfl (mj_leaf (by simp only [s_X5_label, h1, if_pos h2, Bool.false_eq_true, ↓reduceIte, Nat.reduceAdd, Nat.reduceMul, mj_tn0, mj_tn1, mj_tn2, mj_tn3]) (by simp only [s_X5_label, h1, if_pos h2, Bool.false_eq_true, ↓reduceIte, Nat.reduceAdd, Nat.reduceMul, mj_tn0, mj_tn1, mj_tn2, mj_tn3]))
      · skip
        refine R_seg (φ := []) (pc' := 35) (L' := [.ref 1, .int q]) (st' := [.int q, .ref 1]) (σ' := (mj_KS N, I, mj_PP (10) d r)) 2 rfl trivial ?_
        refine R_ce (idx := 270) (mid := 85) (kind := 0) (N := N) (M' := mj_m_X5_labelLent) (As := [.ref 1, .int q]) (rest := []) (I := I) (P := mj_PP (10) d r) (I' := (s_X5_labelLent q I).2) (P' := mj_PP (10) d r) (v := some (.int ((s_X5_labelLent q I).1))) rfl rfl rfl mj_mc85 mj_dc85 rfl rfl rfl rfl rfl rfl (x_X5_labelLent l b base D z N q I (10) d r) ?_
        refine R_seg (φ := []) (pc' := 38) (L' := [.ref 1, .int q]) (st' := [.int ((s_X5_labelLent q I).1)]) (σ' := (mj_KS N, (s_X5_labelLent q I).2, mj_PP (10) d r)) 0 rfl trivial ?_
        exact R_ri rfl rfl (mj_leaf (by simp only [s_X5_label, h1, if_neg h2, Bool.false_eq_true, ↓reduceIte, Nat.reduceAdd, Nat.reduceMul, mj_tn0, mj_tn1, mj_tn2, mj_tn3]) (by simp only [s_X5_label, h1, if_neg h2, Bool.false_eq_true, ↓reduceIte, Nat.reduceAdd, Nat.reduceMul, mj_tn0, mj_tn1, mj_tn2, mj_tn3]))
def s_X5_as (cc : Nat) (q : Int32) (k : Int32) (I : mj_I) : Int32 × mj_I := if sp_has (I cc 1) q then (if (k : Int32) < 0 then ((s_X5_refuse (-2) I).1, (s_X5_refuse (-2) I).2) else (if (k : Int32) < 3 then (if (I (cc + 3) q : Int32) < k then ((s_X5_comeTo 2 I).1, (s_X5_comeTo 2 I).2) else (1, (mj_upI I 1 13 0))) else ((s_X5_refuse (-2) I).1, (s_X5_refuse (-2) I).2))) else ((s_X5_refuse (-1) I).1, (s_X5_refuse (-1) I).2)
set_option maxHeartbeats 8000000 in
theorem x_X5_as (l : Launch) (b base : Nat) (D : va_G) (z : mj_K × (Int32 → Int32)) (N : Nat) (cc : Nat) (hcc : cc = 2 ∨ cc = 10) (q : Int32) (k : Int32) (I : mj_I) (d r : Nat) (hp : (I cc 1).toInt ≤ 3) : mj_Rn l b base D z mj_m_X5_as 0 [.ref 1, .int q, .int k] [] (mj_KS N, I, mj_PP cc d r) (mj_E N (some (.int (s_X5_as cc q k I).1)) (s_X5_as cc q k I).2 (mj_PP cc d r)) := by
  rcases hcc with rfl | rfl
  · skip
    refine R_seg (φ := []) (pc' := 5) (L' := [.ref 1, .int q, .int k]) (st' := [.int q, .ref 2]) (σ' := (mj_KS N, I, mj_PP (2) d r)) 3 rfl trivial ?_
    refine R_ce (idx := 119) (mid := 8) (kind := 3) (N := N) (M' := mj_m_X1_hasPlant) (As := [.ref 2, .int q]) (rest := []) (I := I) (P := mj_PP (2) d r) (I' := I) (P' := mj_PP (2) d r) (v := some (.int (bI (sp_has (I 2 1) q)))) rfl rfl rfl mj_mc8 mj_dc8 rfl rfl rfl rfl rfl rfl (x_hasPlant l b base D z N 2 (by decide) q I (2) d r) ?_
    refine R_seg (φ := []) (pc' := 8) (L' := [.ref 1, .int q, .int k]) (st' := [.int (bI (sp_has (I 2 1) q))]) (σ' := (mj_KS N, I, mj_PP (2) d r)) 0 rfl trivial ?_
    refine R_br (q := (bI (sp_has (I 2 1) q) : Int32) = 0) (t := 11) (f := 17) (rest := []) rfl (fun h1 => ?_) (fun h1 => ?_)
    · skip
      replace h1 := bI_0.mp h1
      refine R_seg (φ := []) (pc' := 13) (L' := [.ref 1, .int q, .int k]) (st' := [.int (-1), .ref 1]) (σ' := (mj_KS N, I, mj_PP (2) d r)) 2 rfl trivial ?_
      refine R_ce (idx := 79) (mid := 90) (kind := 0) (N := N) (M' := mj_m_X5_refuse) (As := [.ref 1, .int (-1)]) (rest := []) (I := I) (P := mj_PP (2) d r) (I' := (s_X5_refuse (-1) I).2) (P' := mj_PP (2) d r) (v := some (.int ((s_X5_refuse (-1) I).1))) rfl rfl rfl mj_mc90 mj_dc90 rfl rfl rfl rfl rfl rfl (x_X5_refuse l b base D z N (-1) I (2) d r) ?_
      refine R_seg (φ := []) (pc' := 16) (L' := [.ref 1, .int q, .int k]) (st' := [.int ((s_X5_refuse (-1) I).1)]) (σ' := (mj_KS N, (s_X5_refuse (-1) I).2, mj_PP (2) d r)) 0 rfl trivial ?_
      exact R_ri rfl rfl (mj_leaf (by simp only [s_X5_as, h1, Bool.false_eq_true, ↓reduceIte, Nat.reduceAdd, Nat.reduceMul, mj_tn0, mj_tn1, mj_tn2, mj_tn3]) (by simp only [s_X5_as, h1, Bool.false_eq_true, ↓reduceIte, Nat.reduceAdd, Nat.reduceMul, mj_tn0, mj_tn1, mj_tn2, mj_tn3]))
    · skip
      replace h1 := bI_1 h1
      refine R_seg (φ := []) (pc' := 18) (L' := [.ref 1, .int q, .int k]) (st' := [.int k]) (σ' := (mj_KS N, I, mj_PP (2) d r)) 1 rfl trivial ?_
      refine R_br (q := (k : Int32) < 0) (t := 26) (f := 21) (rest := []) rfl (fun h2 => ?_) (fun h2 => ?_)
      · skip
        refine R_seg (φ := []) (pc' := 29) (L' := [.ref 1, .int q, .int k]) (st' := [.int (-2), .ref 1]) (σ' := (mj_KS N, I, mj_PP (2) d r)) 2 rfl trivial ?_
        refine R_ce (idx := 79) (mid := 90) (kind := 0) (N := N) (M' := mj_m_X5_refuse) (As := [.ref 1, .int (-2)]) (rest := []) (I := I) (P := mj_PP (2) d r) (I' := (s_X5_refuse (-2) I).2) (P' := mj_PP (2) d r) (v := some (.int ((s_X5_refuse (-2) I).1))) rfl rfl rfl mj_mc90 mj_dc90 rfl rfl rfl rfl rfl rfl (x_X5_refuse l b base D z N (-2) I (2) d r) ?_
        refine R_seg (φ := []) (pc' := 32) (L' := [.ref 1, .int q, .int k]) (st' := [.int ((s_X5_refuse (-2) I).1)]) (σ' := (mj_KS N, (s_X5_refuse (-2) I).2, mj_PP (2) d r)) 0 rfl trivial ?_
        exact R_ri rfl rfl (mj_leaf (by simp only [s_X5_as, h1, if_pos h2, Bool.false_eq_true, ↓reduceIte, Nat.reduceAdd, Nat.reduceMul, mj_tn0, mj_tn1, mj_tn2, mj_tn3]) (by simp only [s_X5_as, h1, if_pos h2, Bool.false_eq_true, ↓reduceIte, Nat.reduceAdd, Nat.reduceMul, mj_tn0, mj_tn1, mj_tn2, mj_tn3]))
      · skip
        refine R_seg (φ := []) (pc' := 23) (L' := [.ref 1, .int q, .int k]) (st' := [.int 3, .int k]) (σ' := (mj_KS N, I, mj_PP (2) d r)) 2 rfl trivial ?_
        refine R_br (q := (k : Int32) < 3) (t := 33) (f := 26) (rest := []) rfl (fun h3 => ?_) (fun h3 => ?_)
        · skip
          refine R_seg (φ := [mj_in q 3]) (pc' := 43) (L' := [.ref 1, .int q, .int k]) (st' := [.int k, .int (I 5 q)]) (σ' := (mj_KS N, I, mj_PP (2) d r)) 6 rfl ⟨mj_hasin h1 hp, trivial⟩ ?_
          refine R_br (q := (I 5 q : Int32) < k) (t := 46) (f := 52) (rest := []) rfl (fun h4 => ?_) (fun h4 => ?_)
          · skip
            refine R_seg (φ := []) (pc' := 48) (L' := [.ref 1, .int q, .int k]) (st' := [.int 2, .ref 1]) (σ' := (mj_KS N, I, mj_PP (2) d r)) 2 rfl trivial ?_
            refine R_ce (idx := 90) (mid := 91) (kind := 0) (N := N) (M' := mj_m_X5_comeTo) (As := [.ref 1, .int 2]) (rest := []) (I := I) (P := mj_PP (2) d r) (I' := (s_X5_comeTo 2 I).2) (P' := mj_PP (2) d r) (v := some (.int ((s_X5_comeTo 2 I).1))) rfl rfl rfl mj_mc91 mj_dc91 rfl rfl rfl rfl rfl rfl (x_X5_comeTo l b base D z N 2 I (2) d r) ?_
            refine R_seg (φ := []) (pc' := 51) (L' := [.ref 1, .int q, .int k]) (st' := [.int ((s_X5_comeTo 2 I).1)]) (σ' := (mj_KS N, (s_X5_comeTo 2 I).2, mj_PP (2) d r)) 0 rfl trivial ?_
            exact R_ri rfl rfl (mj_leaf (by simp only [s_X5_as, h1, if_neg h2, if_pos h3, if_pos h4, Bool.false_eq_true, ↓reduceIte, Nat.reduceAdd, Nat.reduceMul, mj_tn0, mj_tn1, mj_tn2, mj_tn3]) (by simp only [s_X5_as, h1, if_neg h2, if_pos h3, if_pos h4, Bool.false_eq_true, ↓reduceIte, Nat.reduceAdd, Nat.reduceMul, mj_tn0, mj_tn1, mj_tn2, mj_tn3]))
          · skip
            refine R_seg (φ := []) (pc' := 58) (L' := [.ref 1, .int q, .int k]) (st' := [.int 1]) (σ' := (mj_KS N, (mj_upI I 1 13 0), mj_PP (2) d r)) 4 rfl trivial ?_
            exact R_ri rfl rfl (mj_leaf (by simp only [s_X5_as, h1, if_neg h2, if_pos h3, if_neg h4, Bool.false_eq_true, ↓reduceIte, Nat.reduceAdd, Nat.reduceMul, mj_tn0, mj_tn1, mj_tn2, mj_tn3]) (by simp only [s_X5_as, h1, if_neg h2, if_pos h3, if_neg h4, Bool.false_eq_true, ↓reduceIte, Nat.reduceAdd, Nat.reduceMul, mj_tn0, mj_tn1, mj_tn2, mj_tn3]))
        · skip
          refine R_seg (φ := []) (pc' := 29) (L' := [.ref 1, .int q, .int k]) (st' := [.int (-2), .ref 1]) (σ' := (mj_KS N, I, mj_PP (2) d r)) 2 rfl trivial ?_
          refine R_ce (idx := 79) (mid := 90) (kind := 0) (N := N) (M' := mj_m_X5_refuse) (As := [.ref 1, .int (-2)]) (rest := []) (I := I) (P := mj_PP (2) d r) (I' := (s_X5_refuse (-2) I).2) (P' := mj_PP (2) d r) (v := some (.int ((s_X5_refuse (-2) I).1))) rfl rfl rfl mj_mc90 mj_dc90 rfl rfl rfl rfl rfl rfl (x_X5_refuse l b base D z N (-2) I (2) d r) ?_
          refine R_seg (φ := []) (pc' := 32) (L' := [.ref 1, .int q, .int k]) (st' := [.int ((s_X5_refuse (-2) I).1)]) (σ' := (mj_KS N, (s_X5_refuse (-2) I).2, mj_PP (2) d r)) 0 rfl trivial ?_
          exact R_ri rfl rfl (mj_leaf (by simp only [s_X5_as, h1, if_neg h2, if_neg h3, Bool.false_eq_true, ↓reduceIte, Nat.reduceAdd, Nat.reduceMul, mj_tn0, mj_tn1, mj_tn2, mj_tn3]) (by simp only [s_X5_as, h1, if_neg h2, if_neg h3, Bool.false_eq_true, ↓reduceIte, Nat.reduceAdd, Nat.reduceMul, mj_tn0, mj_tn1, mj_tn2, mj_tn3]))
  · skip
    refine R_seg (φ := []) (pc' := 5) (L' := [.ref 1, .int q, .int k]) (st' := [.int q, .ref 10]) (σ' := (mj_KS N, I, mj_PP (10) d r)) 3 rfl trivial ?_
    refine R_ce (idx := 119) (mid := 8) (kind := 3) (N := N) (M' := mj_m_X1_hasPlant) (As := [.ref 10, .int q]) (rest := []) (I := I) (P := mj_PP (10) d r) (I' := I) (P' := mj_PP (10) d r) (v := some (.int (bI (sp_has (I 10 1) q)))) rfl rfl rfl mj_mc8 mj_dc8 rfl rfl rfl rfl rfl rfl (x_hasPlant l b base D z N 10 (by decide) q I (10) d r) ?_
    refine R_seg (φ := []) (pc' := 8) (L' := [.ref 1, .int q, .int k]) (st' := [.int (bI (sp_has (I 10 1) q))]) (σ' := (mj_KS N, I, mj_PP (10) d r)) 0 rfl trivial ?_
    refine R_br (q := (bI (sp_has (I 10 1) q) : Int32) = 0) (t := 11) (f := 17) (rest := []) rfl (fun h1 => ?_) (fun h1 => ?_)
    · skip
      replace h1 := bI_0.mp h1
      refine R_seg (φ := []) (pc' := 13) (L' := [.ref 1, .int q, .int k]) (st' := [.int (-1), .ref 1]) (σ' := (mj_KS N, I, mj_PP (10) d r)) 2 rfl trivial ?_
      refine R_ce (idx := 79) (mid := 90) (kind := 0) (N := N) (M' := mj_m_X5_refuse) (As := [.ref 1, .int (-1)]) (rest := []) (I := I) (P := mj_PP (10) d r) (I' := (s_X5_refuse (-1) I).2) (P' := mj_PP (10) d r) (v := some (.int ((s_X5_refuse (-1) I).1))) rfl rfl rfl mj_mc90 mj_dc90 rfl rfl rfl rfl rfl rfl (x_X5_refuse l b base D z N (-1) I (10) d r) ?_
      refine R_seg (φ := []) (pc' := 16) (L' := [.ref 1, .int q, .int k]) (st' := [.int ((s_X5_refuse (-1) I).1)]) (σ' := (mj_KS N, (s_X5_refuse (-1) I).2, mj_PP (10) d r)) 0 rfl trivial ?_
      exact R_ri rfl rfl (mj_leaf (by simp only [s_X5_as, h1, Bool.false_eq_true, ↓reduceIte, Nat.reduceAdd, Nat.reduceMul, mj_tn0, mj_tn1, mj_tn2, mj_tn3]) (by simp only [s_X5_as, h1, Bool.false_eq_true, ↓reduceIte, Nat.reduceAdd, Nat.reduceMul, mj_tn0, mj_tn1, mj_tn2, mj_tn3]))
    · skip
      replace h1 := bI_1 h1
      refine R_seg (φ := []) (pc' := 18) (L' := [.ref 1, .int q, .int k]) (st' := [.int k]) (σ' := (mj_KS N, I, mj_PP (10) d r)) 1 rfl trivial ?_
      refine R_br (q := (k : Int32) < 0) (t := 26) (f := 21) (rest := []) rfl (fun h2 => ?_) (fun h2 => ?_)
      · skip
        refine R_seg (φ := []) (pc' := 29) (L' := [.ref 1, .int q, .int k]) (st' := [.int (-2), .ref 1]) (σ' := (mj_KS N, I, mj_PP (10) d r)) 2 rfl trivial ?_
        refine R_ce (idx := 79) (mid := 90) (kind := 0) (N := N) (M' := mj_m_X5_refuse) (As := [.ref 1, .int (-2)]) (rest := []) (I := I) (P := mj_PP (10) d r) (I' := (s_X5_refuse (-2) I).2) (P' := mj_PP (10) d r) (v := some (.int ((s_X5_refuse (-2) I).1))) rfl rfl rfl mj_mc90 mj_dc90 rfl rfl rfl rfl rfl rfl (x_X5_refuse l b base D z N (-2) I (10) d r) ?_
        refine R_seg (φ := []) (pc' := 32) (L' := [.ref 1, .int q, .int k]) (st' := [.int ((s_X5_refuse (-2) I).1)]) (σ' := (mj_KS N, (s_X5_refuse (-2) I).2, mj_PP (10) d r)) 0 rfl trivial ?_
        exact R_ri rfl rfl (mj_leaf (by simp only [s_X5_as, h1, if_pos h2, Bool.false_eq_true, ↓reduceIte, Nat.reduceAdd, Nat.reduceMul, mj_tn0, mj_tn1, mj_tn2, mj_tn3]) (by simp only [s_X5_as, h1, if_pos h2, Bool.false_eq_true, ↓reduceIte, Nat.reduceAdd, Nat.reduceMul, mj_tn0, mj_tn1, mj_tn2, mj_tn3]))
      · skip
        refine R_seg (φ := []) (pc' := 23) (L' := [.ref 1, .int q, .int k]) (st' := [.int 3, .int k]) (σ' := (mj_KS N, I, mj_PP (10) d r)) 2 rfl trivial ?_
        refine R_br (q := (k : Int32) < 3) (t := 33) (f := 26) (rest := []) rfl (fun h3 => ?_) (fun h3 => ?_)
        · skip
          refine R_seg (φ := [mj_in q 3]) (pc' := 43) (L' := [.ref 1, .int q, .int k]) (st' := [.int k, .int (I 13 q)]) (σ' := (mj_KS N, I, mj_PP (10) d r)) 6 rfl ⟨mj_hasin h1 hp, trivial⟩ ?_
          refine R_br (q := (I 13 q : Int32) < k) (t := 46) (f := 52) (rest := []) rfl (fun h4 => ?_) (fun h4 => ?_)
          · skip
            refine R_seg (φ := []) (pc' := 48) (L' := [.ref 1, .int q, .int k]) (st' := [.int 2, .ref 1]) (σ' := (mj_KS N, I, mj_PP (10) d r)) 2 rfl trivial ?_
            refine R_ce (idx := 90) (mid := 91) (kind := 0) (N := N) (M' := mj_m_X5_comeTo) (As := [.ref 1, .int 2]) (rest := []) (I := I) (P := mj_PP (10) d r) (I' := (s_X5_comeTo 2 I).2) (P' := mj_PP (10) d r) (v := some (.int ((s_X5_comeTo 2 I).1))) rfl rfl rfl mj_mc91 mj_dc91 rfl rfl rfl rfl rfl rfl (x_X5_comeTo l b base D z N 2 I (10) d r) ?_
            refine R_seg (φ := []) (pc' := 51) (L' := [.ref 1, .int q, .int k]) (st' := [.int ((s_X5_comeTo 2 I).1)]) (σ' := (mj_KS N, (s_X5_comeTo 2 I).2, mj_PP (10) d r)) 0 rfl trivial ?_
            exact R_ri rfl rfl (mj_leaf (by simp only [s_X5_as, h1, if_neg h2, if_pos h3, if_pos h4, Bool.false_eq_true, ↓reduceIte, Nat.reduceAdd, Nat.reduceMul, mj_tn0, mj_tn1, mj_tn2, mj_tn3]) (by simp only [s_X5_as, h1, if_neg h2, if_pos h3, if_pos h4, Bool.false_eq_true, ↓reduceIte, Nat.reduceAdd, Nat.reduceMul, mj_tn0, mj_tn1, mj_tn2, mj_tn3]))
          · skip
            refine R_seg (φ := []) (pc' := 58) (L' := [.ref 1, .int q, .int k]) (st' := [.int 1]) (σ' := (mj_KS N, (mj_upI I 1 13 0), mj_PP (10) d r)) 4 rfl trivial ?_
            exact R_ri rfl rfl (mj_leaf (by simp only [s_X5_as, h1, if_neg h2, if_pos h3, if_neg h4, Bool.false_eq_true, ↓reduceIte, Nat.reduceAdd, Nat.reduceMul, mj_tn0, mj_tn1, mj_tn2, mj_tn3]) (by simp only [s_X5_as, h1, if_neg h2, if_pos h3, if_neg h4, Bool.false_eq_true, ↓reduceIte, Nat.reduceAdd, Nat.reduceMul, mj_tn0, mj_tn1, mj_tn2, mj_tn3]))
        · skip
          refine R_seg (φ := []) (pc' := 29) (L' := [.ref 1, .int q, .int k]) (st' := [.int (-2), .ref 1]) (σ' := (mj_KS N, I, mj_PP (10) d r)) 2 rfl trivial ?_
          refine R_ce (idx := 79) (mid := 90) (kind := 0) (N := N) (M' := mj_m_X5_refuse) (As := [.ref 1, .int (-2)]) (rest := []) (I := I) (P := mj_PP (10) d r) (I' := (s_X5_refuse (-2) I).2) (P' := mj_PP (10) d r) (v := some (.int ((s_X5_refuse (-2) I).1))) rfl rfl rfl mj_mc90 mj_dc90 rfl rfl rfl rfl rfl rfl (x_X5_refuse l b base D z N (-2) I (10) d r) ?_
          refine R_seg (φ := []) (pc' := 32) (L' := [.ref 1, .int q, .int k]) (st' := [.int ((s_X5_refuse (-2) I).1)]) (σ' := (mj_KS N, (s_X5_refuse (-2) I).2, mj_PP (10) d r)) 0 rfl trivial ?_
          exact R_ri rfl rfl (mj_leaf (by simp only [s_X5_as, h1, if_neg h2, if_neg h3, Bool.false_eq_true, ↓reduceIte, Nat.reduceAdd, Nat.reduceMul, mj_tn0, mj_tn1, mj_tn2, mj_tn3]) (by simp only [s_X5_as, h1, if_neg h2, if_neg h3, Bool.false_eq_true, ↓reduceIte, Nat.reduceAdd, Nat.reduceMul, mj_tn0, mj_tn1, mj_tn2, mj_tn3]))
