/-! the class: small methods -/
def s_X5_isSheet (k : Int32) (I : mj_I) : Int32 := if (k : Int32) < 0 then 0 else (if (k : Int32) < 4 then 1 else 0)
set_option maxHeartbeats 8000000 in
theorem x_X5_isSheet (l : Launch) (b base : Nat) (D : va_G) (z : mj_K × (Int32 → Int32)) (N : Nat) (k : Int32) (I : mj_I) (c d r : Nat) : mj_Rn l b base D z mj_m_X5_isSheet 0 [.int k] [] (mj_KS N, I, mj_PP c d r) (mj_E N (some (.int (s_X5_isSheet k I))) I (mj_PP c d r)) := by
  refine R_seg (φ := []) (pc' := 1) (L' := [.int k]) (st' := [.int k]) (σ' := (mj_KS N, I, mj_PP c d r)) 1 rfl trivial ?_
  refine R_br (q := (k : Int32) < 0) (t := 13) (f := 4) (rest := []) rfl (fun h1 => ?_) (fun h1 => ?_)
  · skip
    refine R_seg (φ := []) (pc' := 14) (L' := [.int k]) (st' := [.int 0]) (σ' := (mj_KS N, I, mj_PP c d r)) 1 rfl trivial ?_
    exact R_rb rfl rfl (Or.inl rfl) (mj_leaf (by simp only [s_X5_isSheet, if_pos h1, Bool.false_eq_true, ↓reduceIte, Nat.reduceAdd, Nat.reduceMul, mj_tn0, mj_tn1, mj_tn2, mj_tn3]) (by simp only [s_X5_isSheet, if_pos h1, Bool.false_eq_true, ↓reduceIte, Nat.reduceAdd, Nat.reduceMul, mj_tn0, mj_tn1, mj_tn2, mj_tn3]))
  · skip
    refine R_seg (φ := []) (pc' := 6) (L' := [.int k]) (st' := [.int 4, .int k]) (σ' := (mj_KS N, I, mj_PP c d r)) 2 rfl trivial ?_
    refine R_br (q := (k : Int32) < 4) (t := 9) (f := 13) (rest := []) rfl (fun h2 => ?_) (fun h2 => ?_)
    · skip
      refine R_seg (φ := []) (pc' := 14) (L' := [.int k]) (st' := [.int 1]) (σ' := (mj_KS N, I, mj_PP c d r)) 2 rfl trivial ?_
      exact R_rb rfl rfl (Or.inr rfl) (mj_leaf (by simp only [s_X5_isSheet, if_neg h1, if_pos h2, Bool.false_eq_true, ↓reduceIte, Nat.reduceAdd, Nat.reduceMul, mj_tn0, mj_tn1, mj_tn2, mj_tn3]) (by simp only [s_X5_isSheet, if_neg h1, if_pos h2, Bool.false_eq_true, ↓reduceIte, Nat.reduceAdd, Nat.reduceMul, mj_tn0, mj_tn1, mj_tn2, mj_tn3]))
    · skip
      refine R_seg (φ := []) (pc' := 14) (L' := [.int k]) (st' := [.int 0]) (σ' := (mj_KS N, I, mj_PP c d r)) 1 rfl trivial ?_
      exact R_rb rfl rfl (Or.inl rfl) (mj_leaf (by simp only [s_X5_isSheet, if_neg h1, if_neg h2, Bool.false_eq_true, ↓reduceIte, Nat.reduceAdd, Nat.reduceMul, mj_tn0, mj_tn1, mj_tn2, mj_tn3]) (by simp only [s_X5_isSheet, if_neg h1, if_neg h2, Bool.false_eq_true, ↓reduceIte, Nat.reduceAdd, Nat.reduceMul, mj_tn0, mj_tn1, mj_tn2, mj_tn3]))
def s_X5_isLane (k : Int32) (I : mj_I) : Int32 := if (k : Int32) < 0 then 0 else (if (k : Int32) < 3 then 1 else 0)
set_option maxHeartbeats 8000000 in
theorem x_X5_isLane (l : Launch) (b base : Nat) (D : va_G) (z : mj_K × (Int32 → Int32)) (N : Nat) (k : Int32) (I : mj_I) (c d r : Nat) : mj_Rn l b base D z mj_m_X5_isLane 0 [.int k] [] (mj_KS N, I, mj_PP c d r) (mj_E N (some (.int (s_X5_isLane k I))) I (mj_PP c d r)) := by
  refine R_seg (φ := []) (pc' := 1) (L' := [.int k]) (st' := [.int k]) (σ' := (mj_KS N, I, mj_PP c d r)) 1 rfl trivial ?_
  refine R_br (q := (k : Int32) < 0) (t := 13) (f := 4) (rest := []) rfl (fun h1 => ?_) (fun h1 => ?_)
  · skip
    refine R_seg (φ := []) (pc' := 14) (L' := [.int k]) (st' := [.int 0]) (σ' := (mj_KS N, I, mj_PP c d r)) 1 rfl trivial ?_
    exact R_rb rfl rfl (Or.inl rfl) (mj_leaf (by simp only [s_X5_isLane, if_pos h1, Bool.false_eq_true, ↓reduceIte, Nat.reduceAdd, Nat.reduceMul, mj_tn0, mj_tn1, mj_tn2, mj_tn3]) (by simp only [s_X5_isLane, if_pos h1, Bool.false_eq_true, ↓reduceIte, Nat.reduceAdd, Nat.reduceMul, mj_tn0, mj_tn1, mj_tn2, mj_tn3]))
  · skip
    refine R_seg (φ := []) (pc' := 6) (L' := [.int k]) (st' := [.int 3, .int k]) (σ' := (mj_KS N, I, mj_PP c d r)) 2 rfl trivial ?_
    refine R_br (q := (k : Int32) < 3) (t := 9) (f := 13) (rest := []) rfl (fun h2 => ?_) (fun h2 => ?_)
    · skip
      refine R_seg (φ := []) (pc' := 14) (L' := [.int k]) (st' := [.int 1]) (σ' := (mj_KS N, I, mj_PP c d r)) 2 rfl trivial ?_
      exact R_rb rfl rfl (Or.inr rfl) (mj_leaf (by simp only [s_X5_isLane, if_neg h1, if_pos h2, Bool.false_eq_true, ↓reduceIte, Nat.reduceAdd, Nat.reduceMul, mj_tn0, mj_tn1, mj_tn2, mj_tn3]) (by simp only [s_X5_isLane, if_neg h1, if_pos h2, Bool.false_eq_true, ↓reduceIte, Nat.reduceAdd, Nat.reduceMul, mj_tn0, mj_tn1, mj_tn2, mj_tn3]))
    · skip
      refine R_seg (φ := []) (pc' := 14) (L' := [.int k]) (st' := [.int 0]) (σ' := (mj_KS N, I, mj_PP c d r)) 1 rfl trivial ?_
      exact R_rb rfl rfl (Or.inl rfl) (mj_leaf (by simp only [s_X5_isLane, if_neg h1, if_neg h2, Bool.false_eq_true, ↓reduceIte, Nat.reduceAdd, Nat.reduceMul, mj_tn0, mj_tn1, mj_tn2, mj_tn3]) (by simp only [s_X5_isLane, if_neg h1, if_neg h2, Bool.false_eq_true, ↓reduceIte, Nat.reduceAdd, Nat.reduceMul, mj_tn0, mj_tn1, mj_tn2, mj_tn3]))
def s_X5_isRouteLength (k : Int32) (I : mj_I) : Int32 := if (k : Int32) < 0 then 0 else (if (24 : Int32) < k then 0 else 1)
set_option maxHeartbeats 8000000 in
theorem x_X5_isRouteLength (l : Launch) (b base : Nat) (D : va_G) (z : mj_K × (Int32 → Int32)) (N : Nat) (k : Int32) (I : mj_I) (c d r : Nat) : mj_Rn l b base D z mj_m_X5_isRouteLength 0 [.int k] [] (mj_KS N, I, mj_PP c d r) (mj_E N (some (.int (s_X5_isRouteLength k I))) I (mj_PP c d r)) := by
  refine R_seg (φ := []) (pc' := 1) (L' := [.int k]) (st' := [.int k]) (σ' := (mj_KS N, I, mj_PP c d r)) 1 rfl trivial ?_
  refine R_br (q := (k : Int32) < 0) (t := 14) (f := 4) (rest := []) rfl (fun h1 => ?_) (fun h1 => ?_)
  · skip
    refine R_seg (φ := []) (pc' := 15) (L' := [.int k]) (st' := [.int 0]) (σ' := (mj_KS N, I, mj_PP c d r)) 1 rfl trivial ?_
    exact R_rb rfl rfl (Or.inl rfl) (mj_leaf (by simp only [s_X5_isRouteLength, if_pos h1, Bool.false_eq_true, ↓reduceIte, Nat.reduceAdd, Nat.reduceMul, mj_tn0, mj_tn1, mj_tn2, mj_tn3]) (by simp only [s_X5_isRouteLength, if_pos h1, Bool.false_eq_true, ↓reduceIte, Nat.reduceAdd, Nat.reduceMul, mj_tn0, mj_tn1, mj_tn2, mj_tn3]))
  · skip
    refine R_seg (φ := []) (pc' := 7) (L' := [.int k]) (st' := [.int 24, .int k]) (σ' := (mj_KS N, I, mj_PP c d r)) 2 rfl trivial ?_
    refine R_br (q := (24 : Int32) < k) (t := 14) (f := 10) (rest := []) rfl (fun h2 => ?_) (fun h2 => ?_)
    · skip
      refine R_seg (φ := []) (pc' := 15) (L' := [.int k]) (st' := [.int 0]) (σ' := (mj_KS N, I, mj_PP c d r)) 1 rfl trivial ?_
      exact R_rb rfl rfl (Or.inl rfl) (mj_leaf (by simp only [s_X5_isRouteLength, if_neg h1, if_pos h2, Bool.false_eq_true, ↓reduceIte, Nat.reduceAdd, Nat.reduceMul, mj_tn0, mj_tn1, mj_tn2, mj_tn3]) (by simp only [s_X5_isRouteLength, if_neg h1, if_pos h2, Bool.false_eq_true, ↓reduceIte, Nat.reduceAdd, Nat.reduceMul, mj_tn0, mj_tn1, mj_tn2, mj_tn3]))
    · skip
      refine R_seg (φ := []) (pc' := 15) (L' := [.int k]) (st' := [.int 1]) (σ' := (mj_KS N, I, mj_PP c d r)) 2 rfl trivial ?_
      exact R_rb rfl rfl (Or.inr rfl) (mj_leaf (by simp only [s_X5_isRouteLength, if_neg h1, if_neg h2, Bool.false_eq_true, ↓reduceIte, Nat.reduceAdd, Nat.reduceMul, mj_tn0, mj_tn1, mj_tn2, mj_tn3]) (by simp only [s_X5_isRouteLength, if_neg h1, if_neg h2, Bool.false_eq_true, ↓reduceIte, Nat.reduceAdd, Nat.reduceMul, mj_tn0, mj_tn1, mj_tn2, mj_tn3]))
def s_X5_isRouteQuestion (k : Int32) (I : mj_I) : Int32 := if (k : Int32) < 0 then (if (k : Int32) < 10 then (if (k : Int32) < 20 then 0 else (if (22 : Int32) < k then 0 else 1)) else (if (12 : Int32) < k then (if (k : Int32) < 20 then 0 else (if (22 : Int32) < k then 0 else 1)) else 1)) else (if (2 : Int32) < k then (if (k : Int32) < 10 then (if (k : Int32) < 20 then 0 else (if (22 : Int32) < k then 0 else 1)) else (if (12 : Int32) < k then (if (k : Int32) < 20 then 0 else (if (22 : Int32) < k then 0 else 1)) else 1)) else 1)
set_option maxHeartbeats 8000000 in
theorem x_X5_isRouteQuestion (l : Launch) (b base : Nat) (D : va_G) (z : mj_K × (Int32 → Int32)) (N : Nat) (k : Int32) (I : mj_I) (c d r : Nat) : mj_Rn l b base D z mj_m_X5_isRouteQuestion 0 [.int k] [] (mj_KS N, I, mj_PP c d r) (mj_E N (some (.int (s_X5_isRouteQuestion k I))) I (mj_PP c d r)) := by
  refine R_seg (φ := []) (pc' := 1) (L' := [.int k]) (st' := [.int k]) (σ' := (mj_KS N, I, mj_PP c d r)) 1 rfl trivial ?_
  refine R_br (q := (k : Int32) < 0) (t := 9) (f := 4) (rest := []) rfl (fun h1 => ?_) (fun h1 => ?_)
  · skip
    refine R_seg (φ := []) (pc' := 12) (L' := [.int k]) (st' := [.int 10, .int k]) (σ' := (mj_KS N, I, mj_PP c d r)) 2 rfl trivial ?_
    refine R_br (q := (k : Int32) < 10) (t := 21) (f := 15) (rest := []) rfl (fun h2 => ?_) (fun h2 => ?_)
    · skip
      refine R_seg (φ := []) (pc' := 24) (L' := [.int k]) (st' := [.int 20, .int k]) (σ' := (mj_KS N, I, mj_PP c d r)) 2 rfl trivial ?_
      refine R_br (q := (k : Int32) < 20) (t := 37) (f := 27) (rest := []) rfl (fun h3 => ?_) (fun h3 => ?_)
      · skip
        refine R_seg (φ := []) (pc' := 38) (L' := [.int k]) (st' := [.int 0]) (σ' := (mj_KS N, I, mj_PP c d r)) 1 rfl trivial ?_
        exact R_rb rfl rfl (Or.inl rfl) (mj_leaf (by simp only [s_X5_isRouteQuestion, if_pos h1, if_pos h2, if_pos h3, Bool.false_eq_true, ↓reduceIte, Nat.reduceAdd, Nat.reduceMul, mj_tn0, mj_tn1, mj_tn2, mj_tn3]) (by simp only [s_X5_isRouteQuestion, if_pos h1, if_pos h2, if_pos h3, Bool.false_eq_true, ↓reduceIte, Nat.reduceAdd, Nat.reduceMul, mj_tn0, mj_tn1, mj_tn2, mj_tn3]))
      · skip
        refine R_seg (φ := []) (pc' := 30) (L' := [.int k]) (st' := [.int 22, .int k]) (σ' := (mj_KS N, I, mj_PP c d r)) 2 rfl trivial ?_
        refine R_br (q := (22 : Int32) < k) (t := 37) (f := 33) (rest := []) rfl (fun h4 => ?_) (fun h4 => ?_)
        · skip
          refine R_seg (φ := []) (pc' := 38) (L' := [.int k]) (st' := [.int 0]) (σ' := (mj_KS N, I, mj_PP c d r)) 1 rfl trivial ?_
          exact R_rb rfl rfl (Or.inl rfl) (mj_leaf (by simp only [s_X5_isRouteQuestion, if_pos h1, if_pos h2, if_neg h3, if_pos h4, Bool.false_eq_true, ↓reduceIte, Nat.reduceAdd, Nat.reduceMul, mj_tn0, mj_tn1, mj_tn2, mj_tn3]) (by simp only [s_X5_isRouteQuestion, if_pos h1, if_pos h2, if_neg h3, if_pos h4, Bool.false_eq_true, ↓reduceIte, Nat.reduceAdd, Nat.reduceMul, mj_tn0, mj_tn1, mj_tn2, mj_tn3]))
        · skip
          refine R_seg (φ := []) (pc' := 38) (L' := [.int k]) (st' := [.int 1]) (σ' := (mj_KS N, I, mj_PP c d r)) 2 rfl trivial ?_
          exact R_rb rfl rfl (Or.inr rfl) (mj_leaf (by simp only [s_X5_isRouteQuestion, if_pos h1, if_pos h2, if_neg h3, if_neg h4, Bool.false_eq_true, ↓reduceIte, Nat.reduceAdd, Nat.reduceMul, mj_tn0, mj_tn1, mj_tn2, mj_tn3]) (by simp only [s_X5_isRouteQuestion, if_pos h1, if_pos h2, if_neg h3, if_neg h4, Bool.false_eq_true, ↓reduceIte, Nat.reduceAdd, Nat.reduceMul, mj_tn0, mj_tn1, mj_tn2, mj_tn3]))
    · skip
      refine R_seg (φ := []) (pc' := 18) (L' := [.int k]) (st' := [.int 12, .int k]) (σ' := (mj_KS N, I, mj_PP c d r)) 2 rfl trivial ?_
      refine R_br (q := (12 : Int32) < k) (t := 21) (f := 33) (rest := []) rfl (fun h5 => ?_) (fun h5 => ?_)
      · skip
        refine R_seg (φ := []) (pc' := 24) (L' := [.int k]) (st' := [.int 20, .int k]) (σ' := (mj_KS N, I, mj_PP c d r)) 2 rfl trivial ?_
        refine R_br (q := (k : Int32) < 20) (t := 37) (f := 27) (rest := []) rfl (fun h6 => ?_) (fun h6 => ?_)
        · skip
          refine R_seg (φ := []) (pc' := 38) (L' := [.int k]) (st' := [.int 0]) (σ' := (mj_KS N, I, mj_PP c d r)) 1 rfl trivial ?_
          exact R_rb rfl rfl (Or.inl rfl) (mj_leaf (by simp only [s_X5_isRouteQuestion, if_pos h1, if_neg h2, if_pos h5, if_pos h6, Bool.false_eq_true, ↓reduceIte, Nat.reduceAdd, Nat.reduceMul, mj_tn0, mj_tn1, mj_tn2, mj_tn3]) (by simp only [s_X5_isRouteQuestion, if_pos h1, if_neg h2, if_pos h5, if_pos h6, Bool.false_eq_true, ↓reduceIte, Nat.reduceAdd, Nat.reduceMul, mj_tn0, mj_tn1, mj_tn2, mj_tn3]))
        · skip
          refine R_seg (φ := []) (pc' := 30) (L' := [.int k]) (st' := [.int 22, .int k]) (σ' := (mj_KS N, I, mj_PP c d r)) 2 rfl trivial ?_
          refine R_br (q := (22 : Int32) < k) (t := 37) (f := 33) (rest := []) rfl (fun h7 => ?_) (fun h7 => ?_)
          · skip
            refine R_seg (φ := []) (pc' := 38) (L' := [.int k]) (st' := [.int 0]) (σ' := (mj_KS N, I, mj_PP c d r)) 1 rfl trivial ?_
            exact R_rb rfl rfl (Or.inl rfl) (mj_leaf (by simp only [s_X5_isRouteQuestion, if_pos h1, if_neg h2, if_pos h5, if_neg h6, if_pos h7, Bool.false_eq_true, ↓reduceIte, Nat.reduceAdd, Nat.reduceMul, mj_tn0, mj_tn1, mj_tn2, mj_tn3]) (by simp only [s_X5_isRouteQuestion, if_pos h1, if_neg h2, if_pos h5, if_neg h6, if_pos h7, Bool.false_eq_true, ↓reduceIte, Nat.reduceAdd, Nat.reduceMul, mj_tn0, mj_tn1, mj_tn2, mj_tn3]))
          · skip
            refine R_seg (φ := []) (pc' := 38) (L' := [.int k]) (st' := [.int 1]) (σ' := (mj_KS N, I, mj_PP c d r)) 2 rfl trivial ?_
            exact R_rb rfl rfl (Or.inr rfl) (mj_leaf (by simp only [s_X5_isRouteQuestion, if_pos h1, if_neg h2, if_pos h5, if_neg h6, if_neg h7, Bool.false_eq_true, ↓reduceIte, Nat.reduceAdd, Nat.reduceMul, mj_tn0, mj_tn1, mj_tn2, mj_tn3]) (by simp only [s_X5_isRouteQuestion, if_pos h1, if_neg h2, if_pos h5, if_neg h6, if_neg h7, Bool.false_eq_true, ↓reduceIte, Nat.reduceAdd, Nat.reduceMul, mj_tn0, mj_tn1, mj_tn2, mj_tn3]))
      · skip
        refine R_seg (φ := []) (pc' := 38) (L' := [.int k]) (st' := [.int 1]) (σ' := (mj_KS N, I, mj_PP c d r)) 2 rfl trivial ?_
        exact R_rb rfl rfl (Or.inr rfl) (mj_leaf (by simp only [s_X5_isRouteQuestion, if_pos h1, if_neg h2, if_neg h5, Bool.false_eq_true, ↓reduceIte, Nat.reduceAdd, Nat.reduceMul, mj_tn0, mj_tn1, mj_tn2, mj_tn3]) (by simp only [s_X5_isRouteQuestion, if_pos h1, if_neg h2, if_neg h5, Bool.false_eq_true, ↓reduceIte, Nat.reduceAdd, Nat.reduceMul, mj_tn0, mj_tn1, mj_tn2, mj_tn3]))
  · skip
    refine R_seg (φ := []) (pc' := 6) (L' := [.int k]) (st' := [.int 2, .int k]) (σ' := (mj_KS N, I, mj_PP c d r)) 2 rfl trivial ?_
    refine R_br (q := (2 : Int32) < k) (t := 9) (f := 33) (rest := []) rfl (fun h8 => ?_) (fun h8 => ?_)
    · skip
      refine R_seg (φ := []) (pc' := 12) (L' := [.int k]) (st' := [.int 10, .int k]) (σ' := (mj_KS N, I, mj_PP c d r)) 2 rfl trivial ?_
      refine R_br (q := (k : Int32) < 10) (t := 21) (f := 15) (rest := []) rfl (fun h9 => ?_) (fun h9 => ?_)
      · skip
        refine R_seg (φ := []) (pc' := 24) (L' := [.int k]) (st' := [.int 20, .int k]) (σ' := (mj_KS N, I, mj_PP c d r)) 2 rfl trivial ?_
        refine R_br (q := (k : Int32) < 20) (t := 37) (f := 27) (rest := []) rfl (fun h10 => ?_) (fun h10 => ?_)
        · skip
          refine R_seg (φ := []) (pc' := 38) (L' := [.int k]) (st' := [.int 0]) (σ' := (mj_KS N, I, mj_PP c d r)) 1 rfl trivial ?_
          exact R_rb rfl rfl (Or.inl rfl) (mj_leaf (by simp only [s_X5_isRouteQuestion, if_neg h1, if_pos h8, if_pos h9, if_pos h10, Bool.false_eq_true, ↓reduceIte, Nat.reduceAdd, Nat.reduceMul, mj_tn0, mj_tn1, mj_tn2, mj_tn3]) (by simp only [s_X5_isRouteQuestion, if_neg h1, if_pos h8, if_pos h9, if_pos h10, Bool.false_eq_true, ↓reduceIte, Nat.reduceAdd, Nat.reduceMul, mj_tn0, mj_tn1, mj_tn2, mj_tn3]))
        · skip
          refine R_seg (φ := []) (pc' := 30) (L' := [.int k]) (st' := [.int 22, .int k]) (σ' := (mj_KS N, I, mj_PP c d r)) 2 rfl trivial ?_
          refine R_br (q := (22 : Int32) < k) (t := 37) (f := 33) (rest := []) rfl (fun h11 => ?_) (fun h11 => ?_)
          · skip
            refine R_seg (φ := []) (pc' := 38) (L' := [.int k]) (st' := [.int 0]) (σ' := (mj_KS N, I, mj_PP c d r)) 1 rfl trivial ?_
            exact R_rb rfl rfl (Or.inl rfl) (mj_leaf (by simp only [s_X5_isRouteQuestion, if_neg h1, if_pos h8, if_pos h9, if_neg h10, if_pos h11, Bool.false_eq_true, ↓reduceIte, Nat.reduceAdd, Nat.reduceMul, mj_tn0, mj_tn1, mj_tn2, mj_tn3]) (by simp only [s_X5_isRouteQuestion, if_neg h1, if_pos h8, if_pos h9, if_neg h10, if_pos h11, Bool.false_eq_true, ↓reduceIte, Nat.reduceAdd, Nat.reduceMul, mj_tn0, mj_tn1, mj_tn2, mj_tn3]))
          · skip
            refine R_seg (φ := []) (pc' := 38) (L' := [.int k]) (st' := [.int 1]) (σ' := (mj_KS N, I, mj_PP c d r)) 2 rfl trivial ?_
            exact R_rb rfl rfl (Or.inr rfl) (mj_leaf (by simp only [s_X5_isRouteQuestion, if_neg h1, if_pos h8, if_pos h9, if_neg h10, if_neg h11, Bool.false_eq_true, ↓reduceIte, Nat.reduceAdd, Nat.reduceMul, mj_tn0, mj_tn1, mj_tn2, mj_tn3]) (by simp only [s_X5_isRouteQuestion, if_neg h1, if_pos h8, if_pos h9, if_neg h10, if_neg h11, Bool.false_eq_true, ↓reduceIte, Nat.reduceAdd, Nat.reduceMul, mj_tn0, mj_tn1, mj_tn2, mj_tn3]))
      · skip
        refine R_seg (φ := []) (pc' := 18) (L' := [.int k]) (st' := [.int 12, .int k]) (σ' := (mj_KS N, I, mj_PP c d r)) 2 rfl trivial ?_
        refine R_br (q := (12 : Int32) < k) (t := 21) (f := 33) (rest := []) rfl (fun h12 => ?_) (fun h12 => ?_)
        · skip
          refine R_seg (φ := []) (pc' := 24) (L' := [.int k]) (st' := [.int 20, .int k]) (σ' := (mj_KS N, I, mj_PP c d r)) 2 rfl trivial ?_
          refine R_br (q := (k : Int32) < 20) (t := 37) (f := 27) (rest := []) rfl (fun h13 => ?_) (fun h13 => ?_)
          · skip
            refine R_seg (φ := []) (pc' := 38) (L' := [.int k]) (st' := [.int 0]) (σ' := (mj_KS N, I, mj_PP c d r)) 1 rfl trivial ?_
            exact R_rb rfl rfl (Or.inl rfl) (mj_leaf (by simp only [s_X5_isRouteQuestion, if_neg h1, if_pos h8, if_neg h9, if_pos h12, if_pos h13, Bool.false_eq_true, ↓reduceIte, Nat.reduceAdd, Nat.reduceMul, mj_tn0, mj_tn1, mj_tn2, mj_tn3]) (by simp only [s_X5_isRouteQuestion, if_neg h1, if_pos h8, if_neg h9, if_pos h12, if_pos h13, Bool.false_eq_true, ↓reduceIte, Nat.reduceAdd, Nat.reduceMul, mj_tn0, mj_tn1, mj_tn2, mj_tn3]))
          · skip
            refine R_seg (φ := []) (pc' := 30) (L' := [.int k]) (st' := [.int 22, .int k]) (σ' := (mj_KS N, I, mj_PP c d r)) 2 rfl trivial ?_
            refine R_br (q := (22 : Int32) < k) (t := 37) (f := 33) (rest := []) rfl (fun h14 => ?_) (fun h14 => ?_)
            · skip
              refine R_seg (φ := []) (pc' := 38) (L' := [.int k]) (st' := [.int 0]) (σ' := (mj_KS N, I, mj_PP c d r)) 1 rfl trivial ?_
              exact R_rb rfl rfl (Or.inl rfl) (mj_leaf (by simp only [s_X5_isRouteQuestion, if_neg h1, if_pos h8, if_neg h9, if_pos h12, if_neg h13, if_pos h14, Bool.false_eq_true, ↓reduceIte, Nat.reduceAdd, Nat.reduceMul, mj_tn0, mj_tn1, mj_tn2, mj_tn3]) (by simp only [s_X5_isRouteQuestion, if_neg h1, if_pos h8, if_neg h9, if_pos h12, if_neg h13, if_pos h14, Bool.false_eq_true, ↓reduceIte, Nat.reduceAdd, Nat.reduceMul, mj_tn0, mj_tn1, mj_tn2, mj_tn3]))
            · skip
              refine R_seg (φ := []) (pc' := 38) (L' := [.int k]) (st' := [.int 1]) (σ' := (mj_KS N, I, mj_PP c d r)) 2 rfl trivial ?_
              exact R_rb rfl rfl (Or.inr rfl) (mj_leaf (by simp only [s_X5_isRouteQuestion, if_neg h1, if_pos h8, if_neg h9, if_pos h12, if_neg h13, if_neg h14, Bool.false_eq_true, ↓reduceIte, Nat.reduceAdd, Nat.reduceMul, mj_tn0, mj_tn1, mj_tn2, mj_tn3]) (by simp only [s_X5_isRouteQuestion, if_neg h1, if_pos h8, if_neg h9, if_pos h12, if_neg h13, if_neg h14, Bool.false_eq_true, ↓reduceIte, Nat.reduceAdd, Nat.reduceMul, mj_tn0, mj_tn1, mj_tn2, mj_tn3]))
        · skip
          refine R_seg (φ := []) (pc' := 38) (L' := [.int k]) (st' := [.int 1]) (σ' := (mj_KS N, I, mj_PP c d r)) 2 rfl trivial ?_
          exact R_rb rfl rfl (Or.inr rfl) (mj_leaf (by simp only [s_X5_isRouteQuestion, if_neg h1, if_pos h8, if_neg h9, if_neg h12, Bool.false_eq_true, ↓reduceIte, Nat.reduceAdd, Nat.reduceMul, mj_tn0, mj_tn1, mj_tn2, mj_tn3]) (by simp only [s_X5_isRouteQuestion, if_neg h1, if_pos h8, if_neg h9, if_neg h12, Bool.false_eq_true, ↓reduceIte, Nat.reduceAdd, Nat.reduceMul, mj_tn0, mj_tn1, mj_tn2, mj_tn3]))
    · skip
      refine R_seg (φ := []) (pc' := 38) (L' := [.int k]) (st' := [.int 1]) (σ' := (mj_KS N, I, mj_PP c d r)) 2 rfl trivial ?_
      exact R_rb rfl rfl (Or.inr rfl) (mj_leaf (by simp only [s_X5_isRouteQuestion, if_neg h1, if_neg h8, Bool.false_eq_true, ↓reduceIte, Nat.reduceAdd, Nat.reduceMul, mj_tn0, mj_tn1, mj_tn2, mj_tn3]) (by simp only [s_X5_isRouteQuestion, if_neg h1, if_neg h8, Bool.false_eq_true, ↓reduceIte, Nat.reduceAdd, Nat.reduceMul, mj_tn0, mj_tn1, mj_tn2, mj_tn3]))
def s_X5_refuse (v : Int32) (I : mj_I) : Int32 × mj_I := (v, (mj_upI I 1 13 0))
set_option maxHeartbeats 8000000 in
theorem x_X5_refuse (l : Launch) (b base : Nat) (D : va_G) (z : mj_K × (Int32 → Int32)) (N : Nat) (v : Int32) (I : mj_I) (c d r : Nat) : mj_Rn l b base D z mj_m_X5_refuse 0 [.ref 1, .int v] [] (mj_KS N, I, mj_PP c d r) (mj_E N (some (.int (s_X5_refuse v I).1)) (s_X5_refuse v I).2 (mj_PP c d r)) := by
  refine R_seg (φ := []) (pc' := 6) (L' := [.ref 1, .int v]) (st' := [.int v]) (σ' := (mj_KS N, (mj_upI I 1 13 0), mj_PP c d r)) 4 rfl trivial ?_
  exact R_ri rfl rfl (mj_leaf (by simp only [s_X5_refuse, Bool.false_eq_true, ↓reduceIte, Nat.reduceAdd, Nat.reduceMul, mj_tn0, mj_tn1, mj_tn2, mj_tn3]) (by simp only [s_X5_refuse, Bool.false_eq_true, ↓reduceIte, Nat.reduceAdd, Nat.reduceMul, mj_tn0, mj_tn1, mj_tn2, mj_tn3]))
def s_X5_comeTo (v : Int32) (I : mj_I) : Int32 × mj_I := ((-10) - v, (mj_upI I 1 13 v))
set_option maxHeartbeats 8000000 in
theorem x_X5_comeTo (l : Launch) (b base : Nat) (D : va_G) (z : mj_K × (Int32 → Int32)) (N : Nat) (v : Int32) (I : mj_I) (c d r : Nat) : mj_Rn l b base D z mj_m_X5_comeTo 0 [.ref 1, .int v] [] (mj_KS N, I, mj_PP c d r) (mj_E N (some (.int (s_X5_comeTo v I).1)) (s_X5_comeTo v I).2 (mj_PP c d r)) := by
  refine R_seg (φ := []) (pc' := 9) (L' := [.ref 1, .int v]) (st' := [.int ((-10) - v)]) (σ' := (mj_KS N, (mj_upI I 1 13 v), mj_PP c d r)) 6 rfl trivial ?_
  exact R_ri rfl rfl (mj_leaf (by simp only [s_X5_comeTo, Bool.false_eq_true, ↓reduceIte, Nat.reduceAdd, Nat.reduceMul, mj_tn0, mj_tn1, mj_tn2, mj_tn3]) (by simp only [s_X5_comeTo, Bool.false_eq_true, ↓reduceIte, Nat.reduceAdd, Nat.reduceMul, mj_tn0, mj_tn1, mj_tn2, mj_tn3]))
def s_X5_leave (v : Int32) (I : mj_I) : mj_I := (mj_upI I 1 12 ((31 * (I 1 12)) + v))
set_option maxHeartbeats 8000000 in
theorem x_X5_leave (l : Launch) (b base : Nat) (D : va_G) (z : mj_K × (Int32 → Int32)) (N : Nat) (v : Int32) (I : mj_I) (c d r : Nat) : mj_Rn l b base D z mj_m_X5_leave 0 [.ref 1, .int v] [] (mj_KS N, I, mj_PP c d r) (mj_E N none (s_X5_leave v I) (mj_PP c d r)) := by
  refine R_seg (φ := []) (pc' := 13) (L' := [.ref 1, .int v]) (st' := []) (σ' := (mj_KS N, (mj_upI I 1 12 ((31 * (I 1 12)) + v)), mj_PP c d r)) 8 rfl trivial ?_
  exact R_rv rfl rfl (mj_leaf (by simp only [s_X5_leave, Bool.false_eq_true, ↓reduceIte, Nat.reduceAdd, Nat.reduceMul, mj_tn0, mj_tn1, mj_tn2, mj_tn3]) (by simp only [s_X5_leave, Bool.false_eq_true, ↓reduceIte, Nat.reduceAdd, Nat.reduceMul, mj_tn0, mj_tn1, mj_tn2, mj_tn3]))
def s_X5_labelLent (q : Int32) (I : mj_I) : Int32 × mj_I := (q, (s_X5_leave 4 I))
set_option maxHeartbeats 8000000 in
theorem x_X5_labelLent (l : Launch) (b base : Nat) (D : va_G) (z : mj_K × (Int32 → Int32)) (N : Nat) (q : Int32) (I : mj_I) (c d r : Nat) : mj_Rn l b base D z mj_m_X5_labelLent 0 [.ref 1, .int q] [] (mj_KS N, I, mj_PP c d r) (mj_E N (some (.int (s_X5_labelLent q I).1)) (s_X5_labelLent q I).2 (mj_PP c d r)) := by
  refine R_seg (φ := []) (pc' := 2) (L' := [.ref 1, .int q]) (st' := [.int 4, .ref 1]) (σ' := (mj_KS N, I, mj_PP c d r)) 2 rfl trivial ?_
  refine R_ce (idx := 276) (mid := 87) (kind := 0) (N := N) (M' := mj_m_X5_leave) (As := [.ref 1, .int 4]) (rest := []) (I := I) (P := mj_PP c d r) (I' := (s_X5_leave 4 I)) (P' := mj_PP c d r) (v := none) rfl rfl rfl mj_mc87 mj_dc87 rfl rfl rfl rfl rfl rfl (x_X5_leave l b base D z N 4 I c d r) ?_
  refine R_seg (φ := []) (pc' := 6) (L' := [.ref 1, .int q]) (st' := [.int q]) (σ' := (mj_KS N, (s_X5_leave 4 I), mj_PP c d r)) 1 rfl trivial ?_
  exact R_ri rfl rfl (mj_leaf (by simp only [s_X5_labelLent, Bool.false_eq_true, ↓reduceIte, Nat.reduceAdd, Nat.reduceMul, mj_tn0, mj_tn1, mj_tn2, mj_tn3]) (by simp only [s_X5_labelLent, Bool.false_eq_true, ↓reduceIte, Nat.reduceAdd, Nat.reduceMul, mj_tn0, mj_tn1, mj_tn2, mj_tn3]))
def s_X5_labelWeed (I : mj_I) : Int32 × mj_I := (30, (s_X5_leave 5 I))
set_option maxHeartbeats 8000000 in
theorem x_X5_labelWeed (l : Launch) (b base : Nat) (D : va_G) (z : mj_K × (Int32 → Int32)) (N : Nat) (I : mj_I) (c d r : Nat) : mj_Rn l b base D z mj_m_X5_labelWeed 0 [.ref 1] [] (mj_KS N, I, mj_PP c d r) (mj_E N (some (.int (s_X5_labelWeed  I).1)) (s_X5_labelWeed  I).2 (mj_PP c d r)) := by
  refine R_seg (φ := []) (pc' := 2) (L' := [.ref 1]) (st' := [.int 5, .ref 1]) (σ' := (mj_KS N, I, mj_PP c d r)) 2 rfl trivial ?_
  refine R_ce (idx := 276) (mid := 87) (kind := 0) (N := N) (M' := mj_m_X5_leave) (As := [.ref 1, .int 5]) (rest := []) (I := I) (P := mj_PP c d r) (I' := (s_X5_leave 5 I)) (P' := mj_PP c d r) (v := none) rfl rfl rfl mj_mc87 mj_dc87 rfl rfl rfl rfl rfl rfl (x_X5_leave l b base D z N 5 I c d r) ?_
  refine R_seg (φ := []) (pc' := 7) (L' := [.ref 1]) (st' := [.int 30]) (σ' := (mj_KS N, (s_X5_leave 5 I), mj_PP c d r)) 1 rfl trivial ?_
  exact R_ri rfl rfl (mj_leaf (by simp only [s_X5_labelWeed, Bool.false_eq_true, ↓reduceIte, Nat.reduceAdd, Nat.reduceMul, mj_tn0, mj_tn1, mj_tn2, mj_tn3]) (by simp only [s_X5_labelWeed, Bool.false_eq_true, ↓reduceIte, Nat.reduceAdd, Nat.reduceMul, mj_tn0, mj_tn1, mj_tn2, mj_tn3]))
def s_X5_trace (I : mj_I) : Int32 := I 1 12
set_option maxHeartbeats 8000000 in
theorem x_X5_trace (l : Launch) (b base : Nat) (D : va_G) (z : mj_K × (Int32 → Int32)) (N : Nat) (I : mj_I) (c d r : Nat) : mj_Rn l b base D z mj_m_X5_trace 0 [.ref 1] [] (mj_KS N, I, mj_PP c d r) (mj_E N (some (.int (s_X5_trace  I))) I (mj_PP c d r)) := by
  refine R_seg (φ := []) (pc' := 4) (L' := [.ref 1]) (st' := [.int (I 1 12)]) (σ' := (mj_KS N, I, mj_PP c d r)) 2 rfl trivial ?_
  exact R_ri rfl rfl (mj_leaf (by simp only [s_X5_trace, Bool.false_eq_true, ↓reduceIte, Nat.reduceAdd, Nat.reduceMul, mj_tn0, mj_tn1, mj_tn2, mj_tn3]) (by simp only [s_X5_trace, Bool.false_eq_true, ↓reduceIte, Nat.reduceAdd, Nat.reduceMul, mj_tn0, mj_tn1, mj_tn2, mj_tn3]))
def s_X5_fault (I : mj_I) : Int32 := I 1 13
set_option maxHeartbeats 8000000 in
theorem x_X5_fault (l : Launch) (b base : Nat) (D : va_G) (z : mj_K × (Int32 → Int32)) (N : Nat) (I : mj_I) (c d r : Nat) : mj_Rn l b base D z mj_m_X5_fault 0 [.ref 1] [] (mj_KS N, I, mj_PP c d r) (mj_E N (some (.int (s_X5_fault  I))) I (mj_PP c d r)) := by
  refine R_seg (φ := []) (pc' := 4) (L' := [.ref 1]) (st' := [.int (I 1 13)]) (σ' := (mj_KS N, I, mj_PP c d r)) 2 rfl trivial ?_
  exact R_ri rfl rfl (mj_leaf (by simp only [s_X5_fault, Bool.false_eq_true, ↓reduceIte, Nat.reduceAdd, Nat.reduceMul, mj_tn0, mj_tn1, mj_tn2, mj_tn3]) (by simp only [s_X5_fault, Bool.false_eq_true, ↓reduceIte, Nat.reduceAdd, Nat.reduceMul, mj_tn0, mj_tn1, mj_tn2, mj_tn3]))
def s_X5_back (k : Int32) (I : mj_I) : Int32 × mj_I := if (k : Int32) < 0 then ((-2), I) else (if (I 1 11 : Int32) < k then ((-2), I) else ((I 1 11) - k, (mj_upI I 1 11 ((I 1 11) - k))))
set_option maxHeartbeats 8000000 in
theorem x_X5_back (l : Launch) (b base : Nat) (D : va_G) (z : mj_K × (Int32 → Int32)) (N : Nat) (k : Int32) (I : mj_I) (c d r : Nat) : mj_Rn l b base D z mj_m_X5_back 0 [.ref 1, .int k] [] (mj_KS N, I, mj_PP c d r) (mj_E N (some (.int (s_X5_back k I).1)) (s_X5_back k I).2 (mj_PP c d r)) := by
  refine R_seg (φ := []) (pc' := 1) (L' := [.ref 1, .int k]) (st' := [.int k]) (σ' := (mj_KS N, I, mj_PP c d r)) 1 rfl trivial ?_
  refine R_br (q := (k : Int32) < 0) (t := 12) (f := 4) (rest := []) rfl (fun h1 => ?_) (fun h1 => ?_)
  · skip
    refine R_seg (φ := []) (pc' := 14) (L' := [.ref 1, .int k]) (st' := [.int (-2)]) (σ' := (mj_KS N, I, mj_PP c d r)) 1 rfl trivial ?_
    exact R_ri rfl rfl (mj_leaf (by simp only [s_X5_back, if_pos h1, Bool.false_eq_true, ↓reduceIte, Nat.reduceAdd, Nat.reduceMul, mj_tn0, mj_tn1, mj_tn2, mj_tn3]) (by simp only [s_X5_back, if_pos h1, Bool.false_eq_true, ↓reduceIte, Nat.reduceAdd, Nat.reduceMul, mj_tn0, mj_tn1, mj_tn2, mj_tn3]))
  · skip
    refine R_seg (φ := []) (pc' := 9) (L' := [.ref 1, .int k]) (st' := [.int (I 1 11), .int k]) (σ' := (mj_KS N, I, mj_PP c d r)) 3 rfl trivial ?_
    refine R_br (q := (I 1 11 : Int32) < k) (t := 12) (f := 15) (rest := []) rfl (fun h2 => ?_) (fun h2 => ?_)
    · skip
      refine R_seg (φ := []) (pc' := 14) (L' := [.ref 1, .int k]) (st' := [.int (-2)]) (σ' := (mj_KS N, I, mj_PP c d r)) 1 rfl trivial ?_
      exact R_ri rfl rfl (mj_leaf (by simp only [s_X5_back, if_neg h1, if_pos h2, Bool.false_eq_true, ↓reduceIte, Nat.reduceAdd, Nat.reduceMul, mj_tn0, mj_tn1, mj_tn2, mj_tn3]) (by simp only [s_X5_back, if_neg h1, if_pos h2, Bool.false_eq_true, ↓reduceIte, Nat.reduceAdd, Nat.reduceMul, mj_tn0, mj_tn1, mj_tn2, mj_tn3]))
    · skip
      refine R_seg (φ := []) (pc' := 29) (L' := [.ref 1, .int k]) (st' := [.int ((I 1 11) - k)]) (σ' := (mj_KS N, (mj_upI I 1 11 ((I 1 11) - k)), mj_PP c d r)) 8 rfl trivial ?_
      exact R_ri rfl rfl (mj_leaf (by simp only [s_X5_back, if_neg h1, if_neg h2, Bool.false_eq_true, ↓reduceIte, Nat.reduceAdd, Nat.reduceMul, mj_tn0, mj_tn1, mj_tn2, mj_tn3]) (by simp only [s_X5_back, if_neg h1, if_neg h2, Bool.false_eq_true, ↓reduceIte, Nat.reduceAdd, Nat.reduceMul, mj_tn0, mj_tn1, mj_tn2, mj_tn3]))
