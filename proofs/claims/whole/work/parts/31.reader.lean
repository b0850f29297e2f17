/-! the class: the reader -/
def s_X2_sees (rr : Nat) (e : Int32) (I : mj_I) : Int32 := if (I 18 3 : Int32) < I 18 2 then (if ((I 18 1) + (I 18 3) : Int32) < 0 then 0 else (if ((I 18 1) + (I 18 3) : Int32) < 60 then (if (I rr ((I 18 1) + (I 18 3)) : Int32) = e then 1 else 0) else 0)) else 0
set_option maxHeartbeats 8000000 in
theorem x_X2_sees (l : Launch) (b base : Nat) (D : va_G) (z : mj_K × (Int32 → Int32)) (N : Nat) (rr : Nat) (e : Int32) (hrr : rr = 35 ∨ rr = 37 ∨ rr = 39 ∨ rr = 41) (I : mj_I) (c d : Nat) : mj_Rn l b base D z mj_m_X2_sees 0 [.ref 18, .int e, mj_mk] [] (mj_KS N, I, mj_PP c d rr) (mj_E N (some (.int (s_X2_sees rr e I))) I (mj_PP c d rr)) := by
  rcases hrr with rfl | rfl | rfl | rfl
  · skip
    refine R_seg (φ := []) (pc' := 18) (L' := [.ref 18, .int e, .int ((I 18 1) + (I 18 3))]) (st' := [.int (I 18 2), .int (I 18 3)]) (σ' := (mj_KS N, I, mj_PP c d (35))) 10 rfl trivial ?_
    refine R_br (q := (I 18 3 : Int32) < I 18 2) (t := 21) (f := 48) (rest := []) rfl (fun h1 => ?_) (fun h1 => ?_)
    · skip
      refine R_seg (φ := []) (pc' := 22) (L' := [.ref 18, .int e, .int ((I 18 1) + (I 18 3))]) (st' := [.int ((I 18 1) + (I 18 3))]) (σ' := (mj_KS N, I, mj_PP c d (35))) 1 rfl trivial ?_
      refine R_br (q := ((I 18 1) + (I 18 3) : Int32) < 0) (t := 48) (f := 25) (rest := []) rfl (fun h2 => ?_) (fun h2 => ?_)
      · skip
        refine R_seg (φ := []) (pc' := 49) (L' := [.ref 18, .int e, .int ((I 18 1) + (I 18 3))]) (st' := [.int 0]) (σ' := (mj_KS N, I, mj_PP c d (35))) 1 rfl trivial ?_
        exact R_rb rfl rfl (Or.inl rfl) (mj_leaf (by simp only [s_X2_sees, if_pos h1, if_pos h2, Bool.false_eq_true, ↓reduceIte, Nat.reduceAdd, Nat.reduceMul, mj_tn0, mj_tn1, mj_tn2, mj_tn3]) (by simp only [s_X2_sees, if_pos h1, if_pos h2, Bool.false_eq_true, ↓reduceIte, Nat.reduceAdd, Nat.reduceMul, mj_tn0, mj_tn1, mj_tn2, mj_tn3]))
      · skip
        refine R_seg (φ := []) (pc' := 31) (L' := [.ref 18, .int e, .int ((I 18 1) + (I 18 3))]) (st' := [.int 60, .int ((I 18 1) + (I 18 3))]) (σ' := (mj_KS N, I, mj_PP c d (35))) 4 rfl trivial ?_
        refine R_br (q := ((I 18 1) + (I 18 3) : Int32) < 60) (t := 34) (f := 48) (rest := []) rfl (fun h3 => ?_) (fun h3 => ?_)
        · skip
          refine R_seg (φ := [mj_in ((I 18 1) + (I 18 3)) 60]) (pc' := 41) (L' := [.ref 18, .int e, .int ((I 18 1) + (I 18 3))]) (st' := [.int e, .int (I 35 ((I 18 1) + (I 18 3)))]) (σ' := (mj_KS N, I, mj_PP c d (35))) 5 rfl ⟨mj_rng (by decide) h2 h3, trivial⟩ ?_
          refine R_br (q := (I 35 ((I 18 1) + (I 18 3)) : Int32) = e) (t := 44) (f := 48) (rest := []) rfl (fun h4 => ?_) (fun h4 => ?_)
          · skip
            refine R_seg (φ := []) (pc' := 49) (L' := [.ref 18, .int e, .int ((I 18 1) + (I 18 3))]) (st' := [.int 1]) (σ' := (mj_KS N, I, mj_PP c d (35))) 2 rfl trivial ?_
            exact R_rb rfl rfl (Or.inr rfl) (mj_leaf (by simp only [s_X2_sees, if_pos h1, if_neg h2, if_pos h3, if_pos h4, Bool.false_eq_true, ↓reduceIte, Nat.reduceAdd, Nat.reduceMul, mj_tn0, mj_tn1, mj_tn2, mj_tn3]) (by simp only [s_X2_sees, if_pos h1, if_neg h2, if_pos h3, if_pos h4, Bool.false_eq_true, ↓reduceIte, Nat.reduceAdd, Nat.reduceMul, mj_tn0, mj_tn1, mj_tn2, mj_tn3]))
          · skip
            refine R_seg (φ := []) (pc' := 49) (L' := [.ref 18, .int e, .int ((I 18 1) + (I 18 3))]) (st' := [.int 0]) (σ' := (mj_KS N, I, mj_PP c d (35))) 1 rfl trivial ?_
            exact R_rb rfl rfl (Or.inl rfl) (mj_leaf (by simp only [s_X2_sees, if_pos h1, if_neg h2, if_pos h3, if_neg h4, Bool.false_eq_true, ↓reduceIte, Nat.reduceAdd, Nat.reduceMul, mj_tn0, mj_tn1, mj_tn2, mj_tn3]) (by simp only [s_X2_sees, if_pos h1, if_neg h2, if_pos h3, if_neg h4, Bool.false_eq_true, ↓reduceIte, Nat.reduceAdd, Nat.reduceMul, mj_tn0, mj_tn1, mj_tn2, mj_tn3]))
        · skip
          refine R_seg (φ := []) (pc' := 49) (L' := [.ref 18, .int e, .int ((I 18 1) + (I 18 3))]) (st' := [.int 0]) (σ' := (mj_KS N, I, mj_PP c d (35))) 1 rfl trivial ?_
          exact R_rb rfl rfl (Or.inl rfl) (mj_leaf (by simp only [s_X2_sees, if_pos h1, if_neg h2, if_neg h3, Bool.false_eq_true, ↓reduceIte, Nat.reduceAdd, Nat.reduceMul, mj_tn0, mj_tn1, mj_tn2, mj_tn3]) (by simp only [s_X2_sees, if_pos h1, if_neg h2, if_neg h3, Bool.false_eq_true, ↓reduceIte, Nat.reduceAdd, Nat.reduceMul, mj_tn0, mj_tn1, mj_tn2, mj_tn3]))
    · skip
      refine R_seg (φ := []) (pc' := 49) (L' := [.ref 18, .int e, .int ((I 18 1) + (I 18 3))]) (st' := [.int 0]) (σ' := (mj_KS N, I, mj_PP c d (35))) 1 rfl trivial ?_
      exact R_rb rfl rfl (Or.inl rfl) (mj_leaf (by simp only [s_X2_sees, if_neg h1, Bool.false_eq_true, ↓reduceIte, Nat.reduceAdd, Nat.reduceMul, mj_tn0, mj_tn1, mj_tn2, mj_tn3]) (by simp only [s_X2_sees, if_neg h1, Bool.false_eq_true, ↓reduceIte, Nat.reduceAdd, Nat.reduceMul, mj_tn0, mj_tn1, mj_tn2, mj_tn3]))
  · skip
    refine R_seg (φ := []) (pc' := 18) (L' := [.ref 18, .int e, .int ((I 18 1) + (I 18 3))]) (st' := [.int (I 18 2), .int (I 18 3)]) (σ' := (mj_KS N, I, mj_PP c d (37))) 10 rfl trivial ?_
    refine R_br (q := (I 18 3 : Int32) < I 18 2) (t := 21) (f := 48) (rest := []) rfl (fun h1 => ?_) (fun h1 => ?_)
    · skip
      refine R_seg (φ := []) (pc' := 22) (L' := [.ref 18, .int e, .int ((I 18 1) + (I 18 3))]) (st' := [.int ((I 18 1) + (I 18 3))]) (σ' := (mj_KS N, I, mj_PP c d (37))) 1 rfl trivial ?_
      refine R_br (q := ((I 18 1) + (I 18 3) : Int32) < 0) (t := 48) (f := 25) (rest := []) rfl (fun h2 => ?_) (fun h2 => ?_)
      · skip
        refine R_seg (φ := []) (pc' := 49) (L' := [.ref 18, .int e, .int ((I 18 1) + (I 18 3))]) (st' := [.int 0]) (σ' := (mj_KS N, I, mj_PP c d (37))) 1 rfl trivial ?_
        exact R_rb rfl rfl (Or.inl rfl) (mj_leaf (by simp only [s_X2_sees, if_pos h1, if_pos h2, Bool.false_eq_true, ↓reduceIte, Nat.reduceAdd, Nat.reduceMul, mj_tn0, mj_tn1, mj_tn2, mj_tn3]) (by simp only [s_X2_sees, if_pos h1, if_pos h2, Bool.false_eq_true, ↓reduceIte, Nat.reduceAdd, Nat.reduceMul, mj_tn0, mj_tn1, mj_tn2, mj_tn3]))
      · skip
        refine R_seg (φ := []) (pc' := 31) (L' := [.ref 18, .int e, .int ((I 18 1) + (I 18 3))]) (st' := [.int 60, .int ((I 18 1) + (I 18 3))]) (σ' := (mj_KS N, I, mj_PP c d (37))) 4 rfl trivial ?_
        refine R_br (q := ((I 18 1) + (I 18 3) : Int32) < 60) (t := 34) (f := 48) (rest := []) rfl (fun h3 => ?_) (fun h3 => ?_)
        · skip
          refine R_seg (φ := [mj_in ((I 18 1) + (I 18 3)) 60]) (pc' := 41) (L' := [.ref 18, .int e, .int ((I 18 1) + (I 18 3))]) (st' := [.int e, .int (I 37 ((I 18 1) + (I 18 3)))]) (σ' := (mj_KS N, I, mj_PP c d (37))) 5 rfl ⟨mj_rng (by decide) h2 h3, trivial⟩ ?_
          refine R_br (q := (I 37 ((I 18 1) + (I 18 3)) : Int32) = e) (t := 44) (f := 48) (rest := []) rfl (fun h4 => ?_) (fun h4 => ?_)
          · skip
            refine R_seg (φ := []) (pc' := 49) (L' := [.ref 18, .int e, .int ((I 18 1) + (I 18 3))]) (st' := [.int 1]) (σ' := (mj_KS N, I, mj_PP c d (37))) 2 rfl trivial ?_
            exact R_rb rfl rfl (Or.inr rfl) (mj_leaf (by simp only [s_X2_sees, if_pos h1, if_neg h2, if_pos h3, if_pos h4, Bool.false_eq_true, ↓reduceIte, Nat.reduceAdd, Nat.reduceMul, mj_tn0, mj_tn1, mj_tn2, mj_tn3]) (by simp only [s_X2_sees, if_pos h1, if_neg h2, if_pos h3, if_pos h4, Bool.false_eq_true, ↓reduceIte, Nat.reduceAdd, Nat.reduceMul, mj_tn0, mj_tn1, mj_tn2, mj_tn3]))
          · skip
            refine R_seg (φ := []) (pc' := 49) (L' := [.ref 18, .int e, .int ((I 18 1) + (I 18 3))]) (st' := [.int 0]) (σ' := (mj_KS N, I, mj_PP c d (37))) 1 rfl trivial ?_
            exact R_rb rfl rfl (Or.inl rfl) (mj_leaf (by simp only [s_X2_sees, if_pos h1, if_neg h2, if_pos h3, if_neg h4, Bool.false_eq_true, ↓reduceIte, Nat.reduceAdd, Nat.reduceMul, mj_tn0, mj_tn1, mj_tn2, mj_tn3]) (by simp only [s_X2_sees, if_pos h1, if_neg h2, if_pos h3, if_neg h4, Bool.false_eq_true, ↓reduceIte, Nat.reduceAdd, Nat.reduceMul, mj_tn0, mj_tn1, mj_tn2, mj_tn3]))
        · skip
          refine R_seg (φ := []) (pc' := 49) (L' := [.ref 18, .int e, .int ((I 18 1) + (I 18 3))]) (st' := [.int 0]) (σ' := (mj_KS N, I, mj_PP c d (37))) 1 rfl trivial ?_
          exact R_rb rfl rfl (Or.inl rfl) (mj_leaf (by simp only [s_X2_sees, if_pos h1, if_neg h2, if_neg h3, Bool.false_eq_true, ↓reduceIte, Nat.reduceAdd, Nat.reduceMul, mj_tn0, mj_tn1, mj_tn2, mj_tn3]) (by simp only [s_X2_sees, if_pos h1, if_neg h2, if_neg h3, Bool.false_eq_true, ↓reduceIte, Nat.reduceAdd, Nat.reduceMul, mj_tn0, mj_tn1, mj_tn2, mj_tn3]))
    · skip
      refine R_seg (φ := []) (pc' := 49) (L' := [.ref 18, .int e, .int ((I 18 1) + (I 18 3))]) (st' := [.int 0]) (σ' := (mj_KS N, I, mj_PP c d (37))) 1 rfl trivial ?_
      exact R_rb rfl rfl (Or.inl rfl) (mj_leaf (by simp only [s_X2_sees, if_neg h1, Bool.false_eq_true, ↓reduceIte, Nat.reduceAdd, Nat.reduceMul, mj_tn0, mj_tn1, mj_tn2, mj_tn3]) (by simp only [s_X2_sees, if_neg h1, Bool.false_eq_true, ↓reduceIte, Nat.reduceAdd, Nat.reduceMul, mj_tn0, mj_tn1, mj_tn2, mj_tn3]))
  · skip
    refine R_seg (φ := []) (pc' := 18) (L' := [.ref 18, .int e, .int ((I 18 1) + (I 18 3))]) (st' := [.int (I 18 2), .int (I 18 3)]) (σ' := (mj_KS N, I, mj_PP c d (39))) 10 rfl trivial ?_
    refine R_br (q := (I 18 3 : Int32) < I 18 2) (t := 21) (f := 48) (rest := []) rfl (fun h1 => ?_) (fun h1 => ?_)
    · skip
      refine R_seg (φ := []) (pc' := 22) (L' := [.ref 18, .int e, .int ((I 18 1) + (I 18 3))]) (st' := [.int ((I 18 1) + (I 18 3))]) (σ' := (mj_KS N, I, mj_PP c d (39))) 1 rfl trivial ?_
      refine R_br (q := ((I 18 1) + (I 18 3) : Int32) < 0) (t := 48) (f := 25) (rest := []) rfl (fun h2 => ?_) (fun h2 => ?_)
      · skip
        refine R_seg (φ := []) (pc' := 49) (L' := [.ref 18, .int e, .int ((I 18 1) + (I 18 3))]) (st' := [.int 0]) (σ' := (mj_KS N, I, mj_PP c d (39))) 1 rfl trivial ?_
        exact R_rb rfl rfl (Or.inl rfl) (mj_leaf (by simp only [s_X2_sees, if_pos h1, if_pos h2, Bool.false_eq_true, ↓reduceIte, Nat.reduceAdd, Nat.reduceMul, mj_tn0, mj_tn1, mj_tn2, mj_tn3]) (by simp only [s_X2_sees, if_pos h1, if_pos h2, Bool.false_eq_true, ↓reduceIte, Nat.reduceAdd, Nat.reduceMul, mj_tn0, mj_tn1, mj_tn2, mj_tn3]))
      · skip
        refine R_seg (φ := []) (pc' := 31) (L' := [.ref 18, .int e, .int ((I 18 1) + (I 18 3))]) (st' := [.int 60, .int ((I 18 1) + (I 18 3))]) (σ' := (mj_KS N, I, mj_PP c d (39))) 4 rfl trivial ?_
        refine R_br (q := ((I 18 1) + (I 18 3) : Int32) < 60) (t := 34) (f := 48) (rest := []) rfl (fun h3 => ?_) (fun h3 => ?_)
        · skip
          refine R_seg (φ := [mj_in ((I 18 1) + (I 18 3)) 60]) (pc' := 41) (L' := [.ref 18, .int e, .int ((I 18 1) + (I 18 3))]) (st' := [.int e, .int (I 39 ((I 18 1) + (I 18 3)))]) (σ' := (mj_KS N, I, mj_PP c d (39))) 5 rfl ⟨mj_rng (by decide) h2 h3, trivial⟩ ?_
          refine R_br (q := (I 39 ((I 18 1) + (I 18 3)) : Int32) = e) (t := 44) (f := 48) (rest := []) rfl (fun h4 => ?_) (fun h4 => ?_)
          · skip
            refine R_seg (φ := []) (pc' := 49) (L' := [.ref 18, .int e, .int ((I 18 1) + (I 18 3))]) (st' := [.int 1]) (σ' := (mj_KS N, I, mj_PP c d (39))) 2 rfl trivial ?_
            exact R_rb rfl rfl (Or.inr rfl) (mj_leaf (by simp only [s_X2_sees, if_pos h1, if_neg h2, if_pos h3, if_pos h4, Bool.false_eq_true, ↓reduceIte, Nat.reduceAdd, Nat.reduceMul, mj_tn0, mj_tn1, mj_tn2, mj_tn3]) (by simp only [s_X2_sees, if_pos h1, if_neg h2, if_pos h3, if_pos h4, Bool.false_eq_true, ↓reduceIte, Nat.reduceAdd, Nat.reduceMul, mj_tn0, mj_tn1, mj_tn2, mj_tn3]))
          · skip
            refine R_seg (φ := []) (pc' := 49) (L' := [.ref 18, .int e, .int ((I 18 1) + (I 18 3))]) (st' := [.int 0]) (σ' := (mj_KS N, I, mj_PP c d (39))) 1 rfl trivial ?_
            exact R_rb rfl rfl (Or.inl rfl) (mj_leaf (by simp only [s_X2_sees, if_pos h1, if_neg h2, if_pos h3, if_neg h4, Bool.false_eq_true, ↓reduceIte, Nat.reduceAdd, Nat.reduceMul, mj_tn0, mj_tn1, mj_tn2, mj_tn3]) (by simp only [s_X2_sees, if_pos h1, if_neg h2, if_pos h3, if_neg h4, Bool.false_eq_true, ↓reduceIte, Nat.reduceAdd, Nat.reduceMul, mj_tn0, mj_tn1, mj_tn2, mj_tn3]))
        · skip
          refine R_seg (φ := []) (pc' := 49) (L' := [.ref 18, .int e, .int ((I 18 1) + (I 18 3))]) (st' := [.int 0]) (σ' := (mj_KS N, I, mj_PP c d (39))) 1 rfl trivial ?_
          exact R_rb rfl rfl (Or.inl rfl) (mj_leaf (by simp only [s_X2_sees, if_pos h1, if_neg h2, if_neg h3, Bool.false_eq_true, ↓reduceIte, Nat.reduceAdd, Nat.reduceMul, mj_tn0, mj_tn1, mj_tn2, mj_tn3]) (by simp only [s_X2_sees, if_pos h1, if_neg h2, if_neg h3, Bool.false_eq_true, ↓reduceIte, Nat.reduceAdd, Nat.reduceMul, mj_tn0, mj_tn1, mj_tn2, mj_tn3]))
    · skip
      refine R_seg (φ := []) (pc' := 49) (L' := [.ref 18, .int e, .int ((I 18 1) + (I 18 3))]) (st' := [.int 0]) (σ' := (mj_KS N, I, mj_PP c d (39))) 1 rfl trivial ?_
      exact R_rb rfl rfl (Or.inl rfl) (mj_leaf (by simp only [s_X2_sees, if_neg h1, Bool.false_eq_true, ↓reduceIte, Nat.reduceAdd, Nat.reduceMul, mj_tn0, mj_tn1, mj_tn2, mj_tn3]) (by simp only [s_X2_sees, if_neg h1, Bool.false_eq_true, ↓reduceIte, Nat.reduceAdd, Nat.reduceMul, mj_tn0, mj_tn1, mj_tn2, mj_tn3]))
  · skip
    refine R_seg (φ := []) (pc' := 18) (L' := [.ref 18, .int e, .int ((I 18 1) + (I 18 3))]) (st' := [.int (I 18 2), .int (I 18 3)]) (σ' := (mj_KS N, I, mj_PP c d (41))) 10 rfl trivial ?_
    refine R_br (q := (I 18 3 : Int32) < I 18 2) (t := 21) (f := 48) (rest := []) rfl (fun h1 => ?_) (fun h1 => ?_)
    · skip
      refine R_seg (φ := []) (pc' := 22) (L' := [.ref 18, .int e, .int ((I 18 1) + (I 18 3))]) (st' := [.int ((I 18 1) + (I 18 3))]) (σ' := (mj_KS N, I, mj_PP c d (41))) 1 rfl trivial ?_
      refine R_br (q := ((I 18 1) + (I 18 3) : Int32) < 0) (t := 48) (f := 25) (rest := []) rfl (fun h2 => ?_) (fun h2 => ?_)
      · skip
        refine R_seg (φ := []) (pc' := 49) (L' := [.ref 18, .int e, .int ((I 18 1) + (I 18 3))]) (st' := [.int 0]) (σ' := (mj_KS N, I, mj_PP c d (41))) 1 rfl trivial ?_
        exact R_rb rfl rfl (Or.inl rfl) (mj_leaf (by simp only [s_X2_sees, if_pos h1, if_pos h2, Bool.false_eq_true, ↓reduceIte, Nat.reduceAdd, Nat.reduceMul, mj_tn0, mj_tn1, mj_tn2, mj_tn3]) (by simp only [s_X2_sees, if_pos h1, if_pos h2, Bool.false_eq_true, ↓reduceIte, Nat.reduceAdd, Nat.reduceMul, mj_tn0, mj_tn1, mj_tn2, mj_tn3]))
      · skip
        refine R_seg (φ := []) (pc' := 31) (L' := [.ref 18, .int e, .int ((I 18 1) + (I 18 3))]) (st' := [.int 60, .int ((I 18 1) + (I 18 3))]) (σ' := (mj_KS N, I, mj_PP c d (41))) 4 rfl trivial ?_
        refine R_br (q := ((I 18 1) + (I 18 3) : Int32) < 60) (t := 34) (f := 48) (rest := []) rfl (fun h3 => ?_) (fun h3 => ?_)
        · skip
          refine R_seg (φ := [mj_in ((I 18 1) + (I 18 3)) 60]) (pc' := 41) (L' := [.ref 18, .int e, .int ((I 18 1) + (I 18 3))]) (st' := [.int e, .int (I 41 ((I 18 1) + (I 18 3)))]) (σ' := (mj_KS N, I, mj_PP c d (41))) 5 rfl ⟨mj_rng (by decide) h2 h3, trivial⟩ ?_
          refine R_br (q := (I 41 ((I 18 1) + (I 18 3)) : Int32) = e) (t := 44) (f := 48) (rest := []) rfl (fun h4 => ?_) (fun h4 => ?_)
          · skip
            refine R_seg (φ := []) (pc' := 49) (L' := [.ref 18, .int e, .int ((I 18 1) + (I 18 3))]) (st' := [.int 1]) (σ' := (mj_KS N, I, mj_PP c d (41))) 2 rfl trivial ?_
            exact R_rb rfl rfl (Or.inr rfl) (mj_leaf (by simp only [s_X2_sees, if_pos h1, if_neg h2, if_pos h3, if_pos h4, Bool.false_eq_true, ↓reduceIte, Nat.reduceAdd, Nat.reduceMul, mj_tn0, mj_tn1, mj_tn2, mj_tn3]) (by simp only [s_X2_sees, if_pos h1, if_neg h2, if_pos h3, if_pos h4, Bool.false_eq_true, ↓reduceIte, Nat.reduceAdd, Nat.reduceMul, mj_tn0, mj_tn1, mj_tn2, mj_tn3]))
          · skip
            refine R_seg (φ := []) (pc' := 49) (L' := [.ref 18, .int e, .int ((I 18 1) + (I 18 3))]) (st' := [.int 0]) (σ' := (mj_KS N, I, mj_PP c d (41))) 1 rfl trivial ?_
            exact R_rb rfl rfl (Or.inl rfl) (mj_leaf (by simp only [s_X2_sees, if_pos h1, if_neg h2, if_pos h3, if_neg h4, Bool.false_eq_true, ↓reduceIte, Nat.reduceAdd, Nat.reduceMul, mj_tn0, mj_tn1, mj_tn2, mj_tn3]) (by simp only [s_X2_sees, if_pos h1, if_neg h2, if_pos h3, if_neg h4, Bool.false_eq_true, ↓reduceIte, Nat.reduceAdd, Nat.reduceMul, mj_tn0, mj_tn1, mj_tn2, mj_tn3]))
        · skip
          refine R_seg (φ := []) (pc' := 49) (L' := [.ref 18, .int e, .int ((I 18 1) + (I 18 3))]) (st' := [.int 0]) (σ' := (mj_KS N, I, mj_PP c d (41))) 1 rfl trivial ?_
          exact R_rb rfl rfl (Or.inl rfl) (mj_leaf (by simp only [s_X2_sees, if_pos h1, if_neg h2, if_neg h3, Bool.false_eq_true, ↓reduceIte, Nat.reduceAdd, Nat.reduceMul, mj_tn0, mj_tn1, mj_tn2, mj_tn3]) (by simp only [s_X2_sees, if_pos h1, if_neg h2, if_neg h3, Bool.false_eq_true, ↓reduceIte, Nat.reduceAdd, Nat.reduceMul, mj_tn0, mj_tn1, mj_tn2, mj_tn3]))
    · skip
      refine R_seg (φ := []) (pc' := 49) (L' := [.ref 18, .int e, .int ((I 18 1) + (I 18 3))]) (st' := [.int 0]) (σ' := (mj_KS N, I, mj_PP c d (41))) 1 rfl trivial ?_
      exact R_rb rfl rfl (Or.inl rfl) (mj_leaf (by simp only [s_X2_sees, if_neg h1, Bool.false_eq_true, ↓reduceIte, Nat.reduceAdd, Nat.reduceMul, mj_tn0, mj_tn1, mj_tn2, mj_tn3]) (by simp only [s_X2_sees, if_neg h1, Bool.false_eq_true, ↓reduceIte, Nat.reduceAdd, Nat.reduceMul, mj_tn0, mj_tn1, mj_tn2, mj_tn3]))
def s_X2_takes (rr : Nat) (e : Int32) (I : mj_I) : Int32 × mj_I := if ((s_X2_sees (rr) e I) : Int32) = 0 then (0, I) else (1, (mj_upI I 18 3 ((I 18 3) + 1)))
set_option maxHeartbeats 8000000 in
theorem x_X2_takes (l : Launch) (b base : Nat) (D : va_G) (z : mj_K × (Int32 → Int32)) (N : Nat) (rr : Nat) (e : Int32) (hrr : rr = 35 ∨ rr = 37 ∨ rr = 39 ∨ rr = 41) (I : mj_I) (c d : Nat) : mj_Rn l b base D z mj_m_X2_takes 0 [.ref 18, .int e] [] (mj_KS N, I, mj_PP c d rr) (mj_E N (some (.int (s_X2_takes rr e I).1)) (s_X2_takes rr e I).2 (mj_PP c d rr)) := by
  rcases hrr with rfl | rfl | rfl | rfl
  · skip
    refine R_seg (φ := []) (pc' := 2) (L' := [.ref 18, .int e]) (st' := [.int e, .ref 18]) (σ' := (mj_KS N, I, mj_PP c d (35))) 2 rfl trivial ?_
    refine R_ce (idx := 58) (mid := 24) (kind := 0) (N := N) (M' := mj_m_X2_sees) (As := [.ref 18, .int e]) (rest := []) (I := I) (P := mj_PP c d (35)) (I' := I) (P' := mj_PP c d (35)) (v := some (.int (s_X2_sees (35) e I))) rfl rfl rfl mj_mc24 mj_dc24 rfl rfl rfl rfl rfl rfl (x_X2_sees l b base D z N (35) e (by decide) I c d ) ?_
    refine R_seg (φ := []) (pc' := 5) (L' := [.ref 18, .int e]) (st' := [.int (s_X2_sees (35) e I)]) (σ' := (mj_KS N, I, mj_PP c d (35))) 0 rfl trivial ?_
    refine R_br (q := ((s_X2_sees (35) e I) : Int32) = 0) (t := 8) (f := 10) (rest := []) rfl (fun h1 => ?_) (fun h1 => ?_)
    · skip
      refine R_seg (φ := []) (pc' := 9) (L' := [.ref 18, .int e]) (st' := [.int 0]) (σ' := (mj_KS N, I, mj_PP c d (35))) 1 rfl trivial ?_
      exact R_rb rfl rfl (Or.inl rfl) (mj_leaf (by simp only [s_X2_takes, if_pos h1, Bool.false_eq_true, ↓reduceIte, Nat.reduceAdd, Nat.reduceMul, mj_tn0, mj_tn1, mj_tn2, mj_tn3]) (by simp only [s_X2_takes, if_pos h1, Bool.false_eq_true, ↓reduceIte, Nat.reduceAdd, Nat.reduceMul, mj_tn0, mj_tn1, mj_tn2, mj_tn3]))
    · skip
      refine R_seg (φ := []) (pc' := 21) (L' := [.ref 18, .int e]) (st' := [.int 1]) (σ' := (mj_KS N, (mj_upI I 18 3 ((I 18 3) + 1)), mj_PP c d (35))) 7 rfl trivial ?_
      exact R_rb rfl rfl (Or.inr rfl) (mj_leaf (by simp only [s_X2_takes, if_neg h1, Bool.false_eq_true, ↓reduceIte, Nat.reduceAdd, Nat.reduceMul, mj_tn0, mj_tn1, mj_tn2, mj_tn3]) (by simp only [s_X2_takes, if_neg h1, Bool.false_eq_true, ↓reduceIte, Nat.reduceAdd, Nat.reduceMul, mj_tn0, mj_tn1, mj_tn2, mj_tn3]))
  · skip
    refine R_seg (φ := []) (pc' := 2) (L' := [.ref 18, .int e]) (st' := [.int e, .ref 18]) (σ' := (mj_KS N, I, mj_PP c d (37))) 2 rfl trivial ?_
    refine R_ce (idx := 58) (mid := 24) (kind := 0) (N := N) (M' := mj_m_X2_sees) (As := [.ref 18, .int e]) (rest := []) (I := I) (P := mj_PP c d (37)) (I' := I) (P' := mj_PP c d (37)) (v := some (.int (s_X2_sees (37) e I))) rfl rfl rfl mj_mc24 mj_dc24 rfl rfl rfl rfl rfl rfl (x_X2_sees l b base D z N (37) e (by decide) I c d ) ?_
    refine R_seg (φ := []) (pc' := 5) (L' := [.ref 18, .int e]) (st' := [.int (s_X2_sees (37) e I)]) (σ' := (mj_KS N, I, mj_PP c d (37))) 0 rfl trivial ?_
    refine R_br (q := ((s_X2_sees (37) e I) : Int32) = 0) (t := 8) (f := 10) (rest := []) rfl (fun h1 => ?_) (fun h1 => ?_)
    · skip
      refine R_seg (φ := []) (pc' := 9) (L' := [.ref 18, .int e]) (st' := [.int 0]) (σ' := (mj_KS N, I, mj_PP c d (37))) 1 rfl trivial ?_
      exact R_rb rfl rfl (Or.inl rfl) (mj_leaf (by simp only [s_X2_takes, if_pos h1, Bool.false_eq_true, ↓reduceIte, Nat.reduceAdd, Nat.reduceMul, mj_tn0, mj_tn1, mj_tn2, mj_tn3]) (by simp only [s_X2_takes, if_pos h1, Bool.false_eq_true, ↓reduceIte, Nat.reduceAdd, Nat.reduceMul, mj_tn0, mj_tn1, mj_tn2, mj_tn3]))
    · skip
      refine R_seg (φ := []) (pc' := 21) (L' := [.ref 18, .int e]) (st' := [.int 1]) (σ' := (mj_KS N, (mj_upI I 18 3 ((I 18 3) + 1)), mj_PP c d (37))) 7 rfl trivial ?_
      exact R_rb rfl rfl (Or.inr rfl) (mj_leaf (by simp only [s_X2_takes, if_neg h1, Bool.false_eq_true, ↓reduceIte, Nat.reduceAdd, Nat.reduceMul, mj_tn0, mj_tn1, mj_tn2, mj_tn3]) (by simp only [s_X2_takes, if_neg h1, Bool.false_eq_true, ↓reduceIte, Nat.reduceAdd, Nat.reduceMul, mj_tn0, mj_tn1, mj_tn2, mj_tn3]))
  · skip
    refine R_seg (φ := []) (pc' := 2) (L' := [.ref 18, .int e]) (st' := [.int e, .ref 18]) (σ' := (mj_KS N, I, mj_PP c d (39))) 2 rfl trivial ?_
    refine R_ce (idx := 58) (mid := 24) (kind := 0) (N := N) (M' := mj_m_X2_sees) (As := [.ref 18, .int e]) (rest := []) (I := I) (P := mj_PP c d (39)) (I' := I) (P' := mj_PP c d (39)) (v := some (.int (s_X2_sees (39) e I))) rfl rfl rfl mj_mc24 mj_dc24 rfl rfl rfl rfl rfl rfl (x_X2_sees l b base D z N (39) e (by decide) I c d ) ?_
    refine R_seg (φ := []) (pc' := 5) (L' := [.ref 18, .int e]) (st' := [.int (s_X2_sees (39) e I)]) (σ' := (mj_KS N, I, mj_PP c d (39))) 0 rfl trivial ?_
    refine R_br (q := ((s_X2_sees (39) e I) : Int32) = 0) (t := 8) (f := 10) (rest := []) rfl (fun h1 => ?_) (fun h1 => ?_)
    · skip
      refine R_seg (φ := []) (pc' := 9) (L' := [.ref 18, .int e]) (st' := [.int 0]) (σ' := (mj_KS N, I, mj_PP c d (39))) 1 rfl trivial ?_
      exact R_rb rfl rfl (Or.inl rfl) (mj_leaf (by simp only [s_X2_takes, if_pos h1, Bool.false_eq_true, ↓reduceIte, Nat.reduceAdd, Nat.reduceMul, mj_tn0, mj_tn1, mj_tn2, mj_tn3]) (by simp only [s_X2_takes, if_pos h1, Bool.false_eq_true, ↓reduceIte, Nat.reduceAdd, Nat.reduceMul, mj_tn0, mj_tn1, mj_tn2, mj_tn3]))
    · skip
      refine R_seg (φ := []) (pc' := 21) (L' := [.ref 18, .int e]) (st' := [.int 1]) (σ' := (mj_KS N, (mj_upI I 18 3 ((I 18 3) + 1)), mj_PP c d (39))) 7 rfl trivial ?_
      exact R_rb rfl rfl (Or.inr rfl) (mj_leaf (by simp only [s_X2_takes, if_neg h1, Bool.false_eq_true, ↓reduceIte, Nat.reduceAdd, Nat.reduceMul, mj_tn0, mj_tn1, mj_tn2, mj_tn3]) (by simp only [s_X2_takes, if_neg h1, Bool.false_eq_true, ↓reduceIte, Nat.reduceAdd, Nat.reduceMul, mj_tn0, mj_tn1, mj_tn2, mj_tn3]))
  · skip
    refine R_seg (φ := []) (pc' := 2) (L' := [.ref 18, .int e]) (st' := [.int e, .ref 18]) (σ' := (mj_KS N, I, mj_PP c d (41))) 2 rfl trivial ?_
    refine R_ce (idx := 58) (mid := 24) (kind := 0) (N := N) (M' := mj_m_X2_sees) (As := [.ref 18, .int e]) (rest := []) (I := I) (P := mj_PP c d (41)) (I' := I) (P' := mj_PP c d (41)) (v := some (.int (s_X2_sees (41) e I))) rfl rfl rfl mj_mc24 mj_dc24 rfl rfl rfl rfl rfl rfl (x_X2_sees l b base D z N (41) e (by decide) I c d ) ?_
    refine R_seg (φ := []) (pc' := 5) (L' := [.ref 18, .int e]) (st' := [.int (s_X2_sees (41) e I)]) (σ' := (mj_KS N, I, mj_PP c d (41))) 0 rfl trivial ?_
    refine R_br (q := ((s_X2_sees (41) e I) : Int32) = 0) (t := 8) (f := 10) (rest := []) rfl (fun h1 => ?_) (fun h1 => ?_)
    · skip
      refine R_seg (φ := []) (pc' := 9) (L' := [.ref 18, .int e]) (st' := [.int 0]) (σ' := (mj_KS N, I, mj_PP c d (41))) 1 rfl trivial ?_
      exact R_rb rfl rfl (Or.inl rfl) (mj_leaf (by simp only [s_X2_takes, if_pos h1, Bool.false_eq_true, ↓reduceIte, Nat.reduceAdd, Nat.reduceMul, mj_tn0, mj_tn1, mj_tn2, mj_tn3]) (by simp only [s_X2_takes, if_pos h1, Bool.false_eq_true, ↓reduceIte, Nat.reduceAdd, Nat.reduceMul, mj_tn0, mj_tn1, mj_tn2, mj_tn3]))
    · skip
      refine R_seg (φ := []) (pc' := 21) (L' := [.ref 18, .int e]) (st' := [.int 1]) (σ' := (mj_KS N, (mj_upI I 18 3 ((I 18 3) + 1)), mj_PP c d (41))) 7 rfl trivial ?_
      exact R_rb rfl rfl (Or.inr rfl) (mj_leaf (by simp only [s_X2_takes, if_neg h1, Bool.false_eq_true, ↓reduceIte, Nat.reduceAdd, Nat.reduceMul, mj_tn0, mj_tn1, mj_tn2, mj_tn3]) (by simp only [s_X2_takes, if_neg h1, Bool.false_eq_true, ↓reduceIte, Nat.reduceAdd, Nat.reduceMul, mj_tn0, mj_tn1, mj_tn2, mj_tn3]))
theorem mj_e7 {e : Int32} {j : Nat} (he : e.toInt < 7) (hj : 7 ≤ j) (h2 : j < 100) : e < nI j := by
  refine Int32.lt_iff_toInt_lt.mpr ?_
  rw [nI_toInt (by omega)]
  omega
theorem mj_tk_fr (rr : Nat) (e : Int32) (I : mj_I) (x : Nat) (hx : x ≠ 18) : (s_X2_takes rr e I).2 x = I x := by
  unfold s_X2_takes
  split
  all_goals first
    | rfl
    | exact mj_upI_ne hx
def s_X2_td (rr : Nat) (g : Int32) (e : Int32) : Nat → Nat → mj_I → Int32 × mj_I
  | 0, j, I => ((-1), I)
  | k + 1, j, I => if (e : Int32) < nI j then ((-1), I) else (if ((s_X2_takes (rr) (48 + (nI j)) I).1 : Int32) = 0 then (s_X2_td rr g e k (j + 1)  ((s_X2_takes (rr) (48 + (nI j)) I).2)) else (nI j, (s_X2_takes (rr) (48 + (nI j)) I).2))
set_option maxHeartbeats 8000000 in
theorem x_X2_td (l : Launch) (b base : Nat) (D : va_G) (z : mj_K × (Int32 → Int32)) (N : Nat) (rr : Nat) (g : Int32) (e : Int32) (hrr : rr = 35 ∨ rr = 37 ∨ rr = 39 ∨ rr = 41) (c d : Nat) (he : e.toInt < 7) : ∀ (k j : Nat) (I : mj_I), k = 7 - j → 0 ≤ j → j ≤ 7 + 1 → mj_Rn l b base D z mj_m_X2_takeDigit 2 [.ref 18, .int g, .int e, .int (nI j)] [] (mj_KS N, I, mj_PP c d rr) (mj_E N (some (.int (s_X2_td rr g e k j  I).1)) (s_X2_td rr g e k j  I).2 (mj_PP c d rr)) := by
  rcases hrr with rfl | rfl | rfl | rfl
  · skip
    intro k
    induction k with
    | zero =>
      intro j I hk hlo hj
      refine R_seg (φ := []) (pc' := 4) (L' := [.ref 18, .int g, .int e, .int (nI j)]) (st' := [.int e, .int (nI j)]) (σ' := (mj_KS N, I, mj_PP c d (35))) 2 rfl trivial ?_
      refine R_br (q := (e : Int32) < nI j) (t := 26) (f := 7) (rest := []) rfl (fun h1 => ?_) (fun h1 => absurd (mj_e7 he (by omega) (by omega)) h1)
      refine R_seg (φ := []) (pc' := 27) (L' := [.ref 18, .int g, .int e, .int (nI j)]) (st' := [.int (-1)]) (σ' := (mj_KS N, I, mj_PP c d (35))) 1 rfl trivial ?_
      exact R_ri rfl rfl (mj_leaf (by simp only [s_X2_td, Bool.false_eq_true, ↓reduceIte, Nat.reduceAdd, Nat.reduceMul, mj_tn0, mj_tn1, mj_tn2, mj_tn3]) (by simp only [s_X2_td, Bool.false_eq_true, ↓reduceIte, Nat.reduceAdd, Nat.reduceMul, mj_tn0, mj_tn1, mj_tn2, mj_tn3]))
    | succ k ih =>
      intro j I hk hlo hj
      have hjm : j < 7 := by omega
      refine R_seg (φ := []) (pc' := 4) (L' := [.ref 18, .int g, .int e, .int (nI j)]) (st' := [.int e, .int (nI j)]) (σ' := (mj_KS N, I, mj_PP c d (35))) 2 rfl trivial ?_
      refine R_br (q := (e : Int32) < nI j) (t := 26) (f := 7) (rest := []) rfl (fun h1 => ?_) (fun h1 => ?_)
      · skip
        refine R_seg (φ := []) (pc' := 27) (L' := [.ref 18, .int g, .int e, .int (nI j)]) (st' := [.int (-1)]) (σ' := (mj_KS N, I, mj_PP c d (35))) 1 rfl trivial ?_
        exact R_ri rfl rfl (mj_leaf (by simp only [s_X2_td, if_pos h1, Bool.false_eq_true, ↓reduceIte, Nat.reduceAdd, Nat.reduceMul, mj_tn0, mj_tn1, mj_tn2, mj_tn3]) (by simp only [s_X2_td, if_pos h1, Bool.false_eq_true, ↓reduceIte, Nat.reduceAdd, Nat.reduceMul, mj_tn0, mj_tn1, mj_tn2, mj_tn3]))
      · skip
        refine R_seg (φ := []) (pc' := 12) (L' := [.ref 18, .int g, .int e, .int (nI j)]) (st' := [.int (48 + (nI j)), .ref 18]) (σ' := (mj_KS N, I, mj_PP c d (35))) 4 rfl trivial ?_
        refine R_ce (idx := 35) (mid := 25) (kind := 0) (N := N) (M' := mj_m_X2_takes) (As := [.ref 18, .int (48 + (nI j))]) (rest := []) (I := I) (P := mj_PP c d (35)) (I' := (s_X2_takes (35) (48 + (nI j)) I).2) (P' := mj_PP c d (35)) (v := some (.int ((s_X2_takes (35) (48 + (nI j)) I).1))) rfl rfl rfl mj_mc25 mj_dc25 rfl rfl rfl rfl rfl rfl (x_X2_takes l b base D z N (35) (48 + (nI j)) (by decide) I c d ) ?_
        refine R_seg (φ := []) (pc' := 15) (L' := [.ref 18, .int g, .int e, .int (nI j)]) (st' := [.int ((s_X2_takes (35) (48 + (nI j)) I).1)]) (σ' := (mj_KS N, (s_X2_takes (35) (48 + (nI j)) I).2, mj_PP c d (35))) 0 rfl trivial ?_
        refine R_br (q := ((s_X2_takes (35) (48 + (nI j)) I).1 : Int32) = 0) (t := 20) (f := 18) (rest := []) rfl (fun h2 => ?_) (fun h2 => ?_)
        · skip
          refine R_seg (φ := []) (pc' := 2) (L' := [.ref 18, .int g, .int e, .int ((nI j) + 1)]) (st' := []) (σ' := (mj_KS N, (s_X2_takes (35) (48 + (nI j)) I).2, mj_PP c d (35))) 2 rfl trivial ?_
          rw [nI_1 j]
          rw [show s_X2_td 35 g e (k + 1) j  I = s_X2_td 35 g e k (j + 1)  ((s_X2_takes (35) (48 + (nI j)) I).2) from by simp only [s_X2_td, if_neg h1, if_pos h2, Bool.false_eq_true, ↓reduceIte, Nat.reduceAdd, Nat.reduceMul, mj_tn0, mj_tn1, mj_tn2, mj_tn3]]
          exact ih (j + 1)  ((s_X2_takes (35) (48 + (nI j)) I).2) (by omega) (by omega) (by omega)
        · skip
          refine R_seg (φ := []) (pc' := 19) (L' := [.ref 18, .int g, .int e, .int (nI j)]) (st' := [.int (nI j)]) (σ' := (mj_KS N, (s_X2_takes (35) (48 + (nI j)) I).2, mj_PP c d (35))) 1 rfl trivial ?_
          exact R_ri rfl rfl (mj_leaf (by simp only [s_X2_td, if_neg h1, if_neg h2, Bool.false_eq_true, ↓reduceIte, Nat.reduceAdd, Nat.reduceMul, mj_tn0, mj_tn1, mj_tn2, mj_tn3]) (by simp only [s_X2_td, if_neg h1, if_neg h2, Bool.false_eq_true, ↓reduceIte, Nat.reduceAdd, Nat.reduceMul, mj_tn0, mj_tn1, mj_tn2, mj_tn3]))
  · skip
    intro k
    induction k with
    | zero =>
      intro j I hk hlo hj
      refine R_seg (φ := []) (pc' := 4) (L' := [.ref 18, .int g, .int e, .int (nI j)]) (st' := [.int e, .int (nI j)]) (σ' := (mj_KS N, I, mj_PP c d (37))) 2 rfl trivial ?_
      refine R_br (q := (e : Int32) < nI j) (t := 26) (f := 7) (rest := []) rfl (fun h1 => ?_) (fun h1 => absurd (mj_e7 he (by omega) (by omega)) h1)
      refine R_seg (φ := []) (pc' := 27) (L' := [.ref 18, .int g, .int e, .int (nI j)]) (st' := [.int (-1)]) (σ' := (mj_KS N, I, mj_PP c d (37))) 1 rfl trivial ?_
      exact R_ri rfl rfl (mj_leaf (by simp only [s_X2_td, Bool.false_eq_true, ↓reduceIte, Nat.reduceAdd, Nat.reduceMul, mj_tn0, mj_tn1, mj_tn2, mj_tn3]) (by simp only [s_X2_td, Bool.false_eq_true, ↓reduceIte, Nat.reduceAdd, Nat.reduceMul, mj_tn0, mj_tn1, mj_tn2, mj_tn3]))
    | succ k ih =>
      intro j I hk hlo hj
      have hjm : j < 7 := by omega
      refine R_seg (φ := []) (pc' := 4) (L' := [.ref 18, .int g, .int e, .int (nI j)]) (st' := [.int e, .int (nI j)]) (σ' := (mj_KS N, I, mj_PP c d (37))) 2 rfl trivial ?_
      refine R_br (q := (e : Int32) < nI j) (t := 26) (f := 7) (rest := []) rfl (fun h1 => ?_) (fun h1 => ?_)
      · skip
        refine R_seg (φ := []) (pc' := 27) (L' := [.ref 18, .int g, .int e, .int (nI j)]) (st' := [.int (-1)]) (σ' := (mj_KS N, I, mj_PP c d (37))) 1 rfl trivial ?_
        exact R_ri rfl rfl (mj_leaf (by simp only [s_X2_td, if_pos h1, Bool.false_eq_true, ↓reduceIte, Nat.reduceAdd, Nat.reduceMul, mj_tn0, mj_tn1, mj_tn2, mj_tn3]) (by simp only [s_X2_td, if_pos h1, Bool.false_eq_true, ↓reduceIte, Nat.reduceAdd, Nat.reduceMul, mj_tn0, mj_tn1, mj_tn2, mj_tn3]))
      · skip
        refine R_seg (φ := []) (pc' := 12) (L' := [.ref 18, .int g, .int e, .int (nI j)]) (st' := [.int (48 + (nI j)), .ref 18]) (σ' := (mj_KS N, I, mj_PP c d (37))) 4 rfl trivial ?_
        refine R_ce (idx := 35) (mid := 25) (kind := 0) (N := N) (M' := mj_m_X2_takes) (As := [.ref 18, .int (48 + (nI j))]) (rest := []) (I := I) (P := mj_PP c d (37)) (I' := (s_X2_takes (37) (48 + (nI j)) I).2) (P' := mj_PP c d (37)) (v := some (.int ((s_X2_takes (37) (48 + (nI j)) I).1))) rfl rfl rfl mj_mc25 mj_dc25 rfl rfl rfl rfl rfl rfl (x_X2_takes l b base D z N (37) (48 + (nI j)) (by decide) I c d ) ?_
        refine R_seg (φ := []) (pc' := 15) (L' := [.ref 18, .int g, .int e, .int (nI j)]) (st' := [.int ((s_X2_takes (37) (48 + (nI j)) I).1)]) (σ' := (mj_KS N, (s_X2_takes (37) (48 + (nI j)) I).2, mj_PP c d (37))) 0 rfl trivial ?_
        refine R_br (q := ((s_X2_takes (37) (48 + (nI j)) I).1 : Int32) = 0) (t := 20) (f := 18) (rest := []) rfl (fun h2 => ?_) (fun h2 => ?_)
        · skip
          refine R_seg (φ := []) (pc' := 2) (L' := [.ref 18, .int g, .int e, .int ((nI j) + 1)]) (st' := []) (σ' := (mj_KS N, (s_X2_takes (37) (48 + (nI j)) I).2, mj_PP c d (37))) 2 rfl trivial ?_
          rw [nI_1 j]
          rw [show s_X2_td 37 g e (k + 1) j  I = s_X2_td 37 g e k (j + 1)  ((s_X2_takes (37) (48 + (nI j)) I).2) from by simp only [s_X2_td, if_neg h1, if_pos h2, Bool.false_eq_true, ↓reduceIte, Nat.reduceAdd, Nat.reduceMul, mj_tn0, mj_tn1, mj_tn2, mj_tn3]]
          exact ih (j + 1)  ((s_X2_takes (37) (48 + (nI j)) I).2) (by omega) (by omega) (by omega)
        · skip
          refine R_seg (φ := []) (pc' := 19) (L' := [.ref 18, .int g, .int e, .int (nI j)]) (st' := [.int (nI j)]) (σ' := (mj_KS N, (s_X2_takes (37) (48 + (nI j)) I).2, mj_PP c d (37))) 1 rfl trivial ?_
          exact R_ri rfl rfl (mj_leaf (by simp only [s_X2_td, if_neg h1, if_neg h2, Bool.false_eq_true, ↓reduceIte, Nat.reduceAdd, Nat.reduceMul, mj_tn0, mj_tn1, mj_tn2, mj_tn3]) (by simp only [s_X2_td, if_neg h1, if_neg h2, Bool.false_eq_true, ↓reduceIte, Nat.reduceAdd, Nat.reduceMul, mj_tn0, mj_tn1, mj_tn2, mj_tn3]))
  · skip
    intro k
    induction k with
    | zero =>
      intro j I hk hlo hj
      refine R_seg (φ := []) (pc' := 4) (L' := [.ref 18, .int g, .int e, .int (nI j)]) (st' := [.int e, .int (nI j)]) (σ' := (mj_KS N, I, mj_PP c d (39))) 2 rfl trivial ?_
      refine R_br (q := (e : Int32) < nI j) (t := 26) (f := 7) (rest := []) rfl (fun h1 => ?_) (fun h1 => absurd (mj_e7 he (by omega) (by omega)) h1)
      refine R_seg (φ := []) (pc' := 27) (L' := [.ref 18, .int g, .int e, .int (nI j)]) (st' := [.int (-1)]) (σ' := (mj_KS N, I, mj_PP c d (39))) 1 rfl trivial ?_
      exact R_ri rfl rfl (mj_leaf (by simp only [s_X2_td, Bool.false_eq_true, ↓reduceIte, Nat.reduceAdd, Nat.reduceMul, mj_tn0, mj_tn1, mj_tn2, mj_tn3]) (by simp only [s_X2_td, Bool.false_eq_true, ↓reduceIte, Nat.reduceAdd, Nat.reduceMul, mj_tn0, mj_tn1, mj_tn2, mj_tn3]))
    | succ k ih =>
      intro j I hk hlo hj
      have hjm : j < 7 := by omega
      refine R_seg (φ := []) (pc' := 4) (L' := [.ref 18, .int g, .int e, .int (nI j)]) (st' := [.int e, .int (nI j)]) (σ' := (mj_KS N, I, mj_PP c d (39))) 2 rfl trivial ?_
      refine R_br (q := (e : Int32) < nI j) (t := 26) (f := 7) (rest := []) rfl (fun h1 => ?_) (fun h1 => ?_)
      · skip
        refine R_seg (φ := []) (pc' := 27) (L' := [.ref 18, .int g, .int e, .int (nI j)]) (st' := [.int (-1)]) (σ' := (mj_KS N, I, mj_PP c d (39))) 1 rfl trivial ?_
        exact R_ri rfl rfl (mj_leaf (by simp only [s_X2_td, if_pos h1, Bool.false_eq_true, ↓reduceIte, Nat.reduceAdd, Nat.reduceMul, mj_tn0, mj_tn1, mj_tn2, mj_tn3]) (by simp only [s_X2_td, if_pos h1, Bool.false_eq_true, ↓reduceIte, Nat.reduceAdd, Nat.reduceMul, mj_tn0, mj_tn1, mj_tn2, mj_tn3]))
      · skip
        refine R_seg (φ := []) (pc' := 12) (L' := [.ref 18, .int g, .int e, .int (nI j)]) (st' := [.int (48 + (nI j)), .ref 18]) (σ' := (mj_KS N, I, mj_PP c d (39))) 4 rfl trivial ?_
        refine R_ce (idx := 35) (mid := 25) (kind := 0) (N := N) (M' := mj_m_X2_takes) (As := [.ref 18, .int (48 + (nI j))]) (rest := []) (I := I) (P := mj_PP c d (39)) (I' := (s_X2_takes (39) (48 + (nI j)) I).2) (P' := mj_PP c d (39)) (v := some (.int ((s_X2_takes (39) (48 + (nI j)) I).1))) rfl rfl rfl mj_mc25 mj_dc25 rfl rfl rfl rfl rfl rfl (x_X2_takes l b base D z N (39) (48 + (nI j)) (by decide) I c d ) ?_
        refine R_seg (φ := []) (pc' := 15) (L' := [.ref 18, .int g, .int e, .int (nI j)]) (st' := [.int ((s_X2_takes (39) (48 + (nI j)) I).1)]) (σ' := (mj_KS N, (s_X2_takes (39) (48 + (nI j)) I).2, mj_PP c d (39))) 0 rfl trivial ?_
        refine R_br (q := ((s_X2_takes (39) (48 + (nI j)) I).1 : Int32) = 0) (t := 20) (f := 18) (rest := []) rfl (fun h2 => ?_) (fun h2 => ?_)
        · skip
          refine R_seg (φ := []) (pc' := 2) (L' := [.ref 18, .int g, .int e, .int ((nI j) + 1)]) (st' := []) (σ' := (mj_KS N, (s_X2_takes (39) (48 + (nI j)) I).2, mj_PP c d (39))) 2 rfl trivial ?_
          rw [nI_1 j]
          rw [show s_X2_td 39 g e (k + 1) j  I = s_X2_td 39 g e k (j + 1)  ((s_X2_takes (39) (48 + (nI j)) I).2) from by simp only [s_X2_td, if_neg h1, if_pos h2, Bool.false_eq_true, ↓reduceIte, Nat.reduceAdd, Nat.reduceMul, mj_tn0, mj_tn1, mj_tn2, mj_tn3]]
          exact ih (j + 1)  ((s_X2_takes (39) (48 + (nI j)) I).2) (by omega) (by omega) (by omega)
        · skip
          refine R_seg (φ := []) (pc' := 19) (L' := [.ref 18, .int g, .int e, .int (nI j)]) (st' := [.int (nI j)]) (σ' := (mj_KS N, (s_X2_takes (39) (48 + (nI j)) I).2, mj_PP c d (39))) 1 rfl trivial ?_
          exact R_ri rfl rfl (mj_leaf (by simp only [s_X2_td, if_neg h1, if_neg h2, Bool.false_eq_true, ↓reduceIte, Nat.reduceAdd, Nat.reduceMul, mj_tn0, mj_tn1, mj_tn2, mj_tn3]) (by simp only [s_X2_td, if_neg h1, if_neg h2, Bool.false_eq_true, ↓reduceIte, Nat.reduceAdd, Nat.reduceMul, mj_tn0, mj_tn1, mj_tn2, mj_tn3]))
  · skip
    intro k
    induction k with
    | zero =>
      intro j I hk hlo hj
      refine R_seg (φ := []) (pc' := 4) (L' := [.ref 18, .int g, .int e, .int (nI j)]) (st' := [.int e, .int (nI j)]) (σ' := (mj_KS N, I, mj_PP c d (41))) 2 rfl trivial ?_
      refine R_br (q := (e : Int32) < nI j) (t := 26) (f := 7) (rest := []) rfl (fun h1 => ?_) (fun h1 => absurd (mj_e7 he (by omega) (by omega)) h1)
      refine R_seg (φ := []) (pc' := 27) (L' := [.ref 18, .int g, .int e, .int (nI j)]) (st' := [.int (-1)]) (σ' := (mj_KS N, I, mj_PP c d (41))) 1 rfl trivial ?_
      exact R_ri rfl rfl (mj_leaf (by simp only [s_X2_td, Bool.false_eq_true, ↓reduceIte, Nat.reduceAdd, Nat.reduceMul, mj_tn0, mj_tn1, mj_tn2, mj_tn3]) (by simp only [s_X2_td, Bool.false_eq_true, ↓reduceIte, Nat.reduceAdd, Nat.reduceMul, mj_tn0, mj_tn1, mj_tn2, mj_tn3]))
    | succ k ih =>
      intro j I hk hlo hj
      have hjm : j < 7 := by omega
      refine R_seg (φ := []) (pc' := 4) (L' := [.ref 18, .int g, .int e, .int (nI j)]) (st' := [.int e, .int (nI j)]) (σ' := (mj_KS N, I, mj_PP c d (41))) 2 rfl trivial ?_
      refine R_br (q := (e : Int32) < nI j) (t := 26) (f := 7) (rest := []) rfl (fun h1 => ?_) (fun h1 => ?_)
      · skip
        refine R_seg (φ := []) (pc' := 27) (L' := [.ref 18, .int g, .int e, .int (nI j)]) (st' := [.int (-1)]) (σ' := (mj_KS N, I, mj_PP c d (41))) 1 rfl trivial ?_
        exact R_ri rfl rfl (mj_leaf (by simp only [s_X2_td, if_pos h1, Bool.false_eq_true, ↓reduceIte, Nat.reduceAdd, Nat.reduceMul, mj_tn0, mj_tn1, mj_tn2, mj_tn3]) (by simp only [s_X2_td, if_pos h1, Bool.false_eq_true, ↓reduceIte, Nat.reduceAdd, Nat.reduceMul, mj_tn0, mj_tn1, mj_tn2, mj_tn3]))
      · skip
        refine R_seg (φ := []) (pc' := 12) (L' := [.ref 18, .int g, .int e, .int (nI j)]) (st' := [.int (48 + (nI j)), .ref 18]) (σ' := (mj_KS N, I, mj_PP c d (41))) 4 rfl trivial ?_
        refine R_ce (idx := 35) (mid := 25) (kind := 0) (N := N) (M' := mj_m_X2_takes) (As := [.ref 18, .int (48 + (nI j))]) (rest := []) (I := I) (P := mj_PP c d (41)) (I' := (s_X2_takes (41) (48 + (nI j)) I).2) (P' := mj_PP c d (41)) (v := some (.int ((s_X2_takes (41) (48 + (nI j)) I).1))) rfl rfl rfl mj_mc25 mj_dc25 rfl rfl rfl rfl rfl rfl (x_X2_takes l b base D z N (41) (48 + (nI j)) (by decide) I c d ) ?_
        refine R_seg (φ := []) (pc' := 15) (L' := [.ref 18, .int g, .int e, .int (nI j)]) (st' := [.int ((s_X2_takes (41) (48 + (nI j)) I).1)]) (σ' := (mj_KS N, (s_X2_takes (41) (48 + (nI j)) I).2, mj_PP c d (41))) 0 rfl trivial ?_
        refine R_br (q := ((s_X2_takes (41) (48 + (nI j)) I).1 : Int32) = 0) (t := 20) (f := 18) (rest := []) rfl (fun h2 => ?_) (fun h2 => ?_)
        · skip
          refine R_seg (φ := []) (pc' := 2) (L' := [.ref 18, .int g, .int e, .int ((nI j) + 1)]) (st' := []) (σ' := (mj_KS N, (s_X2_takes (41) (48 + (nI j)) I).2, mj_PP c d (41))) 2 rfl trivial ?_
          rw [nI_1 j]
          rw [show s_X2_td 41 g e (k + 1) j  I = s_X2_td 41 g e k (j + 1)  ((s_X2_takes (41) (48 + (nI j)) I).2) from by simp only [s_X2_td, if_neg h1, if_pos h2, Bool.false_eq_true, ↓reduceIte, Nat.reduceAdd, Nat.reduceMul, mj_tn0, mj_tn1, mj_tn2, mj_tn3]]
          exact ih (j + 1)  ((s_X2_takes (41) (48 + (nI j)) I).2) (by omega) (by omega) (by omega)
        · skip
          refine R_seg (φ := []) (pc' := 19) (L' := [.ref 18, .int g, .int e, .int (nI j)]) (st' := [.int (nI j)]) (σ' := (mj_KS N, (s_X2_takes (41) (48 + (nI j)) I).2, mj_PP c d (41))) 1 rfl trivial ?_
          exact R_ri rfl rfl (mj_leaf (by simp only [s_X2_td, if_neg h1, if_neg h2, Bool.false_eq_true, ↓reduceIte, Nat.reduceAdd, Nat.reduceMul, mj_tn0, mj_tn1, mj_tn2, mj_tn3]) (by simp only [s_X2_td, if_neg h1, if_neg h2, Bool.false_eq_true, ↓reduceIte, Nat.reduceAdd, Nat.reduceMul, mj_tn0, mj_tn1, mj_tn2, mj_tn3]))
def s_X2_takeDigit (rr : Nat) (t : Nat) (e : Int32) (I : mj_I) : Int32 × mj_I := ((s_X2_td (rr) (nI t) e (7 - t) t  I).1, (s_X2_td (rr) (nI t) e (7 - t) t  I).2)
set_option maxHeartbeats 8000000 in
theorem x_X2_takeDigit (l : Launch) (b base : Nat) (D : va_G) (z : mj_K × (Int32 → Int32)) (N : Nat) (rr : Nat) (t : Nat) (e : Int32) (hrr : rr = 35 ∨ rr = 37 ∨ rr = 39 ∨ rr = 41) (I : mj_I) (c d : Nat) (he : e.toInt < 7) (ht : t < 7) : mj_Rn l b base D z mj_m_X2_takeDigit 0 [.ref 18, .int (nI t), .int e, mj_mk] [] (mj_KS N, I, mj_PP c d rr) (mj_E N (some (.int (s_X2_takeDigit rr t e I).1)) (s_X2_takeDigit rr t e I).2 (mj_PP c d rr)) := by
  rcases hrr with rfl | rfl | rfl | rfl
  · skip
    refine R_seg (φ := []) (pc' := 2) (L' := [.ref 18, .int (nI t), .int e, .int (nI t)]) (st' := []) (σ' := (mj_KS N, I, mj_PP c d (35))) 2 rfl trivial ?_
    exact x_X2_td l b base D z N (35) (nI t) e (by decide) c d he (7 - t) t  I (by omega) (by omega) (by omega)
  · skip
    refine R_seg (φ := []) (pc' := 2) (L' := [.ref 18, .int (nI t), .int e, .int (nI t)]) (st' := []) (σ' := (mj_KS N, I, mj_PP c d (37))) 2 rfl trivial ?_
    exact x_X2_td l b base D z N (37) (nI t) e (by decide) c d he (7 - t) t  I (by omega) (by omega) (by omega)
  · skip
    refine R_seg (φ := []) (pc' := 2) (L' := [.ref 18, .int (nI t), .int e, .int (nI t)]) (st' := []) (σ' := (mj_KS N, I, mj_PP c d (39))) 2 rfl trivial ?_
    exact x_X2_td l b base D z N (39) (nI t) e (by decide) c d he (7 - t) t  I (by omega) (by omega) (by omega)
  · skip
    refine R_seg (φ := []) (pc' := 2) (L' := [.ref 18, .int (nI t), .int e, .int (nI t)]) (st' := []) (σ' := (mj_KS N, I, mj_PP c d (41))) 2 rfl trivial ?_
    exact x_X2_td l b base D z N (41) (nI t) e (by decide) c d he (7 - t) t  I (by omega) (by omega) (by omega)
theorem mj_td_l (rr : Nat) (g e : Int32) (he : e.toInt < 7) : ∀ (k j : Nat) (I : mj_I), k = 7 - j → ((s_X2_td rr g e k j I).1 = -1 ∨ ∃ t : Nat, j ≤ t ∧ (t : Int) ≤ e.toInt ∧ (s_X2_td rr g e k j I).1 = nI t) ∧ ∀ x, x ≠ 18 → (s_X2_td rr g e k j I).2 x = I x := by
  intro k
  induction k with
  | zero => intro j I _; exact ⟨Or.inl rfl, fun _ _ => rfl⟩
  | succ k ih =>
    intro j I hk
    by_cases h1 : e < nI j
    · rw [s_X2_td, if_pos h1]; exact ⟨Or.inl rfl, fun _ _ => rfl⟩
    · by_cases h2 : (s_X2_takes rr (48 + nI j) I).1 = 0
      · simp only [s_X2_td, if_neg h1, if_pos h2]
        obtain ⟨a, b⟩ := ih (j + 1) (s_X2_takes rr (48 + nI j) I).2 (by omega)
        refine ⟨?_, fun x hx => by rw [b x hx, mj_tk_fr _ _ _ _ hx]⟩
        rcases a with a | ⟨t, h3, h4, h5⟩
        · exact Or.inl a
        · exact Or.inr ⟨t, by omega, h4, h5⟩
      · simp only [s_X2_td, if_neg h1, if_neg h2]
        refine ⟨Or.inr ⟨j, Nat.le_refl _, ?_, rfl⟩, fun x hx => mj_tk_fr _ _ _ _ hx⟩
        have := mj_iN h1
        rw [nI_toInt (by omega)] at this
        exact this
theorem mj_td_ok (rr t : Nat) (e : Int32) (he : e.toInt < 7) (I : mj_I) : (s_X2_takeDigit rr t e I).1 = -1 ∨ ∃ u : Nat, t ≤ u ∧ (u : Int) ≤ e.toInt ∧ (s_X2_takeDigit rr t e I).1 = nI u := (mj_td_l rr _ e he _ t I rfl).1
theorem mj_td_fr (rr t : Nat) (e : Int32) (he : e.toInt < 7) (I : mj_I) (x : Nat) (hx : x ≠ 18) : (s_X2_takeDigit rr t e I).2 x = I x := (mj_td_l rr _ e he _ t I rfl).2 x hx
theorem mj_td_in {rr t : Nat} {e : Int32} {I : mj_I} (he : e.toInt < 6) (h : ¬ (s_X2_takeDigit rr t e I).1 < 0) : mj_in (s_X2_takeDigit rr t e I).1 6 := by
  rcases mj_td_ok rr t e (by omega) I with q | ⟨u, h1, h2, h3⟩
  · rw [q] at h; exact absurd (show (-1 : Int32) < 0 by decide) h
  · rw [h3]; exact mj_in_nI (by omega) (by omega)
theorem mj_eN {e : Int32} {m j : Nat} (he : e.toInt ≤ (m : Int)) (hj : ¬ j < m) (h2 : j ≤ m + 1) (h3 : m ≤ 6) : ¬ nI j < e := by
  intro h
  have := mj_iL h
  rw [nI_toInt (by omega)] at this
  omega
def s_X2_rs (rr : Nat) (x : Nat) (m : Nat) (e : Int32) : Nat → Nat → mj_I → Int32 × mj_I
  | 0, j, I => (1, I)
  | k + 1, j, I => if (nI j : Int32) < e then (if ((s_X2_takeDigit (rr) 0 3 I).1 : Int32) < 0 then (0, (s_X2_takeDigit (rr) 0 3 I).2) else (s_X2_rs rr x m e k (j + 1)  (mj_upI ((s_X2_takeDigit (rr) 0 3 I).2) x (nI j) ((s_X2_takeDigit (rr) 0 3 I).1)))) else (1, I)
set_option maxHeartbeats 8000000 in
theorem x_X2_rs (l : Launch) (b base : Nat) (D : va_G) (z : mj_K × (Int32 → Int32)) (N : Nat) (rr : Nat) (x : Nat) (m : Nat) (e : Int32) (hrr : rr = 35 ∨ rr = 37 ∨ rr = 39 ∨ rr = 41) (hx : x = 3 ∨ x = 11 ∨ x = 7 ∨ x = 8 ∨ x = 9 ∨ x = 15 ∨ x = 16 ∨ x = 17) (c d : Nat) (hm : m ≤ 6) (he : e.toInt ≤ (m : Int)) (hmx : m ≤ (if x = 3 ∨ x = 11 then 6 else 3)) : ∀ (k j : Nat) (w4 : Value) (I : mj_I), k = m - j → 0 ≤ j → j ≤ m + 1 → mj_Rn l b base D z mj_m_X2_readsSeasons 2 [.ref 18, .ref x, .int e, .int (nI j), w4] [] (mj_KS N, I, mj_PP c d rr) (mj_E N (some (.int (s_X2_rs rr x m e k j  I).1)) (s_X2_rs rr x m e k j  I).2 (mj_PP c d rr)) := by
  rcases hrr with rfl | rfl | rfl | rfl <;> rcases hx with rfl | rfl | rfl | rfl | rfl | rfl | rfl | rfl
  · skip
    intro k
    induction k with
    | zero =>
      intro j w4 I hk hlo hj
      refine R_seg (φ := []) (pc' := 4) (L' := [.ref 18, .ref 3, .int e, .int (nI j), w4]) (st' := [.int e, .int (nI j)]) (σ' := (mj_KS N, I, mj_PP c d (35))) 2 rfl trivial ?_
      refine R_br (q := (nI j : Int32) < e) (t := 7) (f := 33) (rest := []) rfl (fun h1 => absurd h1 (mj_eN he (by omega) hj hm)) (fun h1 => ?_)
      refine R_seg (φ := []) (pc' := 34) (L' := [.ref 18, .ref 3, .int e, .int (nI j), w4]) (st' := [.int 1]) (σ' := (mj_KS N, I, mj_PP c d (35))) 1 rfl trivial ?_
      exact R_rb rfl rfl (Or.inr rfl) (mj_leaf (by simp only [s_X2_rs, Bool.false_eq_true, ↓reduceIte, Nat.reduceAdd, Nat.reduceMul, mj_tn0, mj_tn1, mj_tn2, mj_tn3]) (by simp only [s_X2_rs, Bool.false_eq_true, ↓reduceIte, Nat.reduceAdd, Nat.reduceMul, mj_tn0, mj_tn1, mj_tn2, mj_tn3]))
    | succ k ih =>
      intro j w4 I hk hlo hj
      have hjm : j < m := by omega
      refine R_seg (φ := []) (pc' := 4) (L' := [.ref 18, .ref 3, .int e, .int (nI j), w4]) (st' := [.int e, .int (nI j)]) (σ' := (mj_KS N, I, mj_PP c d (35))) 2 rfl trivial ?_
      refine R_br (q := (nI j : Int32) < e) (t := 7) (f := 33) (rest := []) rfl (fun h1 => ?_) (fun h1 => ?_)
      · skip
        refine R_seg (φ := []) (pc' := 10) (L' := [.ref 18, .ref 3, .int e, .int (nI j), w4]) (st' := [.int 3, .int 0, .ref 18]) (σ' := (mj_KS N, I, mj_PP c d (35))) 3 rfl trivial ?_
        refine R_ce (idx := 39) (mid := 26) (kind := 0) (N := N) (M' := mj_m_X2_takeDigit) (As := [.ref 18, .int 0, .int 3]) (rest := []) (I := I) (P := mj_PP c d (35)) (I' := (s_X2_takeDigit (35) 0 3 I).2) (P' := mj_PP c d (35)) (v := some (.int ((s_X2_takeDigit (35) 0 3 I).1))) rfl rfl rfl mj_mc26 mj_dc26 rfl rfl rfl rfl rfl rfl (x_X2_takeDigit l b base D z N (35) 0 3 (by decide) I c d (by decide) (by decide)) ?_
        refine R_seg (φ := []) (pc' := 17) (L' := [.ref 18, .ref 3, .int e, .int (nI j), .int ((s_X2_takeDigit (35) 0 3 I).1)]) (st' := [.int ((s_X2_takeDigit (35) 0 3 I).1)]) (σ' := (mj_KS N, (s_X2_takeDigit (35) 0 3 I).2, mj_PP c d (35))) 2 rfl trivial ?_
        refine R_br (q := ((s_X2_takeDigit (35) 0 3 I).1 : Int32) < 0) (t := 20) (f := 22) (rest := []) rfl (fun h2 => ?_) (fun h2 => ?_)
        · skip
          refine R_seg (φ := []) (pc' := 21) (L' := [.ref 18, .ref 3, .int e, .int (nI j), .int ((s_X2_takeDigit (35) 0 3 I).1)]) (st' := [.int 0]) (σ' := (mj_KS N, (s_X2_takeDigit (35) 0 3 I).2, mj_PP c d (35))) 1 rfl trivial ?_
          exact R_rb rfl rfl (Or.inl rfl) (mj_leaf (by simp only [s_X2_rs, if_pos h1, if_pos h2, Bool.false_eq_true, ↓reduceIte, Nat.reduceAdd, Nat.reduceMul, mj_tn0, mj_tn1, mj_tn2, mj_tn3]) (by simp only [s_X2_rs, if_pos h1, if_pos h2, Bool.false_eq_true, ↓reduceIte, Nat.reduceAdd, Nat.reduceMul, mj_tn0, mj_tn1, mj_tn2, mj_tn3]))
        · skip
          refine R_seg (φ := [mj_in (nI j) 6]) (pc' := 2) (L' := [.ref 18, .ref 3, .int e, .int ((nI j) + 1), .int ((s_X2_takeDigit (35) 0 3 I).1)]) (st' := []) (σ' := (mj_KS N, (mj_upI ((s_X2_takeDigit (35) 0 3 I).2) 3 (nI j) ((s_X2_takeDigit (35) 0 3 I).1)), mj_PP c d (35))) 6 rfl ⟨mj_in_nI (Nat.lt_of_lt_of_le hjm hmx) (by decide), trivial⟩ ?_
          rw [nI_1 j]
          rw [show s_X2_rs 35 3 m e (k + 1) j  I = s_X2_rs 35 3 m e k (j + 1)  (mj_upI ((s_X2_takeDigit (35) 0 3 I).2) 3 (nI j) ((s_X2_takeDigit (35) 0 3 I).1)) from by simp only [s_X2_rs, if_pos h1, if_neg h2, Bool.false_eq_true, ↓reduceIte, Nat.reduceAdd, Nat.reduceMul, mj_tn0, mj_tn1, mj_tn2, mj_tn3]]
          exact ih (j + 1)  (.int ((s_X2_takeDigit (35) 0 3 I).1)) (mj_upI ((s_X2_takeDigit (35) 0 3 I).2) 3 (nI j) ((s_X2_takeDigit (35) 0 3 I).1)) (by omega) (by omega) (by omega)
      · skip
        refine R_seg (φ := []) (pc' := 34) (L' := [.ref 18, .ref 3, .int e, .int (nI j), w4]) (st' := [.int 1]) (σ' := (mj_KS N, I, mj_PP c d (35))) 1 rfl trivial ?_
        exact R_rb rfl rfl (Or.inr rfl) (mj_leaf (by simp only [s_X2_rs, if_neg h1, Bool.false_eq_true, ↓reduceIte, Nat.reduceAdd, Nat.reduceMul, mj_tn0, mj_tn1, mj_tn2, mj_tn3]) (by simp only [s_X2_rs, if_neg h1, Bool.false_eq_true, ↓reduceIte, Nat.reduceAdd, Nat.reduceMul, mj_tn0, mj_tn1, mj_tn2, mj_tn3]))
  · skip
    intro k
    induction k with
    | zero =>
      intro j w4 I hk hlo hj
      refine R_seg (φ := []) (pc' := 4) (L' := [.ref 18, .ref 11, .int e, .int (nI j), w4]) (st' := [.int e, .int (nI j)]) (σ' := (mj_KS N, I, mj_PP c d (35))) 2 rfl trivial ?_
      refine R_br (q := (nI j : Int32) < e) (t := 7) (f := 33) (rest := []) rfl (fun h1 => absurd h1 (mj_eN he (by omega) hj hm)) (fun h1 => ?_)
      refine R_seg (φ := []) (pc' := 34) (L' := [.ref 18, .ref 11, .int e, .int (nI j), w4]) (st' := [.int 1]) (σ' := (mj_KS N, I, mj_PP c d (35))) 1 rfl trivial ?_
      exact R_rb rfl rfl (Or.inr rfl) (mj_leaf (by simp only [s_X2_rs, Bool.false_eq_true, ↓reduceIte, Nat.reduceAdd, Nat.reduceMul, mj_tn0, mj_tn1, mj_tn2, mj_tn3]) (by simp only [s_X2_rs, Bool.false_eq_true, ↓reduceIte, Nat.reduceAdd, Nat.reduceMul, mj_tn0, mj_tn1, mj_tn2, mj_tn3]))
    | succ k ih =>
      intro j w4 I hk hlo hj
      have hjm : j < m := by omega
      refine R_seg (φ := []) (pc' := 4) (L' := [.ref 18, .ref 11, .int e, .int (nI j), w4]) (st' := [.int e, .int (nI j)]) (σ' := (mj_KS N, I, mj_PP c d (35))) 2 rfl trivial ?_
      refine R_br (q := (nI j : Int32) < e) (t := 7) (f := 33) (rest := []) rfl (fun h1 => ?_) (fun h1 => ?_)
      · skip
        refine R_seg (φ := []) (pc' := 10) (L' := [.ref 18, .ref 11, .int e, .int (nI j), w4]) (st' := [.int 3, .int 0, .ref 18]) (σ' := (mj_KS N, I, mj_PP c d (35))) 3 rfl trivial ?_
        refine R_ce (idx := 39) (mid := 26) (kind := 0) (N := N) (M' := mj_m_X2_takeDigit) (As := [.ref 18, .int 0, .int 3]) (rest := []) (I := I) (P := mj_PP c d (35)) (I' := (s_X2_takeDigit (35) 0 3 I).2) (P' := mj_PP c d (35)) (v := some (.int ((s_X2_takeDigit (35) 0 3 I).1))) rfl rfl rfl mj_mc26 mj_dc26 rfl rfl rfl rfl rfl rfl (x_X2_takeDigit l b base D z N (35) 0 3 (by decide) I c d (by decide) (by decide)) ?_
        refine R_seg (φ := []) (pc' := 17) (L' := [.ref 18, .ref 11, .int e, .int (nI j), .int ((s_X2_takeDigit (35) 0 3 I).1)]) (st' := [.int ((s_X2_takeDigit (35) 0 3 I).1)]) (σ' := (mj_KS N, (s_X2_takeDigit (35) 0 3 I).2, mj_PP c d (35))) 2 rfl trivial ?_
        refine R_br (q := ((s_X2_takeDigit (35) 0 3 I).1 : Int32) < 0) (t := 20) (f := 22) (rest := []) rfl (fun h2 => ?_) (fun h2 => ?_)
        · skip
          refine R_seg (φ := []) (pc' := 21) (L' := [.ref 18, .ref 11, .int e, .int (nI j), .int ((s_X2_takeDigit (35) 0 3 I).1)]) (st' := [.int 0]) (σ' := (mj_KS N, (s_X2_takeDigit (35) 0 3 I).2, mj_PP c d (35))) 1 rfl trivial ?_
          exact R_rb rfl rfl (Or.inl rfl) (mj_leaf (by simp only [s_X2_rs, if_pos h1, if_pos h2, Bool.false_eq_true, ↓reduceIte, Nat.reduceAdd, Nat.reduceMul, mj_tn0, mj_tn1, mj_tn2, mj_tn3]) (by simp only [s_X2_rs, if_pos h1, if_pos h2, Bool.false_eq_true, ↓reduceIte, Nat.reduceAdd, Nat.reduceMul, mj_tn0, mj_tn1, mj_tn2, mj_tn3]))
        · skip
          refine R_seg (φ := [mj_in (nI j) 6]) (pc' := 2) (L' := [.ref 18, .ref 11, .int e, .int ((nI j) + 1), .int ((s_X2_takeDigit (35) 0 3 I).1)]) (st' := []) (σ' := (mj_KS N, (mj_upI ((s_X2_takeDigit (35) 0 3 I).2) 11 (nI j) ((s_X2_takeDigit (35) 0 3 I).1)), mj_PP c d (35))) 6 rfl ⟨mj_in_nI (Nat.lt_of_lt_of_le hjm hmx) (by decide), trivial⟩ ?_
          rw [nI_1 j]
          rw [show s_X2_rs 35 11 m e (k + 1) j  I = s_X2_rs 35 11 m e k (j + 1)  (mj_upI ((s_X2_takeDigit (35) 0 3 I).2) 11 (nI j) ((s_X2_takeDigit (35) 0 3 I).1)) from by simp only [s_X2_rs, if_pos h1, if_neg h2, Bool.false_eq_true, ↓reduceIte, Nat.reduceAdd, Nat.reduceMul, mj_tn0, mj_tn1, mj_tn2, mj_tn3]]
          exact ih (j + 1)  (.int ((s_X2_takeDigit (35) 0 3 I).1)) (mj_upI ((s_X2_takeDigit (35) 0 3 I).2) 11 (nI j) ((s_X2_takeDigit (35) 0 3 I).1)) (by omega) (by omega) (by omega)
      · skip
        refine R_seg (φ := []) (pc' := 34) (L' := [.ref 18, .ref 11, .int e, .int (nI j), w4]) (st' := [.int 1]) (σ' := (mj_KS N, I, mj_PP c d (35))) 1 rfl trivial ?_
        exact R_rb rfl rfl (Or.inr rfl) (mj_leaf (by simp only [s_X2_rs, if_neg h1, Bool.false_eq_true, ↓reduceIte, Nat.reduceAdd, Nat.reduceMul, mj_tn0, mj_tn1, mj_tn2, mj_tn3]) (by simp only [s_X2_rs, if_neg h1, Bool.false_eq_true, ↓reduceIte, Nat.reduceAdd, Nat.reduceMul, mj_tn0, mj_tn1, mj_tn2, mj_tn3]))
  · skip
    intro k
    induction k with
    | zero =>
      intro j w4 I hk hlo hj
      refine R_seg (φ := []) (pc' := 4) (L' := [.ref 18, .ref 7, .int e, .int (nI j), w4]) (st' := [.int e, .int (nI j)]) (σ' := (mj_KS N, I, mj_PP c d (35))) 2 rfl trivial ?_
      refine R_br (q := (nI j : Int32) < e) (t := 7) (f := 33) (rest := []) rfl (fun h1 => absurd h1 (mj_eN he (by omega) hj hm)) (fun h1 => ?_)
      refine R_seg (φ := []) (pc' := 34) (L' := [.ref 18, .ref 7, .int e, .int (nI j), w4]) (st' := [.int 1]) (σ' := (mj_KS N, I, mj_PP c d (35))) 1 rfl trivial ?_
      exact R_rb rfl rfl (Or.inr rfl) (mj_leaf (by simp only [s_X2_rs, Bool.false_eq_true, ↓reduceIte, Nat.reduceAdd, Nat.reduceMul, mj_tn0, mj_tn1, mj_tn2, mj_tn3]) (by simp only [s_X2_rs, Bool.false_eq_true, ↓reduceIte, Nat.reduceAdd, Nat.reduceMul, mj_tn0, mj_tn1, mj_tn2, mj_tn3]))
    | succ k ih =>
      intro j w4 I hk hlo hj
      have hjm : j < m := by omega
      refine R_seg (φ := []) (pc' := 4) (L' := [.ref 18, .ref 7, .int e, .int (nI j), w4]) (st' := [.int e, .int (nI j)]) (σ' := (mj_KS N, I, mj_PP c d (35))) 2 rfl trivial ?_
      refine R_br (q := (nI j : Int32) < e) (t := 7) (f := 33) (rest := []) rfl (fun h1 => ?_) (fun h1 => ?_)
      · skip
        refine R_seg (φ := []) (pc' := 10) (L' := [.ref 18, .ref 7, .int e, .int (nI j), w4]) (st' := [.int 3, .int 0, .ref 18]) (σ' := (mj_KS N, I, mj_PP c d (35))) 3 rfl trivial ?_
        refine R_ce (idx := 39) (mid := 26) (kind := 0) (N := N) (M' := mj_m_X2_takeDigit) (As := [.ref 18, .int 0, .int 3]) (rest := []) (I := I) (P := mj_PP c d (35)) (I' := (s_X2_takeDigit (35) 0 3 I).2) (P' := mj_PP c d (35)) (v := some (.int ((s_X2_takeDigit (35) 0 3 I).1))) rfl rfl rfl mj_mc26 mj_dc26 rfl rfl rfl rfl rfl rfl (x_X2_takeDigit l b base D z N (35) 0 3 (by decide) I c d (by decide) (by decide)) ?_
        refine R_seg (φ := []) (pc' := 17) (L' := [.ref 18, .ref 7, .int e, .int (nI j), .int ((s_X2_takeDigit (35) 0 3 I).1)]) (st' := [.int ((s_X2_takeDigit (35) 0 3 I).1)]) (σ' := (mj_KS N, (s_X2_takeDigit (35) 0 3 I).2, mj_PP c d (35))) 2 rfl trivial ?_
        refine R_br (q := ((s_X2_takeDigit (35) 0 3 I).1 : Int32) < 0) (t := 20) (f := 22) (rest := []) rfl (fun h2 => ?_) (fun h2 => ?_)
        · skip
          refine R_seg (φ := []) (pc' := 21) (L' := [.ref 18, .ref 7, .int e, .int (nI j), .int ((s_X2_takeDigit (35) 0 3 I).1)]) (st' := [.int 0]) (σ' := (mj_KS N, (s_X2_takeDigit (35) 0 3 I).2, mj_PP c d (35))) 1 rfl trivial ?_
          exact R_rb rfl rfl (Or.inl rfl) (mj_leaf (by simp only [s_X2_rs, if_pos h1, if_pos h2, Bool.false_eq_true, ↓reduceIte, Nat.reduceAdd, Nat.reduceMul, mj_tn0, mj_tn1, mj_tn2, mj_tn3]) (by simp only [s_X2_rs, if_pos h1, if_pos h2, Bool.false_eq_true, ↓reduceIte, Nat.reduceAdd, Nat.reduceMul, mj_tn0, mj_tn1, mj_tn2, mj_tn3]))
        · skip
          refine R_seg (φ := [mj_in (nI j) 3]) (pc' := 2) (L' := [.ref 18, .ref 7, .int e, .int ((nI j) + 1), .int ((s_X2_takeDigit (35) 0 3 I).1)]) (st' := []) (σ' := (mj_KS N, (mj_upI ((s_X2_takeDigit (35) 0 3 I).2) 7 (nI j) ((s_X2_takeDigit (35) 0 3 I).1)), mj_PP c d (35))) 6 rfl ⟨mj_in_nI (Nat.lt_of_lt_of_le hjm hmx) (by decide), trivial⟩ ?_
          rw [nI_1 j]
          rw [show s_X2_rs 35 7 m e (k + 1) j  I = s_X2_rs 35 7 m e k (j + 1)  (mj_upI ((s_X2_takeDigit (35) 0 3 I).2) 7 (nI j) ((s_X2_takeDigit (35) 0 3 I).1)) from by simp only [s_X2_rs, if_pos h1, if_neg h2, Bool.false_eq_true, ↓reduceIte, Nat.reduceAdd, Nat.reduceMul, mj_tn0, mj_tn1, mj_tn2, mj_tn3]]
          exact ih (j + 1)  (.int ((s_X2_takeDigit (35) 0 3 I).1)) (mj_upI ((s_X2_takeDigit (35) 0 3 I).2) 7 (nI j) ((s_X2_takeDigit (35) 0 3 I).1)) (by omega) (by omega) (by omega)
      · skip
        refine R_seg (φ := []) (pc' := 34) (L' := [.ref 18, .ref 7, .int e, .int (nI j), w4]) (st' := [.int 1]) (σ' := (mj_KS N, I, mj_PP c d (35))) 1 rfl trivial ?_
        exact R_rb rfl rfl (Or.inr rfl) (mj_leaf (by simp only [s_X2_rs, if_neg h1, Bool.false_eq_true, ↓reduceIte, Nat.reduceAdd, Nat.reduceMul, mj_tn0, mj_tn1, mj_tn2, mj_tn3]) (by simp only [s_X2_rs, if_neg h1, Bool.false_eq_true, ↓reduceIte, Nat.reduceAdd, Nat.reduceMul, mj_tn0, mj_tn1, mj_tn2, mj_tn3]))
  · skip
    intro k
    induction k with
    | zero =>
      intro j w4 I hk hlo hj
      refine R_seg (φ := []) (pc' := 4) (L' := [.ref 18, .ref 8, .int e, .int (nI j), w4]) (st' := [.int e, .int (nI j)]) (σ' := (mj_KS N, I, mj_PP c d (35))) 2 rfl trivial ?_
      refine R_br (q := (nI j : Int32) < e) (t := 7) (f := 33) (rest := []) rfl (fun h1 => absurd h1 (mj_eN he (by omega) hj hm)) (fun h1 => ?_)
      refine R_seg (φ := []) (pc' := 34) (L' := [.ref 18, .ref 8, .int e, .int (nI j), w4]) (st' := [.int 1]) (σ' := (mj_KS N, I, mj_PP c d (35))) 1 rfl trivial ?_
      exact R_rb rfl rfl (Or.inr rfl) (mj_leaf (by simp only [s_X2_rs, Bool.false_eq_true, ↓reduceIte, Nat.reduceAdd, Nat.reduceMul, mj_tn0, mj_tn1, mj_tn2, mj_tn3]) (by simp only [s_X2_rs, Bool.false_eq_true, ↓reduceIte, Nat.reduceAdd, Nat.reduceMul, mj_tn0, mj_tn1, mj_tn2, mj_tn3]))
    | succ k ih =>
      intro j w4 I hk hlo hj
      have hjm : j < m := by omega
      refine R_seg (φ := []) (pc' := 4) (L' := [.ref 18, .ref 8, .int e, .int (nI j), w4]) (st' := [.int e, .int (nI j)]) (σ' := (mj_KS N, I, mj_PP c d (35))) 2 rfl trivial ?_
      refine R_br (q := (nI j : Int32) < e) (t := 7) (f := 33) (rest := []) rfl (fun h1 => ?_) (fun h1 => ?_)
      · skip
        refine R_seg (φ := []) (pc' := 10) (L' := [.ref 18, .ref 8, .int e, .int (nI j), w4]) (st' := [.int 3, .int 0, .ref 18]) (σ' := (mj_KS N, I, mj_PP c d (35))) 3 rfl trivial ?_
        refine R_ce (idx := 39) (mid := 26) (kind := 0) (N := N) (M' := mj_m_X2_takeDigit) (As := [.ref 18, .int 0, .int 3]) (rest := []) (I := I) (P := mj_PP c d (35)) (I' := (s_X2_takeDigit (35) 0 3 I).2) (P' := mj_PP c d (35)) (v := some (.int ((s_X2_takeDigit (35) 0 3 I).1))) rfl rfl rfl mj_mc26 mj_dc26 rfl rfl rfl rfl rfl rfl (x_X2_takeDigit l b base D z N (35) 0 3 (by decide) I c d (by decide) (by decide)) ?_
        refine R_seg (φ := []) (pc' := 17) (L' := [.ref 18, .ref 8, .int e, .int (nI j), .int ((s_X2_takeDigit (35) 0 3 I).1)]) (st' := [.int ((s_X2_takeDigit (35) 0 3 I).1)]) (σ' := (mj_KS N, (s_X2_takeDigit (35) 0 3 I).2, mj_PP c d (35))) 2 rfl trivial ?_
        refine R_br (q := ((s_X2_takeDigit (35) 0 3 I).1 : Int32) < 0) (t := 20) (f := 22) (rest := []) rfl (fun h2 => ?_) (fun h2 => ?_)
        · skip
          refine R_seg (φ := []) (pc' := 21) (L' := [.ref 18, .ref 8, .int e, .int (nI j), .int ((s_X2_takeDigit (35) 0 3 I).1)]) (st' := [.int 0]) (σ' := (mj_KS N, (s_X2_takeDigit (35) 0 3 I).2, mj_PP c d (35))) 1 rfl trivial ?_
          exact R_rb rfl rfl (Or.inl rfl) (mj_leaf (by simp only [s_X2_rs, if_pos h1, if_pos h2, Bool.false_eq_true, ↓reduceIte, Nat.reduceAdd, Nat.reduceMul, mj_tn0, mj_tn1, mj_tn2, mj_tn3]) (by simp only [s_X2_rs, if_pos h1, if_pos h2, Bool.false_eq_true, ↓reduceIte, Nat.reduceAdd, Nat.reduceMul, mj_tn0, mj_tn1, mj_tn2, mj_tn3]))
        · skip
          refine R_seg (φ := [mj_in (nI j) 3]) (pc' := 2) (L' := [.ref 18, .ref 8, .int e, .int ((nI j) + 1), .int ((s_X2_takeDigit (35) 0 3 I).1)]) (st' := []) (σ' := (mj_KS N, (mj_upI ((s_X2_takeDigit (35) 0 3 I).2) 8 (nI j) ((s_X2_takeDigit (35) 0 3 I).1)), mj_PP c d (35))) 6 rfl ⟨mj_in_nI (Nat.lt_of_lt_of_le hjm hmx) (by decide), trivial⟩ ?_
          rw [nI_1 j]
          rw [show s_X2_rs 35 8 m e (k + 1) j  I = s_X2_rs 35 8 m e k (j + 1)  (mj_upI ((s_X2_takeDigit (35) 0 3 I).2) 8 (nI j) ((s_X2_takeDigit (35) 0 3 I).1)) from by simp only [s_X2_rs, if_pos h1, if_neg h2, Bool.false_eq_true, ↓reduceIte, Nat.reduceAdd, Nat.reduceMul, mj_tn0, mj_tn1, mj_tn2, mj_tn3]]
          exact ih (j + 1)  (.int ((s_X2_takeDigit (35) 0 3 I).1)) (mj_upI ((s_X2_takeDigit (35) 0 3 I).2) 8 (nI j) ((s_X2_takeDigit (35) 0 3 I).1)) (by omega) (by omega) (by omega)
      · skip
        refine R_seg (φ := []) (pc' := 34) (L' := [.ref 18, .ref 8, .int e, .int (nI j), w4]) (st' := [.int 1]) (σ' := (mj_KS N, I, mj_PP c d (35))) 1 rfl trivial ?_
        exact R_rb rfl rfl (Or.inr rfl) (mj_leaf (by simp only [s_X2_rs, if_neg h1, Bool.false_eq_true, ↓reduceIte, Nat.reduceAdd, Nat.reduceMul, mj_tn0, mj_tn1, mj_tn2, mj_tn3]) (by simp only [s_X2_rs, if_neg h1, Bool.false_eq_true, ↓reduceIte, Nat.reduceAdd, Nat.reduceMul, mj_tn0, mj_tn1, mj_tn2, mj_tn3]))
  · skip
    intro k
    induction k with
    | zero =>
      intro j w4 I hk hlo hj
      refine R_seg (φ := []) (pc' := 4) (L' := [.ref 18, .ref 9, .int e, .int (nI j), w4]) (st' := [.int e, .int (nI j)]) (σ' := (mj_KS N, I, mj_PP c d (35))) 2 rfl trivial ?_
      refine R_br (q := (nI j : Int32) < e) (t := 7) (f := 33) (rest := []) rfl (fun h1 => absurd h1 (mj_eN he (by omega) hj hm)) (fun h1 => ?_)
      refine R_seg (φ := []) (pc' := 34) (L' := [.ref 18, .ref 9, .int e, .int (nI j), w4]) (st' := [.int 1]) (σ' := (mj_KS N, I, mj_PP c d (35))) 1 rfl trivial ?_
      exact R_rb rfl rfl (Or.inr rfl) (mj_leaf (by simp only [s_X2_rs, Bool.false_eq_true, ↓reduceIte, Nat.reduceAdd, Nat.reduceMul, mj_tn0, mj_tn1, mj_tn2, mj_tn3]) (by simp only [s_X2_rs, Bool.false_eq_true, ↓reduceIte, Nat.reduceAdd, Nat.reduceMul, mj_tn0, mj_tn1, mj_tn2, mj_tn3]))
    | succ k ih =>
      intro j w4 I hk hlo hj
      have hjm : j < m := by omega
      refine R_seg (φ := []) (pc' := 4) (L' := [.ref 18, .ref 9, .int e, .int (nI j), w4]) (st' := [.int e, .int (nI j)]) (σ' := (mj_KS N, I, mj_PP c d (35))) 2 rfl trivial ?_
      refine R_br (q := (nI j : Int32) < e) (t := 7) (f := 33) (rest := []) rfl (fun h1 => ?_) (fun h1 => ?_)
      · skip
        refine R_seg (φ := []) (pc' := 10) (L' := [.ref 18, .ref 9, .int e, .int (nI j), w4]) (st' := [.int 3, .int 0, .ref 18]) (σ' := (mj_KS N, I, mj_PP c d (35))) 3 rfl trivial ?_
        refine R_ce (idx := 39) (mid := 26) (kind := 0) (N := N) (M' := mj_m_X2_takeDigit) (As := [.ref 18, .int 0, .int 3]) (rest := []) (I := I) (P := mj_PP c d (35)) (I' := (s_X2_takeDigit (35) 0 3 I).2) (P' := mj_PP c d (35)) (v := some (.int ((s_X2_takeDigit (35) 0 3 I).1))) rfl rfl rfl mj_mc26 mj_dc26 rfl rfl rfl rfl rfl rfl (x_X2_takeDigit l b base D z N (35) 0 3 (by decide) I c d (by decide) (by decide)) ?_
        refine R_seg (φ := []) (pc' := 17) (L' := [.ref 18, .ref 9, .int e, .int (nI j), .int ((s_X2_takeDigit (35) 0 3 I).1)]) (st' := [.int ((s_X2_takeDigit (35) 0 3 I).1)]) (σ' := (mj_KS N, (s_X2_takeDigit (35) 0 3 I).2, mj_PP c d (35))) 2 rfl trivial ?_
        refine R_br (q := ((s_X2_takeDigit (35) 0 3 I).1 : Int32) < 0) (t := 20) (f := 22) (rest := []) rfl (fun h2 => ?_) (fun h2 => ?_)
        · skip
          refine R_seg (φ := []) (pc' := 21) (L' := [.ref 18, .ref 9, .int e, .int (nI j), .int ((s_X2_takeDigit (35) 0 3 I).1)]) (st' := [.int 0]) (σ' := (mj_KS N, (s_X2_takeDigit (35) 0 3 I).2, mj_PP c d (35))) 1 rfl trivial ?_
          exact R_rb rfl rfl (Or.inl rfl) (mj_leaf (by simp only [s_X2_rs, if_pos h1, if_pos h2, Bool.false_eq_true, ↓reduceIte, Nat.reduceAdd, Nat.reduceMul, mj_tn0, mj_tn1, mj_tn2, mj_tn3]) (by simp only [s_X2_rs, if_pos h1, if_pos h2, Bool.false_eq_true, ↓reduceIte, Nat.reduceAdd, Nat.reduceMul, mj_tn0, mj_tn1, mj_tn2, mj_tn3]))
        · skip
          refine R_seg (φ := [mj_in (nI j) 3]) (pc' := 2) (L' := [.ref 18, .ref 9, .int e, .int ((nI j) + 1), .int ((s_X2_takeDigit (35) 0 3 I).1)]) (st' := []) (σ' := (mj_KS N, (mj_upI ((s_X2_takeDigit (35) 0 3 I).2) 9 (nI j) ((s_X2_takeDigit (35) 0 3 I).1)), mj_PP c d (35))) 6 rfl ⟨mj_in_nI (Nat.lt_of_lt_of_le hjm hmx) (by decide), trivial⟩ ?_
          rw [nI_1 j]
          rw [show s_X2_rs 35 9 m e (k + 1) j  I = s_X2_rs 35 9 m e k (j + 1)  (mj_upI ((s_X2_takeDigit (35) 0 3 I).2) 9 (nI j) ((s_X2_takeDigit (35) 0 3 I).1)) from by simp only [s_X2_rs, if_pos h1, if_neg h2, Bool.false_eq_true, ↓reduceIte, Nat.reduceAdd, Nat.reduceMul, mj_tn0, mj_tn1, mj_tn2, mj_tn3]]
          exact ih (j + 1)  (.int ((s_X2_takeDigit (35) 0 3 I).1)) (mj_upI ((s_X2_takeDigit (35) 0 3 I).2) 9 (nI j) ((s_X2_takeDigit (35) 0 3 I).1)) (by omega) (by omega) (by omega)
      · skip
        refine R_seg (φ := []) (pc' := 34) (L' := [.ref 18, .ref 9, .int e, .int (nI j), w4]) (st' := [.int 1]) (σ' := (mj_KS N, I, mj_PP c d (35))) 1 rfl trivial ?_
        exact R_rb rfl rfl (Or.inr rfl) (mj_leaf (by simp only [s_X2_rs, if_neg h1, Bool.false_eq_true, ↓reduceIte, Nat.reduceAdd, Nat.reduceMul, mj_tn0, mj_tn1, mj_tn2, mj_tn3]) (by simp only [s_X2_rs, if_neg h1, Bool.false_eq_true, ↓reduceIte, Nat.reduceAdd, Nat.reduceMul, mj_tn0, mj_tn1, mj_tn2, mj_tn3]))
  · skip
    intro k
    induction k with
    | zero =>
      intro j w4 I hk hlo hj
      refine R_seg (φ := []) (pc' := 4) (L' := [.ref 18, .ref 15, .int e, .int (nI j), w4]) (st' := [.int e, .int (nI j)]) (σ' := (mj_KS N, I, mj_PP c d (35))) 2 rfl trivial ?_
      refine R_br (q := (nI j : Int32) < e) (t := 7) (f := 33) (rest := []) rfl (fun h1 => absurd h1 (mj_eN he (by omega) hj hm)) (fun h1 => ?_)
      refine R_seg (φ := []) (pc' := 34) (L' := [.ref 18, .ref 15, .int e, .int (nI j), w4]) (st' := [.int 1]) (σ' := (mj_KS N, I, mj_PP c d (35))) 1 rfl trivial ?_
      exact R_rb rfl rfl (Or.inr rfl) (mj_leaf (by simp only [s_X2_rs, Bool.false_eq_true, ↓reduceIte, Nat.reduceAdd, Nat.reduceMul, mj_tn0, mj_tn1, mj_tn2, mj_tn3]) (by simp only [s_X2_rs, Bool.false_eq_true, ↓reduceIte, Nat.reduceAdd, Nat.reduceMul, mj_tn0, mj_tn1, mj_tn2, mj_tn3]))
    | succ k ih =>
      intro j w4 I hk hlo hj
      have hjm : j < m := by omega
      refine R_seg (φ := []) (pc' := 4) (L' := [.ref 18, .ref 15, .int e, .int (nI j), w4]) (st' := [.int e, .int (nI j)]) (σ' := (mj_KS N, I, mj_PP c d (35))) 2 rfl trivial ?_
      refine R_br (q := (nI j : Int32) < e) (t := 7) (f := 33) (rest := []) rfl (fun h1 => ?_) (fun h1 => ?_)
      · skip
        refine R_seg (φ := []) (pc' := 10) (L' := [.ref 18, .ref 15, .int e, .int (nI j), w4]) (st' := [.int 3, .int 0, .ref 18]) (σ' := (mj_KS N, I, mj_PP c d (35))) 3 rfl trivial ?_
        refine R_ce (idx := 39) (mid := 26) (kind := 0) (N := N) (M' := mj_m_X2_takeDigit) (As := [.ref 18, .int 0, .int 3]) (rest := []) (I := I) (P := mj_PP c d (35)) (I' := (s_X2_takeDigit (35) 0 3 I).2) (P' := mj_PP c d (35)) (v := some (.int ((s_X2_takeDigit (35) 0 3 I).1))) rfl rfl rfl mj_mc26 mj_dc26 rfl rfl rfl rfl rfl rfl (x_X2_takeDigit l b base D z N (35) 0 3 (by decide) I c d (by decide) (by decide)) ?_
        refine R_seg (φ := []) (pc' := 17) (L' := [.ref 18, .ref 15, .int e, .int (nI j), .int ((s_X2_takeDigit (35) 0 3 I).1)]) (st' := [.int ((s_X2_takeDigit (35) 0 3 I).1)]) (σ' := (mj_KS N, (s_X2_takeDigit (35) 0 3 I).2, mj_PP c d (35))) 2 rfl trivial ?_
        refine R_br (q := ((s_X2_takeDigit (35) 0 3 I).1 : Int32) < 0) (t := 20) (f := 22) (rest := []) rfl (fun h2 => ?_) (fun h2 => ?_)
        · skip
          refine R_seg (φ := []) (pc' := 21) (L' := [.ref 18, .ref 15, .int e, .int (nI j), .int ((s_X2_takeDigit (35) 0 3 I).1)]) (st' := [.int 0]) (σ' := (mj_KS N, (s_X2_takeDigit (35) 0 3 I).2, mj_PP c d (35))) 1 rfl trivial ?_
          exact R_rb rfl rfl (Or.inl rfl) (mj_leaf (by simp only [s_X2_rs, if_pos h1, if_pos h2, Bool.false_eq_true, ↓reduceIte, Nat.reduceAdd, Nat.reduceMul, mj_tn0, mj_tn1, mj_tn2, mj_tn3]) (by simp only [s_X2_rs, if_pos h1, if_pos h2, Bool.false_eq_true, ↓reduceIte, Nat.reduceAdd, Nat.reduceMul, mj_tn0, mj_tn1, mj_tn2, mj_tn3]))
        · skip
          refine R_seg (φ := [mj_in (nI j) 3]) (pc' := 2) (L' := [.ref 18, .ref 15, .int e, .int ((nI j) + 1), .int ((s_X2_takeDigit (35) 0 3 I).1)]) (st' := []) (σ' := (mj_KS N, (mj_upI ((s_X2_takeDigit (35) 0 3 I).2) 15 (nI j) ((s_X2_takeDigit (35) 0 3 I).1)), mj_PP c d (35))) 6 rfl ⟨mj_in_nI (Nat.lt_of_lt_of_le hjm hmx) (by decide), trivial⟩ ?_
          rw [nI_1 j]
          rw [show s_X2_rs 35 15 m e (k + 1) j  I = s_X2_rs 35 15 m e k (j + 1)  (mj_upI ((s_X2_takeDigit (35) 0 3 I).2) 15 (nI j) ((s_X2_takeDigit (35) 0 3 I).1)) from by simp only [s_X2_rs, if_pos h1, if_neg h2, Bool.false_eq_true, ↓reduceIte, Nat.reduceAdd, Nat.reduceMul, mj_tn0, mj_tn1, mj_tn2, mj_tn3]]
          exact ih (j + 1)  (.int ((s_X2_takeDigit (35) 0 3 I).1)) (mj_upI ((s_X2_takeDigit (35) 0 3 I).2) 15 (nI j) ((s_X2_takeDigit (35) 0 3 I).1)) (by omega) (by omega) (by omega)
      · skip
        refine R_seg (φ := []) (pc' := 34) (L' := [.ref 18, .ref 15, .int e, .int (nI j), w4]) (st' := [.int 1]) (σ' := (mj_KS N, I, mj_PP c d (35))) 1 rfl trivial ?_
        exact R_rb rfl rfl (Or.inr rfl) (mj_leaf (by simp only [s_X2_rs, if_neg h1, Bool.false_eq_true, ↓reduceIte, Nat.reduceAdd, Nat.reduceMul, mj_tn0, mj_tn1, mj_tn2, mj_tn3]) (by simp only [s_X2_rs, if_neg h1, Bool.false_eq_true, ↓reduceIte, Nat.reduceAdd, Nat.reduceMul, mj_tn0, mj_tn1, mj_tn2, mj_tn3]))
  · skip
    intro k
    induction k with
    | zero =>
      intro j w4 I hk hlo hj
      refine R_seg (φ := []) (pc' := 4) (L' := [.ref 18, .ref 16, .int e, .int (nI j), w4]) (st' := [.int e, .int (nI j)]) (σ' := (mj_KS N, I, mj_PP c d (35))) 2 rfl trivial ?_
      refine R_br (q := (nI j : Int32) < e) (t := 7) (f := 33) (rest := []) rfl (fun h1 => absurd h1 (mj_eN he (by omega) hj hm)) (fun h1 => ?_)
      refine R_seg (φ := []) (pc' := 34) (L' := [.ref 18, .ref 16, .int e, .int (nI j), w4]) (st' := [.int 1]) (σ' := (mj_KS N, I, mj_PP c d (35))) 1 rfl trivial ?_
      exact R_rb rfl rfl (Or.inr rfl) (mj_leaf (by simp only [s_X2_rs, Bool.false_eq_true, ↓reduceIte, Nat.reduceAdd, Nat.reduceMul, mj_tn0, mj_tn1, mj_tn2, mj_tn3]) (by simp only [s_X2_rs, Bool.false_eq_true, ↓reduceIte, Nat.reduceAdd, Nat.reduceMul, mj_tn0, mj_tn1, mj_tn2, mj_tn3]))
    | succ k ih =>
      intro j w4 I hk hlo hj
      have hjm : j < m := by omega
      refine R_seg (φ := []) (pc' := 4) (L' := [.ref 18, .ref 16, .int e, .int (nI j), w4]) (st' := [.int e, .int (nI j)]) (σ' := (mj_KS N, I, mj_PP c d (35))) 2 rfl trivial ?_
      refine R_br (q := (nI j : Int32) < e) (t := 7) (f := 33) (rest := []) rfl (fun h1 => ?_) (fun h1 => ?_)
      · skip
        refine R_seg (φ := []) (pc' := 10) (L' := [.ref 18, .ref 16, .int e, .int (nI j), w4]) (st' := [.int 3, .int 0, .ref 18]) (σ' := (mj_KS N, I, mj_PP c d (35))) 3 rfl trivial ?_
        refine R_ce (idx := 39) (mid := 26) (kind := 0) (N := N) (M' := mj_m_X2_takeDigit) (As := [.ref 18, .int 0, .int 3]) (rest := []) (I := I) (P := mj_PP c d (35)) (I' := (s_X2_takeDigit (35) 0 3 I).2) (P' := mj_PP c d (35)) (v := some (.int ((s_X2_takeDigit (35) 0 3 I).1))) rfl rfl rfl mj_mc26 mj_dc26 rfl rfl rfl rfl rfl rfl (x_X2_takeDigit l b base D z N (35) 0 3 (by decide) I c d (by decide) (by decide)) ?_
        refine R_seg (φ := []) (pc' := 17) (L' := [.ref 18, .ref 16, .int e, .int (nI j), .int ((s_X2_takeDigit (35) 0 3 I).1)]) (st' := [.int ((s_X2_takeDigit (35) 0 3 I).1)]) (σ' := (mj_KS N, (s_X2_takeDigit (35) 0 3 I).2, mj_PP c d (35))) 2 rfl trivial ?_
        refine R_br (q := ((s_X2_takeDigit (35) 0 3 I).1 : Int32) < 0) (t := 20) (f := 22) (rest := []) rfl (fun h2 => ?_) (fun h2 => ?_)
        · skip
          refine R_seg (φ := []) (pc' := 21) (L' := [.ref 18, .ref 16, .int e, .int (nI j), .int ((s_X2_takeDigit (35) 0 3 I).1)]) (st' := [.int 0]) (σ' := (mj_KS N, (s_X2_takeDigit (35) 0 3 I).2, mj_PP c d (35))) 1 rfl trivial ?_
          exact R_rb rfl rfl (Or.inl rfl) (mj_leaf (by simp only [s_X2_rs, if_pos h1, if_pos h2, Bool.false_eq_true, ↓reduceIte, Nat.reduceAdd, Nat.reduceMul, mj_tn0, mj_tn1, mj_tn2, mj_tn3]) (by simp only [s_X2_rs, if_pos h1, if_pos h2, Bool.false_eq_true, ↓reduceIte, Nat.reduceAdd, Nat.reduceMul, mj_tn0, mj_tn1, mj_tn2, mj_tn3]))
        · skip
          refine R_seg (φ := [mj_in (nI j) 3]) (pc' := 2) (L' := [.ref 18, .ref 16, .int e, .int ((nI j) + 1), .int ((s_X2_takeDigit (35) 0 3 I).1)]) (st' := []) (σ' := (mj_KS N, (mj_upI ((s_X2_takeDigit (35) 0 3 I).2) 16 (nI j) ((s_X2_takeDigit (35) 0 3 I).1)), mj_PP c d (35))) 6 rfl ⟨mj_in_nI (Nat.lt_of_lt_of_le hjm hmx) (by decide), trivial⟩ ?_
          rw [nI_1 j]
          rw [show s_X2_rs 35 16 m e (k + 1) j  I = s_X2_rs 35 16 m e k (j + 1)  (mj_upI ((s_X2_takeDigit (35) 0 3 I).2) 16 (nI j) ((s_X2_takeDigit (35) 0 3 I).1)) from by simp only [s_X2_rs, if_pos h1, if_neg h2, Bool.false_eq_true, ↓reduceIte, Nat.reduceAdd, Nat.reduceMul, mj_tn0, mj_tn1, mj_tn2, mj_tn3]]
          exact ih (j + 1)  (.int ((s_X2_takeDigit (35) 0 3 I).1)) (mj_upI ((s_X2_takeDigit (35) 0 3 I).2) 16 (nI j) ((s_X2_takeDigit (35) 0 3 I).1)) (by omega) (by omega) (by omega)
      · skip
        refine R_seg (φ := []) (pc' := 34) (L' := [.ref 18, .ref 16, .int e, .int (nI j), w4]) (st' := [.int 1]) (σ' := (mj_KS N, I, mj_PP c d (35))) 1 rfl trivial ?_
        exact R_rb rfl rfl (Or.inr rfl) (mj_leaf (by simp only [s_X2_rs, if_neg h1, Bool.false_eq_true, ↓reduceIte, Nat.reduceAdd, Nat.reduceMul, mj_tn0, mj_tn1, mj_tn2, mj_tn3]) (by simp only [s_X2_rs, if_neg h1, Bool.false_eq_true, ↓reduceIte, Nat.reduceAdd, Nat.reduceMul, mj_tn0, mj_tn1, mj_tn2, mj_tn3]))
  · skip
    intro k
    induction k with
    | zero =>
      intro j w4 I hk hlo hj
      refine R_seg (φ := []) (pc' := 4) (L' := [.ref 18, .ref 17, .int e, .int (nI j), w4]) (st' := [.int e, .int (nI j)]) (σ' := (mj_KS N, I, mj_PP c d (35))) 2 rfl trivial ?_
      refine R_br (q := (nI j : Int32) < e) (t := 7) (f := 33) (rest := []) rfl (fun h1 => absurd h1 (mj_eN he (by omega) hj hm)) (fun h1 => ?_)
      refine R_seg (φ := []) (pc' := 34) (L' := [.ref 18, .ref 17, .int e, .int (nI j), w4]) (st' := [.int 1]) (σ' := (mj_KS N, I, mj_PP c d (35))) 1 rfl trivial ?_
      exact R_rb rfl rfl (Or.inr rfl) (mj_leaf (by simp only [s_X2_rs, Bool.false_eq_true, ↓reduceIte, Nat.reduceAdd, Nat.reduceMul, mj_tn0, mj_tn1, mj_tn2, mj_tn3]) (by simp only [s_X2_rs, Bool.false_eq_true, ↓reduceIte, Nat.reduceAdd, Nat.reduceMul, mj_tn0, mj_tn1, mj_tn2, mj_tn3]))
    | succ k ih =>
      intro j w4 I hk hlo hj
      have hjm : j < m := by omega
      refine R_seg (φ := []) (pc' := 4) (L' := [.ref 18, .ref 17, .int e, .int (nI j), w4]) (st' := [.int e, .int (nI j)]) (σ' := (mj_KS N, I, mj_PP c d (35))) 2 rfl trivial ?_
      refine R_br (q := (nI j : Int32) < e) (t := 7) (f := 33) (rest := []) rfl (fun h1 => ?_) (fun h1 => ?_)
      · skip
        refine R_seg (φ := []) (pc' := 10) (L' := [.ref 18, .ref 17, .int e, .int (nI j), w4]) (st' := [.int 3, .int 0, .ref 18]) (σ' := (mj_KS N, I, mj_PP c d (35))) 3 rfl trivial ?_
        refine R_ce (idx := 39) (mid := 26) (kind := 0) (N := N) (M' := mj_m_X2_takeDigit) (As := [.ref 18, .int 0, .int 3]) (rest := []) (I := I) (P := mj_PP c d (35)) (I' := (s_X2_takeDigit (35) 0 3 I).2) (P' := mj_PP c d (35)) (v := some (.int ((s_X2_takeDigit (35) 0 3 I).1))) rfl rfl rfl mj_mc26 mj_dc26 rfl rfl rfl rfl rfl rfl (x_X2_takeDigit l b base D z N (35) 0 3 (by decide) I c d (by decide) (by decide)) ?_
        refine R_seg (φ := []) (pc' := 17) (L' := [.ref 18, .ref 17, .int e, .int (nI j), .int ((s_X2_takeDigit (35) 0 3 I).1)]) (st' := [.int ((s_X2_takeDigit (35) 0 3 I).1)]) (σ' := (mj_KS N, (s_X2_takeDigit (35) 0 3 I).2, mj_PP c d (35))) 2 rfl trivial ?_
        refine R_br (q := ((s_X2_takeDigit (35) 0 3 I).1 : Int32) < 0) (t := 20) (f := 22) (rest := []) rfl (fun h2 => ?_) (fun h2 => ?_)
        · skip
          refine R_seg (φ := []) (pc' := 21) (L' := [.ref 18, .ref 17, .int e, .int (nI j), .int ((s_X2_takeDigit (35) 0 3 I).1)]) (st' := [.int 0]) (σ' := (mj_KS N, (s_X2_takeDigit (35) 0 3 I).2, mj_PP c d (35))) 1 rfl trivial ?_
          exact R_rb rfl rfl (Or.inl rfl) (mj_leaf (by simp only [s_X2_rs, if_pos h1, if_pos h2, Bool.false_eq_true, ↓reduceIte, Nat.reduceAdd, Nat.reduceMul, mj_tn0, mj_tn1, mj_tn2, mj_tn3]) (by simp only [s_X2_rs, if_pos h1, if_pos h2, Bool.false_eq_true, ↓reduceIte, Nat.reduceAdd, Nat.reduceMul, mj_tn0, mj_tn1, mj_tn2, mj_tn3]))
        · skip
          refine R_seg (φ := [mj_in (nI j) 3]) (pc' := 2) (L' := [.ref 18, .ref 17, .int e, .int ((nI j) + 1), .int ((s_X2_takeDigit (35) 0 3 I).1)]) (st' := []) (σ' := (mj_KS N, (mj_upI ((s_X2_takeDigit (35) 0 3 I).2) 17 (nI j) ((s_X2_takeDigit (35) 0 3 I).1)), mj_PP c d (35))) 6 rfl ⟨mj_in_nI (Nat.lt_of_lt_of_le hjm hmx) (by decide), trivial⟩ ?_
          rw [nI_1 j]
          rw [show s_X2_rs 35 17 m e (k + 1) j  I = s_X2_rs 35 17 m e k (j + 1)  (mj_upI ((s_X2_takeDigit (35) 0 3 I).2) 17 (nI j) ((s_X2_takeDigit (35) 0 3 I).1)) from by simp only [s_X2_rs, if_pos h1, if_neg h2, Bool.false_eq_true, ↓reduceIte, Nat.reduceAdd, Nat.reduceMul, mj_tn0, mj_tn1, mj_tn2, mj_tn3]]
          exact ih (j + 1)  (.int ((s_X2_takeDigit (35) 0 3 I).1)) (mj_upI ((s_X2_takeDigit (35) 0 3 I).2) 17 (nI j) ((s_X2_takeDigit (35) 0 3 I).1)) (by omega) (by omega) (by omega)
      · skip
        refine R_seg (φ := []) (pc' := 34) (L' := [.ref 18, .ref 17, .int e, .int (nI j), w4]) (st' := [.int 1]) (σ' := (mj_KS N, I, mj_PP c d (35))) 1 rfl trivial ?_
        exact R_rb rfl rfl (Or.inr rfl) (mj_leaf (by simp only [s_X2_rs, if_neg h1, Bool.false_eq_true, ↓reduceIte, Nat.reduceAdd, Nat.reduceMul, mj_tn0, mj_tn1, mj_tn2, mj_tn3]) (by simp only [s_X2_rs, if_neg h1, Bool.false_eq_true, ↓reduceIte, Nat.reduceAdd, Nat.reduceMul, mj_tn0, mj_tn1, mj_tn2, mj_tn3]))
  · skip
    intro k
    induction k with
    | zero =>
      intro j w4 I hk hlo hj
      refine R_seg (φ := []) (pc' := 4) (L' := [.ref 18, .ref 3, .int e, .int (nI j), w4]) (st' := [.int e, .int (nI j)]) (σ' := (mj_KS N, I, mj_PP c d (37))) 2 rfl trivial ?_
      refine R_br (q := (nI j : Int32) < e) (t := 7) (f := 33) (rest := []) rfl (fun h1 => absurd h1 (mj_eN he (by omega) hj hm)) (fun h1 => ?_)
      refine R_seg (φ := []) (pc' := 34) (L' := [.ref 18, .ref 3, .int e, .int (nI j), w4]) (st' := [.int 1]) (σ' := (mj_KS N, I, mj_PP c d (37))) 1 rfl trivial ?_
      exact R_rb rfl rfl (Or.inr rfl) (mj_leaf (by simp only [s_X2_rs, Bool.false_eq_true, ↓reduceIte, Nat.reduceAdd, Nat.reduceMul, mj_tn0, mj_tn1, mj_tn2, mj_tn3]) (by simp only [s_X2_rs, Bool.false_eq_true, ↓reduceIte, Nat.reduceAdd, Nat.reduceMul, mj_tn0, mj_tn1, mj_tn2, mj_tn3]))
    | succ k ih =>
      intro j w4 I hk hlo hj
      have hjm : j < m := by omega
      refine R_seg (φ := []) (pc' := 4) (L' := [.ref 18, .ref 3, .int e, .int (nI j), w4]) (st' := [.int e, .int (nI j)]) (σ' := (mj_KS N, I, mj_PP c d (37))) 2 rfl trivial ?_
      refine R_br (q := (nI j : Int32) < e) (t := 7) (f := 33) (rest := []) rfl (fun h1 => ?_) (fun h1 => ?_)
      · skip
        refine R_seg (φ := []) (pc' := 10) (L' := [.ref 18, .ref 3, .int e, .int (nI j), w4]) (st' := [.int 3, .int 0, .ref 18]) (σ' := (mj_KS N, I, mj_PP c d (37))) 3 rfl trivial ?_
        refine R_ce (idx := 39) (mid := 26) (kind := 0) (N := N) (M' := mj_m_X2_takeDigit) (As := [.ref 18, .int 0, .int 3]) (rest := []) (I := I) (P := mj_PP c d (37)) (I' := (s_X2_takeDigit (37) 0 3 I).2) (P' := mj_PP c d (37)) (v := some (.int ((s_X2_takeDigit (37) 0 3 I).1))) rfl rfl rfl mj_mc26 mj_dc26 rfl rfl rfl rfl rfl rfl (x_X2_takeDigit l b base D z N (37) 0 3 (by decide) I c d (by decide) (by decide)) ?_
        refine R_seg (φ := []) (pc' := 17) (L' := [.ref 18, .ref 3, .int e, .int (nI j), .int ((s_X2_takeDigit (37) 0 3 I).1)]) (st' := [.int ((s_X2_takeDigit (37) 0 3 I).1)]) (σ' := (mj_KS N, (s_X2_takeDigit (37) 0 3 I).2, mj_PP c d (37))) 2 rfl trivial ?_
        refine R_br (q := ((s_X2_takeDigit (37) 0 3 I).1 : Int32) < 0) (t := 20) (f := 22) (rest := []) rfl (fun h2 => ?_) (fun h2 => ?_)
        · skip
          refine R_seg (φ := []) (pc' := 21) (L' := [.ref 18, .ref 3, .int e, .int (nI j), .int ((s_X2_takeDigit (37) 0 3 I).1)]) (st' := [.int 0]) (σ' := (mj_KS N, (s_X2_takeDigit (37) 0 3 I).2, mj_PP c d (37))) 1 rfl trivial ?_
          exact R_rb rfl rfl (Or.inl rfl) (mj_leaf (by simp only [s_X2_rs, if_pos h1, if_pos h2, Bool.false_eq_true, ↓reduceIte, Nat.reduceAdd, Nat.reduceMul, mj_tn0, mj_tn1, mj_tn2, mj_tn3]) (by simp only [s_X2_rs, if_pos h1, if_pos h2, Bool.false_eq_true, ↓reduceIte, Nat.reduceAdd, Nat.reduceMul, mj_tn0, mj_tn1, mj_tn2, mj_tn3]))
        · skip
          refine R_seg (φ := [mj_in (nI j) 6]) (pc' := 2) (L' := [.ref 18, .ref 3, .int e, .int ((nI j) + 1), .int ((s_X2_takeDigit (37) 0 3 I).1)]) (st' := []) (σ' := (mj_KS N, (mj_upI ((s_X2_takeDigit (37) 0 3 I).2) 3 (nI j) ((s_X2_takeDigit (37) 0 3 I).1)), mj_PP c d (37))) 6 rfl ⟨mj_in_nI (Nat.lt_of_lt_of_le hjm hmx) (by decide), trivial⟩ ?_
          rw [nI_1 j]
          rw [show s_X2_rs 37 3 m e (k + 1) j  I = s_X2_rs 37 3 m e k (j + 1)  (mj_upI ((s_X2_takeDigit (37) 0 3 I).2) 3 (nI j) ((s_X2_takeDigit (37) 0 3 I).1)) from by simp only [s_X2_rs, if_pos h1, if_neg h2, Bool.false_eq_true, ↓reduceIte, Nat.reduceAdd, Nat.reduceMul, mj_tn0, mj_tn1, mj_tn2, mj_tn3]]
          exact ih (j + 1)  (.int ((s_X2_takeDigit (37) 0 3 I).1)) (mj_upI ((s_X2_takeDigit (37) 0 3 I).2) 3 (nI j) ((s_X2_takeDigit (37) 0 3 I).1)) (by omega) (by omega) (by omega)
      · skip
        refine R_seg (φ := []) (pc' := 34) (L' := [.ref 18, .ref 3, .int e, .int (nI j), w4]) (st' := [.int 1]) (σ' := (mj_KS N, I, mj_PP c d (37))) 1 rfl trivial ?_
        exact R_rb rfl rfl (Or.inr rfl) (mj_leaf (by simp only [s_X2_rs, if_neg h1, Bool.false_eq_true, ↓reduceIte, Nat.reduceAdd, Nat.reduceMul, mj_tn0, mj_tn1, mj_tn2, mj_tn3]) (by simp only [s_X2_rs, if_neg h1, Bool.false_eq_true, ↓reduceIte, Nat.reduceAdd, Nat.reduceMul, mj_tn0, mj_tn1, mj_tn2, mj_tn3]))
  · skip
    intro k
    induction k with
    | zero =>
      intro j w4 I hk hlo hj
      refine R_seg (φ := []) (pc' := 4) (L' := [.ref 18, .ref 11, .int e, .int (nI j), w4]) (st' := [.int e, .int (nI j)]) (σ' := (mj_KS N, I, mj_PP c d (37))) 2 rfl trivial ?_
      refine R_br (q := (nI j : Int32) < e) (t := 7) (f := 33) (rest := []) rfl (fun h1 => absurd h1 (mj_eN he (by omega) hj hm)) (fun h1 => ?_)
      refine R_seg (φ := []) (pc' := 34) (L' := [.ref 18, .ref 11, .int e, .int (nI j), w4]) (st' := [.int 1]) (σ' := (mj_KS N, I, mj_PP c d (37))) 1 rfl trivial ?_
      exact R_rb rfl rfl (Or.inr rfl) (mj_leaf (by simp only [s_X2_rs, Bool.false_eq_true, ↓reduceIte, Nat.reduceAdd, Nat.reduceMul, mj_tn0, mj_tn1, mj_tn2, mj_tn3]) (by simp only [s_X2_rs, Bool.false_eq_true, ↓reduceIte, Nat.reduceAdd, Nat.reduceMul, mj_tn0, mj_tn1, mj_tn2, mj_tn3]))
    | succ k ih =>
      intro j w4 I hk hlo hj
      have hjm : j < m := by omega
      refine R_seg (φ := []) (pc' := 4) (L' := [.ref 18, .ref 11, .int e, .int (nI j), w4]) (st' := [.int e, .int (nI j)]) (σ' := (mj_KS N, I, mj_PP c d (37))) 2 rfl trivial ?_
      refine R_br (q := (nI j : Int32) < e) (t := 7) (f := 33) (rest := []) rfl (fun h1 => ?_) (fun h1 => ?_)
      · skip
        refine R_seg (φ := []) (pc' := 10) (L' := [.ref 18, .ref 11, .int e, .int (nI j), w4]) (st' := [.int 3, .int 0, .ref 18]) (σ' := (mj_KS N, I, mj_PP c d (37))) 3 rfl trivial ?_
        refine R_ce (idx := 39) (mid := 26) (kind := 0) (N := N) (M' := mj_m_X2_takeDigit) (As := [.ref 18, .int 0, .int 3]) (rest := []) (I := I) (P := mj_PP c d (37)) (I' := (s_X2_takeDigit (37) 0 3 I).2) (P' := mj_PP c d (37)) (v := some (.int ((s_X2_takeDigit (37) 0 3 I).1))) rfl rfl rfl mj_mc26 mj_dc26 rfl rfl rfl rfl rfl rfl (x_X2_takeDigit l b base D z N (37) 0 3 (by decide) I c d (by decide) (by decide)) ?_
        refine R_seg (φ := []) (pc' := 17) (L' := [.ref 18, .ref 11, .int e, .int (nI j), .int ((s_X2_takeDigit (37) 0 3 I).1)]) (st' := [.int ((s_X2_takeDigit (37) 0 3 I).1)]) (σ' := (mj_KS N, (s_X2_takeDigit (37) 0 3 I).2, mj_PP c d (37))) 2 rfl trivial ?_
        refine R_br (q := ((s_X2_takeDigit (37) 0 3 I).1 : Int32) < 0) (t := 20) (f := 22) (rest := []) rfl (fun h2 => ?_) (fun h2 => ?_)
        · skip
          refine R_seg (φ := []) (pc' := 21) (L' := [.ref 18, .ref 11, .int e, .int (nI j), .int ((s_X2_takeDigit (37) 0 3 I).1)]) (st' := [.int 0]) (σ' := (mj_KS N, (s_X2_takeDigit (37) 0 3 I).2, mj_PP c d (37))) 1 rfl trivial ?_
          exact R_rb rfl rfl (Or.inl rfl) (mj_leaf (by simp only [s_X2_rs, if_pos h1, if_pos h2, Bool.false_eq_true, ↓reduceIte, Nat.reduceAdd, Nat.reduceMul, mj_tn0, mj_tn1, mj_tn2, mj_tn3]) (by simp only [s_X2_rs, if_pos h1, if_pos h2, Bool.false_eq_true, ↓reduceIte, Nat.reduceAdd, Nat.reduceMul, mj_tn0, mj_tn1, mj_tn2, mj_tn3]))
        · skip
          refine R_seg (φ := [mj_in (nI j) 6]) (pc' := 2) (L' := [.ref 18, .ref 11, .int e, .int ((nI j) + 1), .int ((s_X2_takeDigit (37) 0 3 I).1)]) (st' := []) (σ' := (mj_KS N, (mj_upI ((s_X2_takeDigit (37) 0 3 I).2) 11 (nI j) ((s_X2_takeDigit (37) 0 3 I).1)), mj_PP c d (37))) 6 rfl ⟨mj_in_nI (Nat.lt_of_lt_of_le hjm hmx) (by decide), trivial⟩ ?_
          rw [nI_1 j]
          rw [show s_X2_rs 37 11 m e (k + 1) j  I = s_X2_rs 37 11 m e k (j + 1)  (mj_upI ((s_X2_takeDigit (37) 0 3 I).2) 11 (nI j) ((s_X2_takeDigit (37) 0 3 I).1)) from by simp only [s_X2_rs, if_pos h1, if_neg h2, Bool.false_eq_true, ↓reduceIte, Nat.reduceAdd, Nat.reduceMul, mj_tn0, mj_tn1, mj_tn2, mj_tn3]]
          exact ih (j + 1)  (.int ((s_X2_takeDigit (37) 0 3 I).1)) (mj_upI ((s_X2_takeDigit (37) 0 3 I).2) 11 (nI j) ((s_X2_takeDigit (37) 0 3 I).1)) (by omega) (by omega) (by omega)
      · skip
        refine R_seg (φ := []) (pc' := 34) (L' := [.ref 18, .ref 11, .int e, .int (nI j), w4]) (st' := [.int 1]) (σ' := (mj_KS N, I, mj_PP c d (37))) 1 rfl trivial ?_
        exact R_rb rfl rfl (Or.inr rfl) (mj_leaf (by simp only [s_X2_rs, if_neg h1, Bool.false_eq_true, ↓reduceIte, Nat.reduceAdd, Nat.reduceMul, mj_tn0, mj_tn1, mj_tn2, mj_tn3]) (by simp only [s_X2_rs, if_neg h1, Bool.false_eq_true, ↓reduceIte, Nat.reduceAdd, Nat.reduceMul, mj_tn0, mj_tn1, mj_tn2, mj_tn3]))
  · skip
    intro k
    induction k with
    | zero =>
      intro j w4 I hk hlo hj
      refine R_seg (φ := []) (pc' := 4) (L' := [.ref 18, .ref 7, .int e, .int (nI j), w4]) (st' := [.int e, .int (nI j)]) (σ' := (mj_KS N, I, mj_PP c d (37))) 2 rfl trivial ?_
      refine R_br (q := (nI j : Int32) < e) (t := 7) (f := 33) (rest := []) rfl (fun h1 => absurd h1 (mj_eN he (by omega) hj hm)) (fun h1 => ?_)
      refine R_seg (φ := []) (pc' := 34) (L' := [.ref 18, .ref 7, .int e, .int (nI j), w4]) (st' := [.int 1]) (σ' := (mj_KS N, I, mj_PP c d (37))) 1 rfl trivial ?_
      exact R_rb rfl rfl (Or.inr rfl) (mj_leaf (by simp only [s_X2_rs, Bool.false_eq_true, ↓reduceIte, Nat.reduceAdd, Nat.reduceMul, mj_tn0, mj_tn1, mj_tn2, mj_tn3]) (by simp only [s_X2_rs, Bool.false_eq_true, ↓reduceIte, Nat.reduceAdd, Nat.reduceMul, mj_tn0, mj_tn1, mj_tn2, mj_tn3]))
    | succ k ih =>
      intro j w4 I hk hlo hj
      have hjm : j < m := by omega
      refine R_seg (φ := []) (pc' := 4) (L' := [.ref 18, .ref 7, .int e, .int (nI j), w4]) (st' := [.int e, .int (nI j)]) (σ' := (mj_KS N, I, mj_PP c d (37))) 2 rfl trivial ?_
      refine R_br (q := (nI j : Int32) < e) (t := 7) (f := 33) (rest := []) rfl (fun h1 => ?_) (fun h1 => ?_)
      · skip
        refine R_seg (φ := []) (pc' := 10) (L' := [.ref 18, .ref 7, .int e, .int (nI j), w4]) (st' := [.int 3, .int 0, .ref 18]) (σ' := (mj_KS N, I, mj_PP c d (37))) 3 rfl trivial ?_
        refine R_ce (idx := 39) (mid := 26) (kind := 0) (N := N) (M' := mj_m_X2_takeDigit) (As := [.ref 18, .int 0, .int 3]) (rest := []) (I := I) (P := mj_PP c d (37)) (I' := (s_X2_takeDigit (37) 0 3 I).2) (P' := mj_PP c d (37)) (v := some (.int ((s_X2_takeDigit (37) 0 3 I).1))) rfl rfl rfl mj_mc26 mj_dc26 rfl rfl rfl rfl rfl rfl (x_X2_takeDigit l b base D z N (37) 0 3 (by decide) I c d (by decide) (by decide)) ?_
        refine R_seg (φ := []) (pc' := 17) (L' := [.ref 18, .ref 7, .int e, .int (nI j), .int ((s_X2_takeDigit (37) 0 3 I).1)]) (st' := [.int ((s_X2_takeDigit (37) 0 3 I).1)]) (σ' := (mj_KS N, (s_X2_takeDigit (37) 0 3 I).2, mj_PP c d (37))) 2 rfl trivial ?_
        refine R_br (q := ((s_X2_takeDigit (37) 0 3 I).1 : Int32) < 0) (t := 20) (f := 22) (rest := []) rfl (fun h2 => ?_) (fun h2 => ?_)
        · skip
          refine R_seg (φ := []) (pc' := 21) (L' := [.ref 18, .ref 7, .int e, .int (nI j), .int ((s_X2_takeDigit (37) 0 3 I).1)]) (st' := [.int 0]) (σ' := (mj_KS N, (s_X2_takeDigit (37) 0 3 I).2, mj_PP c d (37))) 1 rfl trivial ?_
          exact R_rb rfl rfl (Or.inl rfl) (mj_leaf (by simp only [s_X2_rs, if_pos h1, if_pos h2, Bool.false_eq_true, ↓reduceIte, Nat.reduceAdd, Nat.reduceMul, mj_tn0, mj_tn1, mj_tn2, mj_tn3]) (by simp only [s_X2_rs, if_pos h1, if_pos h2, Bool.false_eq_true, ↓reduceIte, Nat.reduceAdd, Nat.reduceMul, mj_tn0, mj_tn1, mj_tn2, mj_tn3]))
        · skip
          refine R_seg (φ := [mj_in (nI j) 3]) (pc' := 2) (L' := [.ref 18, .ref 7, .int e, .int ((nI j) + 1), .int ((s_X2_takeDigit (37) 0 3 I).1)]) (st' := []) (σ' := (mj_KS N, (mj_upI ((s_X2_takeDigit (37) 0 3 I).2) 7 (nI j) ((s_X2_takeDigit (37) 0 3 I).1)), mj_PP c d (37))) 6 rfl ⟨mj_in_nI (Nat.lt_of_lt_of_le hjm hmx) (by decide), trivial⟩ ?_
          rw [nI_1 j]
          rw [show s_X2_rs 37 7 m e (k + 1) j  I = s_X2_rs 37 7 m e k (j + 1)  (mj_upI ((s_X2_takeDigit (37) 0 3 I).2) 7 (nI j) ((s_X2_takeDigit (37) 0 3 I).1)) from by simp only [s_X2_rs, if_pos h1, if_neg h2, Bool.false_eq_true, ↓reduceIte, Nat.reduceAdd, Nat.reduceMul, mj_tn0, mj_tn1, mj_tn2, mj_tn3]]
          exact ih (j + 1)  (.int ((s_X2_takeDigit (37) 0 3 I).1)) (mj_upI ((s_X2_takeDigit (37) 0 3 I).2) 7 (nI j) ((s_X2_takeDigit (37) 0 3 I).1)) (by omega) (by omega) (by omega)
      · skip
        refine R_seg (φ := []) (pc' := 34) (L' := [.ref 18, .ref 7, .int e, .int (nI j), w4]) (st' := [.int 1]) (σ' := (mj_KS N, I, mj_PP c d (37))) 1 rfl trivial ?_
        exact R_rb rfl rfl (Or.inr rfl) (mj_leaf (by simp only [s_X2_rs, if_neg h1, Bool.false_eq_true, ↓reduceIte, Nat.reduceAdd, Nat.reduceMul, mj_tn0, mj_tn1, mj_tn2, mj_tn3]) (by simp only [s_X2_rs, if_neg h1, Bool.false_eq_true, ↓reduceIte, Nat.reduceAdd, Nat.reduceMul, mj_tn0, mj_tn1, mj_tn2, mj_tn3]))
  · skip
    intro k
    induction k with
    | zero =>
      intro j w4 I hk hlo hj
      refine R_seg (φ := []) (pc' := 4) (L' := [.ref 18, .ref 8, .int e, .int (nI j), w4]) (st' := [.int e, .int (nI j)]) (σ' := (mj_KS N, I, mj_PP c d (37))) 2 rfl trivial ?_
      refine R_br (q := (nI j : Int32) < e) (t := 7) (f := 33) (rest := []) rfl (fun h1 => absurd h1 (mj_eN he (by omega) hj hm)) (fun h1 => ?_)
      refine R_seg (φ := []) (pc' := 34) (L' := [.ref 18, .ref 8, .int e, .int (nI j), w4]) (st' := [.int 1]) (σ' := (mj_KS N, I, mj_PP c d (37))) 1 rfl trivial ?_
      exact R_rb rfl rfl (Or.inr rfl) (mj_leaf (by simp only [s_X2_rs, Bool.false_eq_true, ↓reduceIte, Nat.reduceAdd, Nat.reduceMul, mj_tn0, mj_tn1, mj_tn2, mj_tn3]) (by simp only [s_X2_rs, Bool.false_eq_true, ↓reduceIte, Nat.reduceAdd, Nat.reduceMul, mj_tn0, mj_tn1, mj_tn2, mj_tn3]))
    | succ k ih =>
      intro j w4 I hk hlo hj
      have hjm : j < m := by omega
      refine R_seg (φ := []) (pc' := 4) (L' := [.ref 18, .ref 8, .int e, .int (nI j), w4]) (st' := [.int e, .int (nI j)]) (σ' := (mj_KS N, I, mj_PP c d (37))) 2 rfl trivial ?_
      refine R_br (q := (nI j : Int32) < e) (t := 7) (f := 33) (rest := []) rfl (fun h1 => ?_) (fun h1 => ?_)
      · skip
        refine R_seg (φ := []) (pc' := 10) (L' := [.ref 18, .ref 8, .int e, .int (nI j), w4]) (st' := [.int 3, .int 0, .ref 18]) (σ' := (mj_KS N, I, mj_PP c d (37))) 3 rfl trivial ?_
        refine R_ce (idx := 39) (mid := 26) (kind := 0) (N := N) (M' := mj_m_X2_takeDigit) (As := [.ref 18, .int 0, .int 3]) (rest := []) (I := I) (P := mj_PP c d (37)) (I' := (s_X2_takeDigit (37) 0 3 I).2) (P' := mj_PP c d (37)) (v := some (.int ((s_X2_takeDigit (37) 0 3 I).1))) rfl rfl rfl mj_mc26 mj_dc26 rfl rfl rfl rfl rfl rfl (x_X2_takeDigit l b base D z N (37) 0 3 (by decide) I c d (by decide) (by decide)) ?_
        refine R_seg (φ := []) (pc' := 17) (L' := [.ref 18, .ref 8, .int e, .int (nI j), .int ((s_X2_takeDigit (37) 0 3 I).1)]) (st' := [.int ((s_X2_takeDigit (37) 0 3 I).1)]) (σ' := (mj_KS N, (s_X2_takeDigit (37) 0 3 I).2, mj_PP c d (37))) 2 rfl trivial ?_
        refine R_br (q := ((s_X2_takeDigit (37) 0 3 I).1 : Int32) < 0) (t := 20) (f := 22) (rest := []) rfl (fun h2 => ?_) (fun h2 => ?_)
        · skip
          refine R_seg (φ := []) (pc' := 21) (L' := [.ref 18, .ref 8, .int e, .int (nI j), .int ((s_X2_takeDigit (37) 0 3 I).1)]) (st' := [.int 0]) (σ' := (mj_KS N, (s_X2_takeDigit (37) 0 3 I).2, mj_PP c d (37))) 1 rfl trivial ?_
          exact R_rb rfl rfl (Or.inl rfl) (mj_leaf (by simp only [s_X2_rs, if_pos h1, if_pos h2, Bool.false_eq_true, ↓reduceIte, Nat.reduceAdd, Nat.reduceMul, mj_tn0, mj_tn1, mj_tn2, mj_tn3]) (by simp only [s_X2_rs, if_pos h1, if_pos h2, Bool.false_eq_true, ↓reduceIte, Nat.reduceAdd, Nat.reduceMul, mj_tn0, mj_tn1, mj_tn2, mj_tn3]))
        · skip
          refine R_seg (φ := [mj_in (nI j) 3]) (pc' := 2) (L' := [.ref 18, .ref 8, .int e, .int ((nI j) + 1), .int ((s_X2_takeDigit (37) 0 3 I).1)]) (st' := []) (σ' := (mj_KS N, (mj_upI ((s_X2_takeDigit (37) 0 3 I).2) 8 (nI j) ((s_X2_takeDigit (37) 0 3 I).1)), mj_PP c d (37))) 6 rfl ⟨mj_in_nI (Nat.lt_of_lt_of_le hjm hmx) (by decide), trivial⟩ ?_
          rw [nI_1 j]
          rw [show s_X2_rs 37 8 m e (k + 1) j  I = s_X2_rs 37 8 m e k (j + 1)  (mj_upI ((s_X2_takeDigit (37) 0 3 I).2) 8 (nI j) ((s_X2_takeDigit (37) 0 3 I).1)) from by simp only [s_X2_rs, if_pos h1, if_neg h2, Bool.false_eq_true, ↓reduceIte, Nat.reduceAdd, Nat.reduceMul, mj_tn0, mj_tn1, mj_tn2, mj_tn3]]
          exact ih (j + 1)  (.int ((s_X2_takeDigit (37) 0 3 I).1)) (mj_upI ((s_X2_takeDigit (37) 0 3 I).2) 8 (nI j) ((s_X2_takeDigit (37) 0 3 I).1)) (by omega) (by omega) (by omega)
      · skip
        refine R_seg (φ := []) (pc' := 34) (L' := [.ref 18, .ref 8, .int e, .int (nI j), w4]) (st' := [.int 1]) (σ' := (mj_KS N, I, mj_PP c d (37))) 1 rfl trivial ?_
        exact R_rb rfl rfl (Or.inr rfl) (mj_leaf (by simp only [s_X2_rs, if_neg h1, Bool.false_eq_true, ↓reduceIte, Nat.reduceAdd, Nat.reduceMul, mj_tn0, mj_tn1, mj_tn2, mj_tn3]) (by simp only [s_X2_rs, if_neg h1, Bool.false_eq_true, ↓reduceIte, Nat.reduceAdd, Nat.reduceMul, mj_tn0, mj_tn1, mj_tn2, mj_tn3]))
  · skip
    intro k
    induction k with
    | zero =>
      intro j w4 I hk hlo hj
      refine R_seg (φ := []) (pc' := 4) (L' := [.ref 18, .ref 9, .int e, .int (nI j), w4]) (st' := [.int e, .int (nI j)]) (σ' := (mj_KS N, I, mj_PP c d (37))) 2 rfl trivial ?_
      refine R_br (q := (nI j : Int32) < e) (t := 7) (f := 33) (rest := []) rfl (fun h1 => absurd h1 (mj_eN he (by omega) hj hm)) (fun h1 => ?_)
      refine R_seg (φ := []) (pc' := 34) (L' := [.ref 18, .ref 9, .int e, .int (nI j), w4]) (st' := [.int 1]) (σ' := (mj_KS N, I, mj_PP c d (37))) 1 rfl trivial ?_
      exact R_rb rfl rfl (Or.inr rfl) (mj_leaf (by simp only [s_X2_rs, Bool.false_eq_true, ↓reduceIte, Nat.reduceAdd, Nat.reduceMul, mj_tn0, mj_tn1, mj_tn2, mj_tn3]) (by simp only [s_X2_rs, Bool.false_eq_true, ↓reduceIte, Nat.reduceAdd, Nat.reduceMul, mj_tn0, mj_tn1, mj_tn2, mj_tn3]))
    | succ k ih =>
      intro j w4 I hk hlo hj
      have hjm : j < m := by omega
      refine R_seg (φ := []) (pc' := 4) (L' := [.ref 18, .ref 9, .int e, .int (nI j), w4]) (st' := [.int e, .int (nI j)]) (σ' := (mj_KS N, I, mj_PP c d (37))) 2 rfl trivial ?_
      refine R_br (q := (nI j : Int32) < e) (t := 7) (f := 33) (rest := []) rfl (fun h1 => ?_) (fun h1 => ?_)
      · skip
        refine R_seg (φ := []) (pc' := 10) (L' := [.ref 18, .ref 9, .int e, .int (nI j), w4]) (st' := [.int 3, .int 0, .ref 18]) (σ' := (mj_KS N, I, mj_PP c d (37))) 3 rfl trivial ?_
        refine R_ce (idx := 39) (mid := 26) (kind := 0) (N := N) (M' := mj_m_X2_takeDigit) (As := [.ref 18, .int 0, .int 3]) (rest := []) (I := I) (P := mj_PP c d (37)) (I' := (s_X2_takeDigit (37) 0 3 I).2) (P' := mj_PP c d (37)) (v := some (.int ((s_X2_takeDigit (37) 0 3 I).1))) rfl rfl rfl mj_mc26 mj_dc26 rfl rfl rfl rfl rfl rfl (x_X2_takeDigit l b base D z N (37) 0 3 (by decide) I c d (by decide) (by decide)) ?_
        refine R_seg (φ := []) (pc' := 17) (L' := [.ref 18, .ref 9, .int e, .int (nI j), .int ((s_X2_takeDigit (37) 0 3 I).1)]) (st' := [.int ((s_X2_takeDigit (37) 0 3 I).1)]) (σ' := (mj_KS N, (s_X2_takeDigit (37) 0 3 I).2, mj_PP c d (37))) 2 rfl trivial ?_
        refine R_br (q := ((s_X2_takeDigit (37) 0 3 I).1 : Int32) < 0) (t := 20) (f := 22) (rest := []) rfl (fun h2 => ?_) (fun h2 => ?_)
        · skip
          refine R_seg (φ := []) (pc' := 21) (L' := [.ref 18, .ref 9, .int e, .int (nI j), .int ((s_X2_takeDigit (37) 0 3 I).1)]) (st' := [.int 0]) (σ' := (mj_KS N, (s_X2_takeDigit (37) 0 3 I).2, mj_PP c d (37))) 1 rfl trivial ?_
          exact R_rb rfl rfl (Or.inl rfl) (mj_leaf (by simp only [s_X2_rs, if_pos h1, if_pos h2, Bool.false_eq_true, ↓reduceIte, Nat.reduceAdd, Nat.reduceMul, mj_tn0, mj_tn1, mj_tn2, mj_tn3]) (by simp only [s_X2_rs, if_pos h1, if_pos h2, Bool.false_eq_true, ↓reduceIte, Nat.reduceAdd, Nat.reduceMul, mj_tn0, mj_tn1, mj_tn2, mj_tn3]))
        · skip
          refine R_seg (φ := [mj_in (nI j) 3]) (pc' := 2) (L' := [.ref 18, .ref 9, .int e, .int ((nI j) + 1), .int ((s_X2_takeDigit (37) 0 3 I).1)]) (st' := []) (σ' := (mj_KS N, (mj_upI ((s_X2_takeDigit (37) 0 3 I).2) 9 (nI j) ((s_X2_takeDigit (37) 0 3 I).1)), mj_PP c d (37))) 6 rfl ⟨mj_in_nI (Nat.lt_of_lt_of_le hjm hmx) (by decide), trivial⟩ ?_
          rw [nI_1 j]
          rw [show s_X2_rs 37 9 m e (k + 1) j  I = s_X2_rs 37 9 m e k (j + 1)  (mj_upI ((s_X2_takeDigit (37) 0 3 I).2) 9 (nI j) ((s_X2_takeDigit (37) 0 3 I).1)) from by simp only [s_X2_rs, if_pos h1, if_neg h2, Bool.false_eq_true, ↓reduceIte, Nat.reduceAdd, Nat.reduceMul, mj_tn0, mj_tn1, mj_tn2, mj_tn3]]
          exact ih (j + 1)  (.int ((s_X2_takeDigit (37) 0 3 I).1)) (mj_upI ((s_X2_takeDigit (37) 0 3 I).2) 9 (nI j) ((s_X2_takeDigit (37) 0 3 I).1)) (by omega) (by omega) (by omega)
      · skip
        refine R_seg (φ := []) (pc' := 34) (L' := [.ref 18, .ref 9, .int e, .int (nI j), w4]) (st' := [.int 1]) (σ' := (mj_KS N, I, mj_PP c d (37))) 1 rfl trivial ?_
        exact R_rb rfl rfl (Or.inr rfl) (mj_leaf (by simp only [s_X2_rs, if_neg h1, Bool.false_eq_true, ↓reduceIte, Nat.reduceAdd, Nat.reduceMul, mj_tn0, mj_tn1, mj_tn2, mj_tn3]) (by simp only [s_X2_rs, if_neg h1, Bool.false_eq_true, ↓reduceIte, Nat.reduceAdd, Nat.reduceMul, mj_tn0, mj_tn1, mj_tn2, mj_tn3]))
  · skip
    intro k
    induction k with
    | zero =>
      intro j w4 I hk hlo hj
      refine R_seg (φ := []) (pc' := 4) (L' := [.ref 18, .ref 15, .int e, .int (nI j), w4]) (st' := [.int e, .int (nI j)]) (σ' := (mj_KS N, I, mj_PP c d (37))) 2 rfl trivial ?_
      refine R_br (q := (nI j : Int32) < e) (t := 7) (f := 33) (rest := []) rfl (fun h1 => absurd h1 (mj_eN he (by omega) hj hm)) (fun h1 => ?_)
      refine R_seg (φ := []) (pc' := 34) (L' := [.ref 18, .ref 15, .int e, .int (nI j), w4]) (st' := [.int 1]) (σ' := (mj_KS N, I, mj_PP c d (37))) 1 rfl trivial ?_
      exact R_rb rfl rfl (Or.inr rfl) (mj_leaf (by simp only [s_X2_rs, Bool.false_eq_true, ↓reduceIte, Nat.reduceAdd, Nat.reduceMul, mj_tn0, mj_tn1, mj_tn2, mj_tn3]) (by simp only [s_X2_rs, Bool.false_eq_true, ↓reduceIte, Nat.reduceAdd, Nat.reduceMul, mj_tn0, mj_tn1, mj_tn2, mj_tn3]))
    | succ k ih =>
      intro j w4 I hk hlo hj
      have hjm : j < m := by omega
      refine R_seg (φ := []) (pc' := 4) (L' := [.ref 18, .ref 15, .int e, .int (nI j), w4]) (st' := [.int e, .int (nI j)]) (σ' := (mj_KS N, I, mj_PP c d (37))) 2 rfl trivial ?_
      refine R_br (q := (nI j : Int32) < e) (t := 7) (f := 33) (rest := []) rfl (fun h1 => ?_) (fun h1 => ?_)
      · skip
        refine R_seg (φ := []) (pc' := 10) (L' := [.ref 18, .ref 15, .int e, .int (nI j), w4]) (st' := [.int 3, .int 0, .ref 18]) (σ' := (mj_KS N, I, mj_PP c d (37))) 3 rfl trivial ?_
        refine R_ce (idx := 39) (mid := 26) (kind := 0) (N := N) (M' := mj_m_X2_takeDigit) (As := [.ref 18, .int 0, .int 3]) (rest := []) (I := I) (P := mj_PP c d (37)) (I' := (s_X2_takeDigit (37) 0 3 I).2) (P' := mj_PP c d (37)) (v := some (.int ((s_X2_takeDigit (37) 0 3 I).1))) rfl rfl rfl mj_mc26 mj_dc26 rfl rfl rfl rfl rfl rfl (x_X2_takeDigit l b base D z N (37) 0 3 (by decide) I c d (by decide) (by decide)) ?_
        refine R_seg (φ := []) (pc' := 17) (L' := [.ref 18, .ref 15, .int e, .int (nI j), .int ((s_X2_takeDigit (37) 0 3 I).1)]) (st' := [.int ((s_X2_takeDigit (37) 0 3 I).1)]) (σ' := (mj_KS N, (s_X2_takeDigit (37) 0 3 I).2, mj_PP c d (37))) 2 rfl trivial ?_
        refine R_br (q := ((s_X2_takeDigit (37) 0 3 I).1 : Int32) < 0) (t := 20) (f := 22) (rest := []) rfl (fun h2 => ?_) (fun h2 => ?_)
        · skip
          refine R_seg (φ := []) (pc' := 21) (L' := [.ref 18, .ref 15, .int e, .int (nI j), .int ((s_X2_takeDigit (37) 0 3 I).1)]) (st' := [.int 0]) (σ' := (mj_KS N, (s_X2_takeDigit (37) 0 3 I).2, mj_PP c d (37))) 1 rfl trivial ?_
          exact R_rb rfl rfl (Or.inl rfl) (mj_leaf (by simp only [s_X2_rs, if_pos h1, if_pos h2, Bool.false_eq_true, ↓reduceIte, Nat.reduceAdd, Nat.reduceMul, mj_tn0, mj_tn1, mj_tn2, mj_tn3]) (by simp only [s_X2_rs, if_pos h1, if_pos h2, Bool.false_eq_true, ↓reduceIte, Nat.reduceAdd, Nat.reduceMul, mj_tn0, mj_tn1, mj_tn2, mj_tn3]))
        · skip
          refine R_seg (φ := [mj_in (nI j) 3]) (pc' := 2) (L' := [.ref 18, .ref 15, .int e, .int ((nI j) + 1), .int ((s_X2_takeDigit (37) 0 3 I).1)]) (st' := []) (σ' := (mj_KS N, (mj_upI ((s_X2_takeDigit (37) 0 3 I).2) 15 (nI j) ((s_X2_takeDigit (37) 0 3 I).1)), mj_PP c d (37))) 6 rfl ⟨mj_in_nI (Nat.lt_of_lt_of_le hjm hmx) (by decide), trivial⟩ ?_
          rw [nI_1 j]
          rw [show s_X2_rs 37 15 m e (k + 1) j  I = s_X2_rs 37 15 m e k (j + 1)  (mj_upI ((s_X2_takeDigit (37) 0 3 I).2) 15 (nI j) ((s_X2_takeDigit (37) 0 3 I).1)) from by simp only [s_X2_rs, if_pos h1, if_neg h2, Bool.false_eq_true, ↓reduceIte, Nat.reduceAdd, Nat.reduceMul, mj_tn0, mj_tn1, mj_tn2, mj_tn3]]
          exact ih (j + 1)  (.int ((s_X2_takeDigit (37) 0 3 I).1)) (mj_upI ((s_X2_takeDigit (37) 0 3 I).2) 15 (nI j) ((s_X2_takeDigit (37) 0 3 I).1)) (by omega) (by omega) (by omega)
      · skip
        refine R_seg (φ := []) (pc' := 34) (L' := [.ref 18, .ref 15, .int e, .int (nI j), w4]) (st' := [.int 1]) (σ' := (mj_KS N, I, mj_PP c d (37))) 1 rfl trivial ?_
        exact R_rb rfl rfl (Or.inr rfl) (mj_leaf (by simp only [s_X2_rs, if_neg h1, Bool.false_eq_true, ↓reduceIte, Nat.reduceAdd, Nat.reduceMul, mj_tn0, mj_tn1, mj_tn2, mj_tn3]) (by simp only [s_X2_rs, if_neg h1, Bool.false_eq_true, ↓reduceIte, Nat.reduceAdd, Nat.reduceMul, mj_tn0, mj_tn1, mj_tn2, mj_tn3]))
  · skip
    intro k
    induction k with
    | zero =>
      intro j w4 I hk hlo hj
      refine R_seg (φ := []) (pc' := 4) (L' := [.ref 18, .ref 16, .int e, .int (nI j), w4]) (st' := [.int e, .int (nI j)]) (σ' := (mj_KS N, I, mj_PP c d (37))) 2 rfl trivial ?_
      refine R_br (q := (nI j : Int32) < e) (t := 7) (f := 33) (rest := []) rfl (fun h1 => absurd h1 (mj_eN he (by omega) hj hm)) (fun h1 => ?_)
      refine R_seg (φ := []) (pc' := 34) (L' := [.ref 18, .ref 16, .int e, .int (nI j), w4]) (st' := [.int 1]) (σ' := (mj_KS N, I, mj_PP c d (37))) 1 rfl trivial ?_
      exact R_rb rfl rfl (Or.inr rfl) (mj_leaf (by simp only [s_X2_rs, Bool.false_eq_true, ↓reduceIte, Nat.reduceAdd, Nat.reduceMul, mj_tn0, mj_tn1, mj_tn2, mj_tn3]) (by simp only [s_X2_rs, Bool.false_eq_true, ↓reduceIte, Nat.reduceAdd, Nat.reduceMul, mj_tn0, mj_tn1, mj_tn2, mj_tn3]))
    | succ k ih =>
      intro j w4 I hk hlo hj
      have hjm : j < m := by omega
      refine R_seg (φ := []) (pc' := 4) (L' := [.ref 18, .ref 16, .int e, .int (nI j), w4]) (st' := [.int e, .int (nI j)]) (σ' := (mj_KS N, I, mj_PP c d (37))) 2 rfl trivial ?_
      refine R_br (q := (nI j : Int32) < e) (t := 7) (f := 33) (rest := []) rfl (fun h1 => ?_) (fun h1 => ?_)
      · skip
        refine R_seg (φ := []) (pc' := 10) (L' := [.ref 18, .ref 16, .int e, .int (nI j), w4]) (st' := [.int 3, .int 0, .ref 18]) (σ' := (mj_KS N, I, mj_PP c d (37))) 3 rfl trivial ?_
        refine R_ce (idx := 39) (mid := 26) (kind := 0) (N := N) (M' := mj_m_X2_takeDigit) (As := [.ref 18, .int 0, .int 3]) (rest := []) (I := I) (P := mj_PP c d (37)) (I' := (s_X2_takeDigit (37) 0 3 I).2) (P' := mj_PP c d (37)) (v := some (.int ((s_X2_takeDigit (37) 0 3 I).1))) rfl rfl rfl mj_mc26 mj_dc26 rfl rfl rfl rfl rfl rfl (x_X2_takeDigit l b base D z N (37) 0 3 (by decide) I c d (by decide) (by decide)) ?_
        refine R_seg (φ := []) (pc' := 17) (L' := [.ref 18, .ref 16, .int e, .int (nI j), .int ((s_X2_takeDigit (37) 0 3 I).1)]) (st' := [.int ((s_X2_takeDigit (37) 0 3 I).1)]) (σ' := (mj_KS N, (s_X2_takeDigit (37) 0 3 I).2, mj_PP c d (37))) 2 rfl trivial ?_
        refine R_br (q := ((s_X2_takeDigit (37) 0 3 I).1 : Int32) < 0) (t := 20) (f := 22) (rest := []) rfl (fun h2 => ?_) (fun h2 => ?_)
        · skip
          refine R_seg (φ := []) (pc' := 21) (L' := [.ref 18, .ref 16, .int e, .int (nI j), .int ((s_X2_takeDigit (37) 0 3 I).1)]) (st' := [.int 0]) (σ' := (mj_KS N, (s_X2_takeDigit (37) 0 3 I).2, mj_PP c d (37))) 1 rfl trivial ?_
          exact R_rb rfl rfl (Or.inl rfl) (mj_leaf (by simp only [s_X2_rs, if_pos h1, if_pos h2, Bool.false_eq_true, ↓reduceIte, Nat.reduceAdd, Nat.reduceMul, mj_tn0, mj_tn1, mj_tn2, mj_tn3]) (by simp only [s_X2_rs, if_pos h1, if_pos h2, Bool.false_eq_true, ↓reduceIte, Nat.reduceAdd, Nat.reduceMul, mj_tn0, mj_tn1, mj_tn2, mj_tn3]))
        · skip
          refine R_seg (φ := [mj_in (nI j) 3]) (pc' := 2) (L' := [.ref 18, .ref 16, .int e, .int ((nI j) + 1), .int ((s_X2_takeDigit (37) 0 3 I).1)]) (st' := []) (σ' := (mj_KS N, (mj_upI ((s_X2_takeDigit (37) 0 3 I).2) 16 (nI j) ((s_X2_takeDigit (37) 0 3 I).1)), mj_PP c d (37))) 6 rfl ⟨mj_in_nI (Nat.lt_of_lt_of_le hjm hmx) (by decide), trivial⟩ ?_
          rw [nI_1 j]
          rw [show s_X2_rs 37 16 m e (k + 1) j  I = s_X2_rs 37 16 m e k (j + 1)  (mj_upI ((s_X2_takeDigit (37) 0 3 I).2) 16 (nI j) ((s_X2_takeDigit (37) 0 3 I).1)) from by simp only [s_X2_rs, if_pos h1, if_neg h2, Bool.false_eq_true, ↓reduceIte, Nat.reduceAdd, Nat.reduceMul, mj_tn0, mj_tn1, mj_tn2, mj_tn3]]
          exact ih (j + 1)  (.int ((s_X2_takeDigit (37) 0 3 I).1)) (mj_upI ((s_X2_takeDigit (37) 0 3 I).2) 16 (nI j) ((s_X2_takeDigit (37) 0 3 I).1)) (by omega) (by omega) (by omega)
      · skip
        refine R_seg (φ := []) (pc' := 34) (L' := [.ref 18, .ref 16, .int e, .int (nI j), w4]) (st' := [.int 1]) (σ' := (mj_KS N, I, mj_PP c d (37))) 1 rfl trivial ?_
        exact R_rb rfl rfl (Or.inr rfl) (mj_leaf (by simp only [s_X2_rs, if_neg h1, Bool.false_eq_true, ↓reduceIte, Nat.reduceAdd, Nat.reduceMul, mj_tn0, mj_tn1, mj_tn2, mj_tn3]) (by simp only [s_X2_rs, if_neg h1, Bool.false_eq_true, ↓reduceIte, Nat.reduceAdd, Nat.reduceMul, mj_tn0, mj_tn1, mj_tn2, mj_tn3]))
  · skip
    intro k
    induction k with
    | zero =>
      intro j w4 I hk hlo hj
      refine R_seg (φ := []) (pc' := 4) (L' := [.ref 18, .ref 17, .int e, .int (nI j), w4]) (st' := [.int e, .int (nI j)]) (σ' := (mj_KS N, I, mj_PP c d (37))) 2 rfl trivial ?_
      refine R_br (q := (nI j : Int32) < e) (t := 7) (f := 33) (rest := []) rfl (fun h1 => absurd h1 (mj_eN he (by omega) hj hm)) (fun h1 => ?_)
      refine R_seg (φ := []) (pc' := 34) (L' := [.ref 18, .ref 17, .int e, .int (nI j), w4]) (st' := [.int 1]) (σ' := (mj_KS N, I, mj_PP c d (37))) 1 rfl trivial ?_
      exact R_rb rfl rfl (Or.inr rfl) (mj_leaf (by simp only [s_X2_rs, Bool.false_eq_true, ↓reduceIte, Nat.reduceAdd, Nat.reduceMul, mj_tn0, mj_tn1, mj_tn2, mj_tn3]) (by simp only [s_X2_rs, Bool.false_eq_true, ↓reduceIte, Nat.reduceAdd, Nat.reduceMul, mj_tn0, mj_tn1, mj_tn2, mj_tn3]))
    | succ k ih =>
      intro j w4 I hk hlo hj
      have hjm : j < m := by omega
      refine R_seg (φ := []) (pc' := 4) (L' := [.ref 18, .ref 17, .int e, .int (nI j), w4]) (st' := [.int e, .int (nI j)]) (σ' := (mj_KS N, I, mj_PP c d (37))) 2 rfl trivial ?_
      refine R_br (q := (nI j : Int32) < e) (t := 7) (f := 33) (rest := []) rfl (fun h1 => ?_) (fun h1 => ?_)
      · skip
        refine R_seg (φ := []) (pc' := 10) (L' := [.ref 18, .ref 17, .int e, .int (nI j), w4]) (st' := [.int 3, .int 0, .ref 18]) (σ' := (mj_KS N, I, mj_PP c d (37))) 3 rfl trivial ?_
        refine R_ce (idx := 39) (mid := 26) (kind := 0) (N := N) (M' := mj_m_X2_takeDigit) (As := [.ref 18, .int 0, .int 3]) (rest := []) (I := I) (P := mj_PP c d (37)) (I' := (s_X2_takeDigit (37) 0 3 I).2) (P' := mj_PP c d (37)) (v := some (.int ((s_X2_takeDigit (37) 0 3 I).1))) rfl rfl rfl mj_mc26 mj_dc26 rfl rfl rfl rfl rfl rfl (x_X2_takeDigit l b base D z N (37) 0 3 (by decide) I c d (by decide) (by decide)) ?_
        refine R_seg (φ := []) (pc' := 17) (L' := [.ref 18, .ref 17, .int e, .int (nI j), .int ((s_X2_takeDigit (37) 0 3 I).1)]) (st' := [.int ((s_X2_takeDigit (37) 0 3 I).1)]) (σ' := (mj_KS N, (s_X2_takeDigit (37) 0 3 I).2, mj_PP c d (37))) 2 rfl trivial ?_
        refine R_br (q := ((s_X2_takeDigit (37) 0 3 I).1 : Int32) < 0) (t := 20) (f := 22) (rest := []) rfl (fun h2 => ?_) (fun h2 => ?_)
        · skip
          refine R_seg (φ := []) (pc' := 21) (L' := [.ref 18, .ref 17, .int e, .int (nI j), .int ((s_X2_takeDigit (37) 0 3 I).1)]) (st' := [.int 0]) (σ' := (mj_KS N, (s_X2_takeDigit (37) 0 3 I).2, mj_PP c d (37))) 1 rfl trivial ?_
          exact R_rb rfl rfl (Or.inl rfl) (mj_leaf (by simp only [s_X2_rs, if_pos h1, if_pos h2, Bool.false_eq_true, ↓reduceIte, Nat.reduceAdd, Nat.reduceMul, mj_tn0, mj_tn1, mj_tn2, mj_tn3]) (by simp only [s_X2_rs, if_pos h1, if_pos h2, Bool.false_eq_true, ↓reduceIte, Nat.reduceAdd, Nat.reduceMul, mj_tn0, mj_tn1, mj_tn2, mj_tn3]))
        · skip
          refine R_seg (φ := [mj_in (nI j) 3]) (pc' := 2) (L' := [.ref 18, .ref 17, .int e, .int ((nI j) + 1), .int ((s_X2_takeDigit (37) 0 3 I).1)]) (st' := []) (σ' := (mj_KS N, (mj_upI ((s_X2_takeDigit (37) 0 3 I).2) 17 (nI j) ((s_X2_takeDigit (37) 0 3 I).1)), mj_PP c d (37))) 6 rfl ⟨mj_in_nI (Nat.lt_of_lt_of_le hjm hmx) (by decide), trivial⟩ ?_
          rw [nI_1 j]
          rw [show s_X2_rs 37 17 m e (k + 1) j  I = s_X2_rs 37 17 m e k (j + 1)  (mj_upI ((s_X2_takeDigit (37) 0 3 I).2) 17 (nI j) ((s_X2_takeDigit (37) 0 3 I).1)) from by simp only [s_X2_rs, if_pos h1, if_neg h2, Bool.false_eq_true, ↓reduceIte, Nat.reduceAdd, Nat.reduceMul, mj_tn0, mj_tn1, mj_tn2, mj_tn3]]
          exact ih (j + 1)  (.int ((s_X2_takeDigit (37) 0 3 I).1)) (mj_upI ((s_X2_takeDigit (37) 0 3 I).2) 17 (nI j) ((s_X2_takeDigit (37) 0 3 I).1)) (by omega) (by omega) (by omega)
      · skip
        refine R_seg (φ := []) (pc' := 34) (L' := [.ref 18, .ref 17, .int e, .int (nI j), w4]) (st' := [.int 1]) (σ' := (mj_KS N, I, mj_PP c d (37))) 1 rfl trivial ?_
        exact R_rb rfl rfl (Or.inr rfl) (mj_leaf (by simp only [s_X2_rs, if_neg h1, Bool.false_eq_true, ↓reduceIte, Nat.reduceAdd, Nat.reduceMul, mj_tn0, mj_tn1, mj_tn2, mj_tn3]) (by simp only [s_X2_rs, if_neg h1, Bool.false_eq_true, ↓reduceIte, Nat.reduceAdd, Nat.reduceMul, mj_tn0, mj_tn1, mj_tn2, mj_tn3]))
  · skip
    intro k
    induction k with
    | zero =>
      intro j w4 I hk hlo hj
      refine R_seg (φ := []) (pc' := 4) (L' := [.ref 18, .ref 3, .int e, .int (nI j), w4]) (st' := [.int e, .int (nI j)]) (σ' := (mj_KS N, I, mj_PP c d (39))) 2 rfl trivial ?_
      refine R_br (q := (nI j : Int32) < e) (t := 7) (f := 33) (rest := []) rfl (fun h1 => absurd h1 (mj_eN he (by omega) hj hm)) (fun h1 => ?_)
      refine R_seg (φ := []) (pc' := 34) (L' := [.ref 18, .ref 3, .int e, .int (nI j), w4]) (st' := [.int 1]) (σ' := (mj_KS N, I, mj_PP c d (39))) 1 rfl trivial ?_
      exact R_rb rfl rfl (Or.inr rfl) (mj_leaf (by simp only [s_X2_rs, Bool.false_eq_true, ↓reduceIte, Nat.reduceAdd, Nat.reduceMul, mj_tn0, mj_tn1, mj_tn2, mj_tn3]) (by simp only [s_X2_rs, Bool.false_eq_true, ↓reduceIte, Nat.reduceAdd, Nat.reduceMul, mj_tn0, mj_tn1, mj_tn2, mj_tn3]))
    | succ k ih =>
      intro j w4 I hk hlo hj
      have hjm : j < m := by omega
      refine R_seg (φ := []) (pc' := 4) (L' := [.ref 18, .ref 3, .int e, .int (nI j), w4]) (st' := [.int e, .int (nI j)]) (σ' := (mj_KS N, I, mj_PP c d (39))) 2 rfl trivial ?_
      refine R_br (q := (nI j : Int32) < e) (t := 7) (f := 33) (rest := []) rfl (fun h1 => ?_) (fun h1 => ?_)
      · skip
        refine R_seg (φ := []) (pc' := 10) (L' := [.ref 18, .ref 3, .int e, .int (nI j), w4]) (st' := [.int 3, .int 0, .ref 18]) (σ' := (mj_KS N, I, mj_PP c d (39))) 3 rfl trivial ?_
        refine R_ce (idx := 39) (mid := 26) (kind := 0) (N := N) (M' := mj_m_X2_takeDigit) (As := [.ref 18, .int 0, .int 3]) (rest := []) (I := I) (P := mj_PP c d (39)) (I' := (s_X2_takeDigit (39) 0 3 I).2) (P' := mj_PP c d (39)) (v := some (.int ((s_X2_takeDigit (39) 0 3 I).1))) rfl rfl rfl mj_mc26 mj_dc26 rfl rfl rfl rfl rfl rfl (x_X2_takeDigit l b base D z N (39) 0 3 (by decide) I c d (by decide) (by decide)) ?_
        refine R_seg (φ := []) (pc' := 17) (L' := [.ref 18, .ref 3, .int e, .int (nI j), .int ((s_X2_takeDigit (39) 0 3 I).1)]) (st' := [.int ((s_X2_takeDigit (39) 0 3 I).1)]) (σ' := (mj_KS N, (s_X2_takeDigit (39) 0 3 I).2, mj_PP c d (39))) 2 rfl trivial ?_
        refine R_br (q := ((s_X2_takeDigit (39) 0 3 I).1 : Int32) < 0) (t := 20) (f := 22) (rest := []) rfl (fun h2 => ?_) (fun h2 => ?_)
        · skip
          refine R_seg (φ := []) (pc' := 21) (L' := [.ref 18, .ref 3, .int e, .int (nI j), .int ((s_X2_takeDigit (39) 0 3 I).1)]) (st' := [.int 0]) (σ' := (mj_KS N, (s_X2_takeDigit (39) 0 3 I).2, mj_PP c d (39))) 1 rfl trivial ?_
          exact R_rb rfl rfl (Or.inl rfl) (mj_leaf (by simp only [s_X2_rs, if_pos h1, if_pos h2, Bool.false_eq_true, ↓reduceIte, Nat.reduceAdd, Nat.reduceMul, mj_tn0, mj_tn1, mj_tn2, mj_tn3]) (by simp only [s_X2_rs, if_pos h1, if_pos h2, Bool.false_eq_true, ↓reduceIte, Nat.reduceAdd, Nat.reduceMul, mj_tn0, mj_tn1, mj_tn2, mj_tn3]))
        · skip
          refine R_seg (φ := [mj_in (nI j) 6]) (pc' := 2) (L' := [.ref 18, .ref 3, .int e, .int ((nI j) + 1), .int ((s_X2_takeDigit (39) 0 3 I).1)]) (st' := []) (σ' := (mj_KS N, (mj_upI ((s_X2_takeDigit (39) 0 3 I).2) 3 (nI j) ((s_X2_takeDigit (39) 0 3 I).1)), mj_PP c d (39))) 6 rfl ⟨mj_in_nI (Nat.lt_of_lt_of_le hjm hmx) (by decide), trivial⟩ ?_
          rw [nI_1 j]
          rw [show s_X2_rs 39 3 m e (k + 1) j  I = s_X2_rs 39 3 m e k (j + 1)  (mj_upI ((s_X2_takeDigit (39) 0 3 I).2) 3 (nI j) ((s_X2_takeDigit (39) 0 3 I).1)) from by simp only [s_X2_rs, if_pos h1, if_neg h2, Bool.false_eq_true, ↓reduceIte, Nat.reduceAdd, Nat.reduceMul, mj_tn0, mj_tn1, mj_tn2, mj_tn3]]
          exact ih (j + 1)  (.int ((s_X2_takeDigit (39) 0 3 I).1)) (mj_upI ((s_X2_takeDigit (39) 0 3 I).2) 3 (nI j) ((s_X2_takeDigit (39) 0 3 I).1)) (by omega) (by omega) (by omega)
      · skip
        refine R_seg (φ := []) (pc' := 34) (L' := [.ref 18, .ref 3, .int e, .int (nI j), w4]) (st' := [.int 1]) (σ' := (mj_KS N, I, mj_PP c d (39))) 1 rfl trivial ?_
        exact R_rb rfl rfl (Or.inr rfl) (mj_leaf (by simp only [s_X2_rs, if_neg h1, Bool.false_eq_true, ↓reduceIte, Nat.reduceAdd, Nat.reduceMul, mj_tn0, mj_tn1, mj_tn2, mj_tn3]) (by simp only [s_X2_rs, if_neg h1, Bool.false_eq_true, ↓reduceIte, Nat.reduceAdd, Nat.reduceMul, mj_tn0, mj_tn1, mj_tn2, mj_tn3]))
  · skip
    intro k
    induction k with
    | zero =>
      intro j w4 I hk hlo hj
      refine R_seg (φ := []) (pc' := 4) (L' := [.ref 18, .ref 11, .int e, .int (nI j), w4]) (st' := [.int e, .int (nI j)]) (σ' := (mj_KS N, I, mj_PP c d (39))) 2 rfl trivial ?_
      refine R_br (q := (nI j : Int32) < e) (t := 7) (f := 33) (rest := []) rfl (fun h1 => absurd h1 (mj_eN he (by omega) hj hm)) (fun h1 => ?_)
      refine R_seg (φ := []) (pc' := 34) (L' := [.ref 18, .ref 11, .int e, .int (nI j), w4]) (st' := [.int 1]) (σ' := (mj_KS N, I, mj_PP c d (39))) 1 rfl trivial ?_
      exact R_rb rfl rfl (Or.inr rfl) (mj_leaf (by simp only [s_X2_rs, Bool.false_eq_true, ↓reduceIte, Nat.reduceAdd, Nat.reduceMul, mj_tn0, mj_tn1, mj_tn2, mj_tn3]) (by simp only [s_X2_rs, Bool.false_eq_true, ↓reduceIte, Nat.reduceAdd, Nat.reduceMul, mj_tn0, mj_tn1, mj_tn2, mj_tn3]))
    | succ k ih =>
      intro j w4 I hk hlo hj
      have hjm : j < m := by omega
      refine R_seg (φ := []) (pc' := 4) (L' := [.ref 18, .ref 11, .int e, .int (nI j), w4]) (st' := [.int e, .int (nI j)]) (σ' := (mj_KS N, I, mj_PP c d (39))) 2 rfl trivial ?_
      refine R_br (q := (nI j : Int32) < e) (t := 7) (f := 33) (rest := []) rfl (fun h1 => ?_) (fun h1 => ?_)
      · skip
        refine R_seg (φ := []) (pc' := 10) (L' := [.ref 18, .ref 11, .int e, .int (nI j), w4]) (st' := [.int 3, .int 0, .ref 18]) (σ' := (mj_KS N, I, mj_PP c d (39))) 3 rfl trivial ?_
        refine R_ce (idx := 39) (mid := 26) (kind := 0) (N := N) (M' := mj_m_X2_takeDigit) (As := [.ref 18, .int 0, .int 3]) (rest := []) (I := I) (P := mj_PP c d (39)) (I' := (s_X2_takeDigit (39) 0 3 I).2) (P' := mj_PP c d (39)) (v := some (.int ((s_X2_takeDigit (39) 0 3 I).1))) rfl rfl rfl mj_mc26 mj_dc26 rfl rfl rfl rfl rfl rfl (x_X2_takeDigit l b base D z N (39) 0 3 (by decide) I c d (by decide) (by decide)) ?_
        refine R_seg (φ := []) (pc' := 17) (L' := [.ref 18, .ref 11, .int e, .int (nI j), .int ((s_X2_takeDigit (39) 0 3 I).1)]) (st' := [.int ((s_X2_takeDigit (39) 0 3 I).1)]) (σ' := (mj_KS N, (s_X2_takeDigit (39) 0 3 I).2, mj_PP c d (39))) 2 rfl trivial ?_
        refine R_br (q := ((s_X2_takeDigit (39) 0 3 I).1 : Int32) < 0) (t := 20) (f := 22) (rest := []) rfl (fun h2 => ?_) (fun h2 => ?_)
        · skip
          refine R_seg (φ := []) (pc' := 21) (L' := [.ref 18, .ref 11, .int e, .int (nI j), .int ((s_X2_takeDigit (39) 0 3 I).1)]) (st' := [.int 0]) (σ' := (mj_KS N, (s_X2_takeDigit (39) 0 3 I).2, mj_PP c d (39))) 1 rfl trivial ?_
          exact R_rb rfl rfl (Or.inl rfl) (mj_leaf (by simp only [s_X2_rs, if_pos h1, if_pos h2, Bool.false_eq_true, ↓reduceIte, Nat.reduceAdd, Nat.reduceMul, mj_tn0, mj_tn1, mj_tn2, mj_tn3]) (by simp only [s_X2_rs, if_pos h1, if_pos h2, Bool.false_eq_true, ↓reduceIte, Nat.reduceAdd, Nat.reduceMul, mj_tn0, mj_tn1, mj_tn2, mj_tn3]))
        · skip
          refine R_seg (φ := [mj_in (nI j) 6]) (pc' := 2) (L' := [.ref 18, .ref 11, .int e, .int ((nI j) + 1), .int ((s_X2_takeDigit (39) 0 3 I).1)]) (st' := []) (σ' := (mj_KS N, (mj_upI ((s_X2_takeDigit (39) 0 3 I).2) 11 (nI j) ((s_X2_takeDigit (39) 0 3 I).1)), mj_PP c d (39))) 6 rfl ⟨mj_in_nI (Nat.lt_of_lt_of_le hjm hmx) (by decide), trivial⟩ ?_
          rw [nI_1 j]
          rw [show s_X2_rs 39 11 m e (k + 1) j  I = s_X2_rs 39 11 m e k (j + 1)  (mj_upI ((s_X2_takeDigit (39) 0 3 I).2) 11 (nI j) ((s_X2_takeDigit (39) 0 3 I).1)) from by simp only [s_X2_rs, if_pos h1, if_neg h2, Bool.false_eq_true, ↓reduceIte, Nat.reduceAdd, Nat.reduceMul, mj_tn0, mj_tn1, mj_tn2, mj_tn3]]
          exact ih (j + 1)  (.int ((s_X2_takeDigit (39) 0 3 I).1)) (mj_upI ((s_X2_takeDigit (39) 0 3 I).2) 11 (nI j) ((s_X2_takeDigit (39) 0 3 I).1)) (by omega) (by omega) (by omega)
      · skip
        refine R_seg (φ := []) (pc' := 34) (L' := [.ref 18, .ref 11, .int e, .int (nI j), w4]) (st' := [.int 1]) (σ' := (mj_KS N, I, mj_PP c d (39))) 1 rfl trivial ?_
        exact R_rb rfl rfl (Or.inr rfl) (mj_leaf (by simp only [s_X2_rs, if_neg h1, Bool.false_eq_true, ↓reduceIte, Nat.reduceAdd, Nat.reduceMul, mj_tn0, mj_tn1, mj_tn2, mj_tn3]) (by simp only [s_X2_rs, if_neg h1, Bool.false_eq_true, ↓reduceIte, Nat.reduceAdd, Nat.reduceMul, mj_tn0, mj_tn1, mj_tn2, mj_tn3]))
  · skip
    intro k
    induction k with
    | zero =>
      intro j w4 I hk hlo hj
      refine R_seg (φ := []) (pc' := 4) (L' := [.ref 18, .ref 7, .int e, .int (nI j), w4]) (st' := [.int e, .int (nI j)]) (σ' := (mj_KS N, I, mj_PP c d (39))) 2 rfl trivial ?_
      refine R_br (q := (nI j : Int32) < e) (t := 7) (f := 33) (rest := []) rfl (fun h1 => absurd h1 (mj_eN he (by omega) hj hm)) (fun h1 => ?_)
      refine R_seg (φ := []) (pc' := 34) (L' := [.ref 18, .ref 7, .int e, .int (nI j), w4]) (st' := [.int 1]) (σ' := (mj_KS N, I, mj_PP c d (39))) 1 rfl trivial ?_
      exact R_rb rfl rfl (Or.inr rfl) (mj_leaf (by simp only [s_X2_rs, Bool.false_eq_true, ↓reduceIte, Nat.reduceAdd, Nat.reduceMul, mj_tn0, mj_tn1, mj_tn2, mj_tn3]) (by simp only [s_X2_rs, Bool.false_eq_true, ↓reduceIte, Nat.reduceAdd, Nat.reduceMul, mj_tn0, mj_tn1, mj_tn2, mj_tn3]))
    | succ k ih =>
      intro j w4 I hk hlo hj
      have hjm : j < m := by omega
      refine R_seg (φ := []) (pc' := 4) (L' := [.ref 18, .ref 7, .int e, .int (nI j), w4]) (st' := [.int e, .int (nI j)]) (σ' := (mj_KS N, I, mj_PP c d (39))) 2 rfl trivial ?_
      refine R_br (q := (nI j : Int32) < e) (t := 7) (f := 33) (rest := []) rfl (fun h1 => ?_) (fun h1 => ?_)
      · skip
        refine R_seg (φ := []) (pc' := 10) (L' := [.ref 18, .ref 7, .int e, .int (nI j), w4]) (st' := [.int 3, .int 0, .ref 18]) (σ' := (mj_KS N, I, mj_PP c d (39))) 3 rfl trivial ?_
        refine R_ce (idx := 39) (mid := 26) (kind := 0) (N := N) (M' := mj_m_X2_takeDigit) (As := [.ref 18, .int 0, .int 3]) (rest := []) (I := I) (P := mj_PP c d (39)) (I' := (s_X2_takeDigit (39) 0 3 I).2) (P' := mj_PP c d (39)) (v := some (.int ((s_X2_takeDigit (39) 0 3 I).1))) rfl rfl rfl mj_mc26 mj_dc26 rfl rfl rfl rfl rfl rfl (x_X2_takeDigit l b base D z N (39) 0 3 (by decide) I c d (by decide) (by decide)) ?_
        refine R_seg (φ := []) (pc' := 17) (L' := [.ref 18, .ref 7, .int e, .int (nI j), .int ((s_X2_takeDigit (39) 0 3 I).1)]) (st' := [.int ((s_X2_takeDigit (39) 0 3 I).1)]) (σ' := (mj_KS N, (s_X2_takeDigit (39) 0 3 I).2, mj_PP c d (39))) 2 rfl trivial ?_
        refine R_br (q := ((s_X2_takeDigit (39) 0 3 I).1 : Int32) < 0) (t := 20) (f := 22) (rest := []) rfl (fun h2 => ?_) (fun h2 => ?_)
        · skip
          refine R_seg (φ := []) (pc' := 21) (L' := [.ref 18, .ref 7, .int e, .int (nI j), .int ((s_X2_takeDigit (39) 0 3 I).1)]) (st' := [.int 0]) (σ' := (mj_KS N, (s_X2_takeDigit (39) 0 3 I).2, mj_PP c d (39))) 1 rfl trivial ?_
          exact R_rb rfl rfl (Or.inl rfl) (mj_leaf (by simp only [s_X2_rs, if_pos h1, if_pos h2, Bool.false_eq_true, ↓reduceIte, Nat.reduceAdd, Nat.reduceMul, mj_tn0, mj_tn1, mj_tn2, mj_tn3]) (by simp only [s_X2_rs, if_pos h1, if_pos h2, Bool.false_eq_true, ↓reduceIte, Nat.reduceAdd, Nat.reduceMul, mj_tn0, mj_tn1, mj_tn2, mj_tn3]))
        · skip
          refine R_seg (φ := [mj_in (nI j) 3]) (pc' := 2) (L' := [.ref 18, .ref 7, .int e, .int ((nI j) + 1), .int ((s_X2_takeDigit (39) 0 3 I).1)]) (st' := []) (σ' := (mj_KS N, (mj_upI ((s_X2_takeDigit (39) 0 3 I).2) 7 (nI j) ((s_X2_takeDigit (39) 0 3 I).1)), mj_PP c d (39))) 6 rfl ⟨mj_in_nI (Nat.lt_of_lt_of_le hjm hmx) (by decide), trivial⟩ ?_
          rw [nI_1 j]
          rw [show s_X2_rs 39 7 m e (k + 1) j  I = s_X2_rs 39 7 m e k (j + 1)  (mj_upI ((s_X2_takeDigit (39) 0 3 I).2) 7 (nI j) ((s_X2_takeDigit (39) 0 3 I).1)) from by simp only [s_X2_rs, if_pos h1, if_neg h2, Bool.false_eq_true, ↓reduceIte, Nat.reduceAdd, Nat.reduceMul, mj_tn0, mj_tn1, mj_tn2, mj_tn3]]
          exact ih (j + 1)  (.int ((s_X2_takeDigit (39) 0 3 I).1)) (mj_upI ((s_X2_takeDigit (39) 0 3 I).2) 7 (nI j) ((s_X2_takeDigit (39) 0 3 I).1)) (by omega) (by omega) (by omega)
      · skip
        refine R_seg (φ := []) (pc' := 34) (L' := [.ref 18, .ref 7, .int e, .int (nI j), w4]) (st' := [.int 1]) (σ' := (mj_KS N, I, mj_PP c d (39))) 1 rfl trivial ?_
        exact R_rb rfl rfl (Or.inr rfl) (mj_leaf (by simp only [s_X2_rs, if_neg h1, Bool.false_eq_true, ↓reduceIte, Nat.reduceAdd, Nat.reduceMul, mj_tn0, mj_tn1, mj_tn2, mj_tn3]) (by simp only [s_X2_rs, if_neg h1, Bool.false_eq_true, ↓reduceIte, Nat.reduceAdd, Nat.reduceMul, mj_tn0, mj_tn1, mj_tn2, mj_tn3]))
  · skip
    intro k
    induction k with
    | zero =>
      intro j w4 I hk hlo hj
      refine R_seg (φ := []) (pc' := 4) (L' := [.ref 18, .ref 8, .int e, .int (nI j), w4]) (st' := [.int e, .int (nI j)]) (σ' := (mj_KS N, I, mj_PP c d (39))) 2 rfl trivial ?_
      refine R_br (q := (nI j : Int32) < e) (t := 7) (f := 33) (rest := []) rfl (fun h1 => absurd h1 (mj_eN he (by omega) hj hm)) (fun h1 => ?_)
      refine R_seg (φ := []) (pc' := 34) (L' := [.ref 18, .ref 8, .int e, .int (nI j), w4]) (st' := [.int 1]) (σ' := (mj_KS N, I, mj_PP c d (39))) 1 rfl trivial ?_
      exact R_rb rfl rfl (Or.inr rfl) (mj_leaf (by simp only [s_X2_rs, Bool.false_eq_true, ↓reduceIte, Nat.reduceAdd, Nat.reduceMul, mj_tn0, mj_tn1, mj_tn2, mj_tn3]) (by simp only [s_X2_rs, Bool.false_eq_true, ↓reduceIte, Nat.reduceAdd, Nat.reduceMul, mj_tn0, mj_tn1, mj_tn2, mj_tn3]))
    | succ k ih =>
      intro j w4 I hk hlo hj
      have hjm : j < m := by omega
      refine R_seg (φ := []) (pc' := 4) (L' := [.ref 18, .ref 8, .int e, .int (nI j), w4]) (st' := [.int e, .int (nI j)]) (σ' := (mj_KS N, I, mj_PP c d (39))) 2 rfl trivial ?_
      refine R_br (q := (nI j : Int32) < e) (t := 7) (f := 33) (rest := []) rfl (fun h1 => ?_) (fun h1 => ?_)
      · skip
        refine R_seg (φ := []) (pc' := 10) (L' := [.ref 18, .ref 8, .int e, .int (nI j), w4]) (st' := [.int 3, .int 0, .ref 18]) (σ' := (mj_KS N, I, mj_PP c d (39))) 3 rfl trivial ?_
        refine R_ce (idx := 39) (mid := 26) (kind := 0) (N := N) (M' := mj_m_X2_takeDigit) (As := [.ref 18, .int 0, .int 3]) (rest := []) (I := I) (P := mj_PP c d (39)) (I' := (s_X2_takeDigit (39) 0 3 I).2) (P' := mj_PP c d (39)) (v := some (.int ((s_X2_takeDigit (39) 0 3 I).1))) rfl rfl rfl mj_mc26 mj_dc26 rfl rfl rfl rfl rfl rfl (x_X2_takeDigit l b base D z N (39) 0 3 (by decide) I c d (by decide) (by decide)) ?_
        refine R_seg (φ := []) (pc' := 17) (L' := [.ref 18, .ref 8, .int e, .int (nI j), .int ((s_X2_takeDigit (39) 0 3 I).1)]) (st' := [.int ((s_X2_takeDigit (39) 0 3 I).1)]) (σ' := (mj_KS N, (s_X2_takeDigit (39) 0 3 I).2, mj_PP c d (39))) 2 rfl trivial ?_
        refine R_br (q := ((s_X2_takeDigit (39) 0 3 I).1 : Int32) < 0) (t := 20) (f := 22) (rest := []) rfl (fun h2 => ?_) (fun h2 => ?_)
        · skip
          refine R_seg (φ := []) (pc' := 21) (L' := [.ref 18, .ref 8, .int e, .int (nI j), .int ((s_X2_takeDigit (39) 0 3 I).1)]) (st' := [.int 0]) (σ' := (mj_KS N, (s_X2_takeDigit (39) 0 3 I).2, mj_PP c d (39))) 1 rfl trivial ?_
          exact R_rb rfl rfl (Or.inl rfl) (mj_leaf (by simp only [s_X2_rs, if_pos h1, if_pos h2, Bool.false_eq_true, ↓reduceIte, Nat.reduceAdd, Nat.reduceMul, mj_tn0, mj_tn1, mj_tn2, mj_tn3]) (by simp only [s_X2_rs, if_pos h1, if_pos h2, Bool.false_eq_true, ↓reduceIte, Nat.reduceAdd, Nat.reduceMul, mj_tn0, mj_tn1, mj_tn2, mj_tn3]))
        · skip
          refine R_seg (φ := [mj_in (nI j) 3]) (pc' := 2) (L' := [.ref 18, .ref 8, .int e, .int ((nI j) + 1), .int ((s_X2_takeDigit (39) 0 3 I).1)]) (st' := []) (σ' := (mj_KS N, (mj_upI ((s_X2_takeDigit (39) 0 3 I).2) 8 (nI j) ((s_X2_takeDigit (39) 0 3 I).1)), mj_PP c d (39))) 6 rfl ⟨mj_in_nI (Nat.lt_of_lt_of_le hjm hmx) (by decide), trivial⟩ ?_
          rw [nI_1 j]
          rw [show s_X2_rs 39 8 m e (k + 1) j  I = s_X2_rs 39 8 m e k (j + 1)  (mj_upI ((s_X2_takeDigit (39) 0 3 I).2) 8 (nI j) ((s_X2_takeDigit (39) 0 3 I).1)) from by simp only [s_X2_rs, if_pos h1, if_neg h2, Bool.false_eq_true, ↓reduceIte, Nat.reduceAdd, Nat.reduceMul, mj_tn0, mj_tn1, mj_tn2, mj_tn3]]
          exact ih (j + 1)  (.int ((s_X2_takeDigit (39) 0 3 I).1)) (mj_upI ((s_X2_takeDigit (39) 0 3 I).2) 8 (nI j) ((s_X2_takeDigit (39) 0 3 I).1)) (by omega) (by omega) (by omega)
      · skip
        refine R_seg (φ := []) (pc' := 34) (L' := [.ref 18, .ref 8, .int e, .int (nI j), w4]) (st' := [.int 1]) (σ' := (mj_KS N, I, mj_PP c d (39))) 1 rfl trivial ?_
        exact R_rb rfl rfl (Or.inr rfl) (mj_leaf (by simp only [s_X2_rs, if_neg h1, Bool.false_eq_true, ↓reduceIte, Nat.reduceAdd, Nat.reduceMul, mj_tn0, mj_tn1, mj_tn2, mj_tn3]) (by simp only [s_X2_rs, if_neg h1, Bool.false_eq_true, ↓reduceIte, Nat.reduceAdd, Nat.reduceMul, mj_tn0, mj_tn1, mj_tn2, mj_tn3]))
  · skip
    intro k
    induction k with
    | zero =>
      intro j w4 I hk hlo hj
      refine R_seg (φ := []) (pc' := 4) (L' := [.ref 18, .ref 9, .int e, .int (nI j), w4]) (st' := [.int e, .int (nI j)]) (σ' := (mj_KS N, I, mj_PP c d (39))) 2 rfl trivial ?_
      refine R_br (q := (nI j : Int32) < e) (t := 7) (f := 33) (rest := []) rfl (fun h1 => absurd h1 (mj_eN he (by omega) hj hm)) (fun h1 => ?_)
      refine R_seg (φ := []) (pc' := 34) (L' := [.ref 18, .ref 9, .int e, .int (nI j), w4]) (st' := [.int 1]) (σ' := (mj_KS N, I, mj_PP c d (39))) 1 rfl trivial ?_
      exact R_rb rfl rfl (Or.inr rfl) (mj_leaf (by simp only [s_X2_rs, Bool.false_eq_true, ↓reduceIte, Nat.reduceAdd, Nat.reduceMul, mj_tn0, mj_tn1, mj_tn2, mj_tn3]) (by simp only [s_X2_rs, Bool.false_eq_true, ↓reduceIte, Nat.reduceAdd, Nat.reduceMul, mj_tn0, mj_tn1, mj_tn2, mj_tn3]))
    | succ k ih =>
      intro j w4 I hk hlo hj
      have hjm : j < m := by omega
      refine R_seg (φ := []) (pc' := 4) (L' := [.ref 18, .ref 9, .int e, .int (nI j), w4]) (st' := [.int e, .int (nI j)]) (σ' := (mj_KS N, I, mj_PP c d (39))) 2 rfl trivial ?_
      refine R_br (q := (nI j : Int32) < e) (t := 7) (f := 33) (rest := []) rfl (fun h1 => ?_) (fun h1 => ?_)
      · skip
        refine R_seg (φ := []) (pc' := 10) (L' := [.ref 18, .ref 9, .int e, .int (nI j), w4]) (st' := [.int 3, .int 0, .ref 18]) (σ' := (mj_KS N, I, mj_PP c d (39))) 3 rfl trivial ?_
        refine R_ce (idx := 39) (mid := 26) (kind := 0) (N := N) (M' := mj_m_X2_takeDigit) (As := [.ref 18, .int 0, .int 3]) (rest := []) (I := I) (P := mj_PP c d (39)) (I' := (s_X2_takeDigit (39) 0 3 I).2) (P' := mj_PP c d (39)) (v := some (.int ((s_X2_takeDigit (39) 0 3 I).1))) rfl rfl rfl mj_mc26 mj_dc26 rfl rfl rfl rfl rfl rfl (x_X2_takeDigit l b base D z N (39) 0 3 (by decide) I c d (by decide) (by decide)) ?_
        refine R_seg (φ := []) (pc' := 17) (L' := [.ref 18, .ref 9, .int e, .int (nI j), .int ((s_X2_takeDigit (39) 0 3 I).1)]) (st' := [.int ((s_X2_takeDigit (39) 0 3 I).1)]) (σ' := (mj_KS N, (s_X2_takeDigit (39) 0 3 I).2, mj_PP c d (39))) 2 rfl trivial ?_
        refine R_br (q := ((s_X2_takeDigit (39) 0 3 I).1 : Int32) < 0) (t := 20) (f := 22) (rest := []) rfl (fun h2 => ?_) (fun h2 => ?_)
        · skip
          refine R_seg (φ := []) (pc' := 21) (L' := [.ref 18, .ref 9, .int e, .int (nI j), .int ((s_X2_takeDigit (39) 0 3 I).1)]) (st' := [.int 0]) (σ' := (mj_KS N, (s_X2_takeDigit (39) 0 3 I).2, mj_PP c d (39))) 1 rfl trivial ?_
          exact R_rb rfl rfl (Or.inl rfl) (mj_leaf (by simp only [s_X2_rs, if_pos h1, if_pos h2, Bool.false_eq_true, ↓reduceIte, Nat.reduceAdd, Nat.reduceMul, mj_tn0, mj_tn1, mj_tn2, mj_tn3]) (by simp only [s_X2_rs, if_pos h1, if_pos h2, Bool.false_eq_true, ↓reduceIte, Nat.reduceAdd, Nat.reduceMul, mj_tn0, mj_tn1, mj_tn2, mj_tn3]))
        · skip
          refine R_seg (φ := [mj_in (nI j) 3]) (pc' := 2) (L' := [.ref 18, .ref 9, .int e, .int ((nI j) + 1), .int ((s_X2_takeDigit (39) 0 3 I).1)]) (st' := []) (σ' := (mj_KS N, (mj_upI ((s_X2_takeDigit (39) 0 3 I).2) 9 (nI j) ((s_X2_takeDigit (39) 0 3 I).1)), mj_PP c d (39))) 6 rfl ⟨mj_in_nI (Nat.lt_of_lt_of_le hjm hmx) (by decide), trivial⟩ ?_
          rw [nI_1 j]
          rw [show s_X2_rs 39 9 m e (k + 1) j  I = s_X2_rs 39 9 m e k (j + 1)  (mj_upI ((s_X2_takeDigit (39) 0 3 I).2) 9 (nI j) ((s_X2_takeDigit (39) 0 3 I).1)) from by simp only [s_X2_rs, if_pos h1, if_neg h2, Bool.false_eq_true, ↓reduceIte, Nat.reduceAdd, Nat.reduceMul, mj_tn0, mj_tn1, mj_tn2, mj_tn3]]
          exact ih (j + 1)  (.int ((s_X2_takeDigit (39) 0 3 I).1)) (mj_upI ((s_X2_takeDigit (39) 0 3 I).2) 9 (nI j) ((s_X2_takeDigit (39) 0 3 I).1)) (by omega) (by omega) (by omega)
      · skip
        refine R_seg (φ := []) (pc' := 34) (L' := [.ref 18, .ref 9, .int e, .int (nI j), w4]) (st' := [.int 1]) (σ' := (mj_KS N, I, mj_PP c d (39))) 1 rfl trivial ?_
        exact R_rb rfl rfl (Or.inr rfl) (mj_leaf (by simp only [s_X2_rs, if_neg h1, Bool.false_eq_true, ↓reduceIte, Nat.reduceAdd, Nat.reduceMul, mj_tn0, mj_tn1, mj_tn2, mj_tn3]) (by simp only [s_X2_rs, if_neg h1, Bool.false_eq_true, ↓reduceIte, Nat.reduceAdd, Nat.reduceMul, mj_tn0, mj_tn1, mj_tn2, mj_tn3]))
  · skip
    intro k
    induction k with
    | zero =>
      intro j w4 I hk hlo hj
      refine R_seg (φ := []) (pc' := 4) (L' := [.ref 18, .ref 15, .int e, .int (nI j), w4]) (st' := [.int e, .int (nI j)]) (σ' := (mj_KS N, I, mj_PP c d (39))) 2 rfl trivial ?_
      refine R_br (q := (nI j : Int32) < e) (t := 7) (f := 33) (rest := []) rfl (fun h1 => absurd h1 (mj_eN he (by omega) hj hm)) (fun h1 => ?_)
      refine R_seg (φ := []) (pc' := 34) (L' := [.ref 18, .ref 15, .int e, .int (nI j), w4]) (st' := [.int 1]) (σ' := (mj_KS N, I, mj_PP c d (39))) 1 rfl trivial ?_
      exact R_rb rfl rfl (Or.inr rfl) (mj_leaf (by simp only [s_X2_rs, Bool.false_eq_true, ↓reduceIte, Nat.reduceAdd, Nat.reduceMul, mj_tn0, mj_tn1, mj_tn2, mj_tn3]) (by simp only [s_X2_rs, Bool.false_eq_true, ↓reduceIte, Nat.reduceAdd, Nat.reduceMul, mj_tn0, mj_tn1, mj_tn2, mj_tn3]))
    | succ k ih =>
      intro j w4 I hk hlo hj
      have hjm : j < m := by omega
      refine R_seg (φ := []) (pc' := 4) (L' := [.ref 18, .ref 15, .int e, .int (nI j), w4]) (st' := [.int e, .int (nI j)]) (σ' := (mj_KS N, I, mj_PP c d (39))) 2 rfl trivial ?_
      refine R_br (q := (nI j : Int32) < e) (t := 7) (f := 33) (rest := []) rfl (fun h1 => ?_) (fun h1 => ?_)
      · skip
        refine R_seg (φ := []) (pc' := 10) (L' := [.ref 18, .ref 15, .int e, .int (nI j), w4]) (st' := [.int 3, .int 0, .ref 18]) (σ' := (mj_KS N, I, mj_PP c d (39))) 3 rfl trivial ?_
        refine R_ce (idx := 39) (mid := 26) (kind := 0) (N := N) (M' := mj_m_X2_takeDigit) (As := [.ref 18, .int 0, .int 3]) (rest := []) (I := I) (P := mj_PP c d (39)) (I' := (s_X2_takeDigit (39) 0 3 I).2) (P' := mj_PP c d (39)) (v := some (.int ((s_X2_takeDigit (39) 0 3 I).1))) rfl rfl rfl mj_mc26 mj_dc26 rfl rfl rfl rfl rfl rfl (x_X2_takeDigit l b base D z N (39) 0 3 (by decide) I c d (by decide) (by decide)) ?_
        refine R_seg (φ := []) (pc' := 17) (L' := [.ref 18, .ref 15, .int e, .int (nI j), .int ((s_X2_takeDigit (39) 0 3 I).1)]) (st' := [.int ((s_X2_takeDigit (39) 0 3 I).1)]) (σ' := (mj_KS N, (s_X2_takeDigit (39) 0 3 I).2, mj_PP c d (39))) 2 rfl trivial ?_
        refine R_br (q := ((s_X2_takeDigit (39) 0 3 I).1 : Int32) < 0) (t := 20) (f := 22) (rest := []) rfl (fun h2 => ?_) (fun h2 => ?_)
        · skip
          refine R_seg (φ := []) (pc' := 21) (L' := [.ref 18, .ref 15, .int e, .int (nI j), .int ((s_X2_takeDigit (39) 0 3 I).1)]) (st' := [.int 0]) (σ' := (mj_KS N, (s_X2_takeDigit (39) 0 3 I).2, mj_PP c d (39))) 1 rfl trivial ?_
          exact R_rb rfl rfl (Or.inl rfl) (mj_leaf (by simp only [s_X2_rs, if_pos h1, if_pos h2, Bool.false_eq_true, ↓reduceIte, Nat.reduceAdd, Nat.reduceMul, mj_tn0, mj_tn1, mj_tn2, mj_tn3]) (by simp only [s_X2_rs, if_pos h1, if_pos h2, Bool.false_eq_true, ↓reduceIte, Nat.reduceAdd, Nat.reduceMul, mj_tn0, mj_tn1, mj_tn2, mj_tn3]))
        · skip
          refine R_seg (φ := [mj_in (nI j) 3]) (pc' := 2) (L' := [.ref 18, .ref 15, .int e, .int ((nI j) + 1), .int ((s_X2_takeDigit (39) 0 3 I).1)]) (st' := []) (σ' := (mj_KS N, (mj_upI ((s_X2_takeDigit (39) 0 3 I).2) 15 (nI j) ((s_X2_takeDigit (39) 0 3 I).1)), mj_PP c d (39))) 6 rfl ⟨mj_in_nI (Nat.lt_of_lt_of_le hjm hmx) (by decide), trivial⟩ ?_
          rw [nI_1 j]
          rw [show s_X2_rs 39 15 m e (k + 1) j  I = s_X2_rs 39 15 m e k (j + 1)  (mj_upI ((s_X2_takeDigit (39) 0 3 I).2) 15 (nI j) ((s_X2_takeDigit (39) 0 3 I).1)) from by simp only [s_X2_rs, if_pos h1, if_neg h2, Bool.false_eq_true, ↓reduceIte, Nat.reduceAdd, Nat.reduceMul, mj_tn0, mj_tn1, mj_tn2, mj_tn3]]
          exact ih (j + 1)  (.int ((s_X2_takeDigit (39) 0 3 I).1)) (mj_upI ((s_X2_takeDigit (39) 0 3 I).2) 15 (nI j) ((s_X2_takeDigit (39) 0 3 I).1)) (by omega) (by omega) (by omega)
      · skip
        refine R_seg (φ := []) (pc' := 34) (L' := [.ref 18, .ref 15, .int e, .int (nI j), w4]) (st' := [.int 1]) (σ' := (mj_KS N, I, mj_PP c d (39))) 1 rfl trivial ?_
        exact R_rb rfl rfl (Or.inr rfl) (mj_leaf (by simp only [s_X2_rs, if_neg h1, Bool.false_eq_true, ↓reduceIte, Nat.reduceAdd, Nat.reduceMul, mj_tn0, mj_tn1, mj_tn2, mj_tn3]) (by simp only [s_X2_rs, if_neg h1, Bool.false_eq_true, ↓reduceIte, Nat.reduceAdd, Nat.reduceMul, mj_tn0, mj_tn1, mj_tn2, mj_tn3]))
  · skip
    intro k
    induction k with
    | zero =>
      intro j w4 I hk hlo hj
      refine R_seg (φ := []) (pc' := 4) (L' := [.ref 18, .ref 16, .int e, .int (nI j), w4]) (st' := [.int e, .int (nI j)]) (σ' := (mj_KS N, I, mj_PP c d (39))) 2 rfl trivial ?_
      refine R_br (q := (nI j : Int32) < e) (t := 7) (f := 33) (rest := []) rfl (fun h1 => absurd h1 (mj_eN he (by omega) hj hm)) (fun h1 => ?_)
      refine R_seg (φ := []) (pc' := 34) (L' := [.ref 18, .ref 16, .int e, .int (nI j), w4]) (st' := [.int 1]) (σ' := (mj_KS N, I, mj_PP c d (39))) 1 rfl trivial ?_
      exact R_rb rfl rfl (Or.inr rfl) (mj_leaf (by simp only [s_X2_rs, Bool.false_eq_true, ↓reduceIte, Nat.reduceAdd, Nat.reduceMul, mj_tn0, mj_tn1, mj_tn2, mj_tn3]) (by simp only [s_X2_rs, Bool.false_eq_true, ↓reduceIte, Nat.reduceAdd, Nat.reduceMul, mj_tn0, mj_tn1, mj_tn2, mj_tn3]))
    | succ k ih =>
      intro j w4 I hk hlo hj
      have hjm : j < m := by omega
      refine R_seg (φ := []) (pc' := 4) (L' := [.ref 18, .ref 16, .int e, .int (nI j), w4]) (st' := [.int e, .int (nI j)]) (σ' := (mj_KS N, I, mj_PP c d (39))) 2 rfl trivial ?_
      refine R_br (q := (nI j : Int32) < e) (t := 7) (f := 33) (rest := []) rfl (fun h1 => ?_) (fun h1 => ?_)
      · skip
        refine R_seg (φ := []) (pc' := 10) (L' := [.ref 18, .ref 16, .int e, .int (nI j), w4]) (st' := [.int 3, .int 0, .ref 18]) (σ' := (mj_KS N, I, mj_PP c d (39))) 3 rfl trivial ?_
        refine R_ce (idx := 39) (mid := 26) (kind := 0) (N := N) (M' := mj_m_X2_takeDigit) (As := [.ref 18, .int 0, .int 3]) (rest := []) (I := I) (P := mj_PP c d (39)) (I' := (s_X2_takeDigit (39) 0 3 I).2) (P' := mj_PP c d (39)) (v := some (.int ((s_X2_takeDigit (39) 0 3 I).1))) rfl rfl rfl mj_mc26 mj_dc26 rfl rfl rfl rfl rfl rfl (x_X2_takeDigit l b base D z N (39) 0 3 (by decide) I c d (by decide) (by decide)) ?_
        refine R_seg (φ := []) (pc' := 17) (L' := [.ref 18, .ref 16, .int e, .int (nI j), .int ((s_X2_takeDigit (39) 0 3 I).1)]) (st' := [.int ((s_X2_takeDigit (39) 0 3 I).1)]) (σ' := (mj_KS N, (s_X2_takeDigit (39) 0 3 I).2, mj_PP c d (39))) 2 rfl trivial ?_
        refine R_br (q := ((s_X2_takeDigit (39) 0 3 I).1 : Int32) < 0) (t := 20) (f := 22) (rest := []) rfl (fun h2 => ?_) (fun h2 => ?_)
        · skip
          refine R_seg (φ := []) (pc' := 21) (L' := [.ref 18, .ref 16, .int e, .int (nI j), .int ((s_X2_takeDigit (39) 0 3 I).1)]) (st' := [.int 0]) (σ' := (mj_KS N, (s_X2_takeDigit (39) 0 3 I).2, mj_PP c d (39))) 1 rfl trivial ?_
          exact R_rb rfl rfl (Or.inl rfl) (mj_leaf (by simp only [s_X2_rs, if_pos h1, if_pos h2, Bool.false_eq_true, ↓reduceIte, Nat.reduceAdd, Nat.reduceMul, mj_tn0, mj_tn1, mj_tn2, mj_tn3]) (by simp only [s_X2_rs, if_pos h1, if_pos h2, Bool.false_eq_true, ↓reduceIte, Nat.reduceAdd, Nat.reduceMul, mj_tn0, mj_tn1, mj_tn2, mj_tn3]))
        · skip
          refine R_seg (φ := [mj_in (nI j) 3]) (pc' := 2) (L' := [.ref 18, .ref 16, .int e, .int ((nI j) + 1), .int ((s_X2_takeDigit (39) 0 3 I).1)]) (st' := []) (σ' := (mj_KS N, (mj_upI ((s_X2_takeDigit (39) 0 3 I).2) 16 (nI j) ((s_X2_takeDigit (39) 0 3 I).1)), mj_PP c d (39))) 6 rfl ⟨mj_in_nI (Nat.lt_of_lt_of_le hjm hmx) (by decide), trivial⟩ ?_
          rw [nI_1 j]
          rw [show s_X2_rs 39 16 m e (k + 1) j  I = s_X2_rs 39 16 m e k (j + 1)  (mj_upI ((s_X2_takeDigit (39) 0 3 I).2) 16 (nI j) ((s_X2_takeDigit (39) 0 3 I).1)) from by simp only [s_X2_rs, if_pos h1, if_neg h2, Bool.false_eq_true, ↓reduceIte, Nat.reduceAdd, Nat.reduceMul, mj_tn0, mj_tn1, mj_tn2, mj_tn3]]
          exact ih (j + 1)  (.int ((s_X2_takeDigit (39) 0 3 I).1)) (mj_upI ((s_X2_takeDigit (39) 0 3 I).2) 16 (nI j) ((s_X2_takeDigit (39) 0 3 I).1)) (by omega) (by omega) (by omega)
      · skip
        refine R_seg (φ := []) (pc' := 34) (L' := [.ref 18, .ref 16, .int e, .int (nI j), w4]) (st' := [.int 1]) (σ' := (mj_KS N, I, mj_PP c d (39))) 1 rfl trivial ?_
        exact R_rb rfl rfl (Or.inr rfl) (mj_leaf (by simp only [s_X2_rs, if_neg h1, Bool.false_eq_true, ↓reduceIte, Nat.reduceAdd, Nat.reduceMul, mj_tn0, mj_tn1, mj_tn2, mj_tn3]) (by simp only [s_X2_rs, if_neg h1, Bool.false_eq_true, ↓reduceIte, Nat.reduceAdd, Nat.reduceMul, mj_tn0, mj_tn1, mj_tn2, mj_tn3]))
  · skip
    intro k
    induction k with
    | zero =>
      intro j w4 I hk hlo hj
      refine R_seg (φ := []) (pc' := 4) (L' := [.ref 18, .ref 17, .int e, .int (nI j), w4]) (st' := [.int e, .int (nI j)]) (σ' := (mj_KS N, I, mj_PP c d (39))) 2 rfl trivial ?_
      refine R_br (q := (nI j : Int32) < e) (t := 7) (f := 33) (rest := []) rfl (fun h1 => absurd h1 (mj_eN he (by omega) hj hm)) (fun h1 => ?_)
      refine R_seg (φ := []) (pc' := 34) (L' := [.ref 18, .ref 17, .int e, .int (nI j), w4]) (st' := [.int 1]) (σ' := (mj_KS N, I, mj_PP c d (39))) 1 rfl trivial ?_
      exact R_rb rfl rfl (Or.inr rfl) (mj_leaf (by simp only [s_X2_rs, Bool.false_eq_true, ↓reduceIte, Nat.reduceAdd, Nat.reduceMul, mj_tn0, mj_tn1, mj_tn2, mj_tn3]) (by simp only [s_X2_rs, Bool.false_eq_true, ↓reduceIte, Nat.reduceAdd, Nat.reduceMul, mj_tn0, mj_tn1, mj_tn2, mj_tn3]))
    | succ k ih =>
      intro j w4 I hk hlo hj
      have hjm : j < m := by omega
      refine R_seg (φ := []) (pc' := 4) (L' := [.ref 18, .ref 17, .int e, .int (nI j), w4]) (st' := [.int e, .int (nI j)]) (σ' := (mj_KS N, I, mj_PP c d (39))) 2 rfl trivial ?_
      refine R_br (q := (nI j : Int32) < e) (t := 7) (f := 33) (rest := []) rfl (fun h1 => ?_) (fun h1 => ?_)
      · skip
        refine R_seg (φ := []) (pc' := 10) (L' := [.ref 18, .ref 17, .int e, .int (nI j), w4]) (st' := [.int 3, .int 0, .ref 18]) (σ' := (mj_KS N, I, mj_PP c d (39))) 3 rfl trivial ?_
        refine R_ce (idx := 39) (mid := 26) (kind := 0) (N := N) (M' := mj_m_X2_takeDigit) (As := [.ref 18, .int 0, .int 3]) (rest := []) (I := I) (P := mj_PP c d (39)) (I' := (s_X2_takeDigit (39) 0 3 I).2) (P' := mj_PP c d (39)) (v := some (.int ((s_X2_takeDigit (39) 0 3 I).1))) rfl rfl rfl mj_mc26 mj_dc26 rfl rfl rfl rfl rfl rfl (x_X2_takeDigit l b base D z N (39) 0 3 (by decide) I c d (by decide) (by decide)) ?_
        refine R_seg (φ := []) (pc' := 17) (L' := [.ref 18, .ref 17, .int e, .int (nI j), .int ((s_X2_takeDigit (39) 0 3 I).1)]) (st' := [.int ((s_X2_takeDigit (39) 0 3 I).1)]) (σ' := (mj_KS N, (s_X2_takeDigit (39) 0 3 I).2, mj_PP c d (39))) 2 rfl trivial ?_
        refine R_br (q := ((s_X2_takeDigit (39) 0 3 I).1 : Int32) < 0) (t := 20) (f := 22) (rest := []) rfl (fun h2 => ?_) (fun h2 => ?_)
        · skip
          refine R_seg (φ := []) (pc' := 21) (L' := [.ref 18, .ref 17, .int e, .int (nI j), .int ((s_X2_takeDigit (39) 0 3 I).1)]) (st' := [.int 0]) (σ' := (mj_KS N, (s_X2_takeDigit (39) 0 3 I).2, mj_PP c d (39))) 1 rfl trivial ?_
          exact R_rb rfl rfl (Or.inl rfl) (mj_leaf (by simp only [s_X2_rs, if_pos h1, if_pos h2, Bool.false_eq_true, ↓reduceIte, Nat.reduceAdd, Nat.reduceMul, mj_tn0, mj_tn1, mj_tn2, mj_tn3]) (by simp only [s_X2_rs, if_pos h1, if_pos h2, Bool.false_eq_true, ↓reduceIte, Nat.reduceAdd, Nat.reduceMul, mj_tn0, mj_tn1, mj_tn2, mj_tn3]))
        · skip
          refine R_seg (φ := [mj_in (nI j) 3]) (pc' := 2) (L' := [.ref 18, .ref 17, .int e, .int ((nI j) + 1), .int ((s_X2_takeDigit (39) 0 3 I).1)]) (st' := []) (σ' := (mj_KS N, (mj_upI ((s_X2_takeDigit (39) 0 3 I).2) 17 (nI j) ((s_X2_takeDigit (39) 0 3 I).1)), mj_PP c d (39))) 6 rfl ⟨mj_in_nI (Nat.lt_of_lt_of_le hjm hmx) (by decide), trivial⟩ ?_
          rw [nI_1 j]
          rw [show s_X2_rs 39 17 m e (k + 1) j  I = s_X2_rs 39 17 m e k (j + 1)  (mj_upI ((s_X2_takeDigit (39) 0 3 I).2) 17 (nI j) ((s_X2_takeDigit (39) 0 3 I).1)) from by simp only [s_X2_rs, if_pos h1, if_neg h2, Bool.false_eq_true, ↓reduceIte, Nat.reduceAdd, Nat.reduceMul, mj_tn0, mj_tn1, mj_tn2, mj_tn3]]
          exact ih (j + 1)  (.int ((s_X2_takeDigit (39) 0 3 I).1)) (mj_upI ((s_X2_takeDigit (39) 0 3 I).2) 17 (nI j) ((s_X2_takeDigit (39) 0 3 I).1)) (by omega) (by omega) (by omega)
      · skip
        refine R_seg (φ := []) (pc' := 34) (L' := [.ref 18, .ref 17, .int e, .int (nI j), w4]) (st' := [.int 1]) (σ' := (mj_KS N, I, mj_PP c d (39))) 1 rfl trivial ?_
        exact R_rb rfl rfl (Or.inr rfl) (mj_leaf (by simp only [s_X2_rs, if_neg h1, Bool.false_eq_true, ↓reduceIte, Nat.reduceAdd, Nat.reduceMul, mj_tn0, mj_tn1, mj_tn2, mj_tn3]) (by simp only [s_X2_rs, if_neg h1, Bool.false_eq_true, ↓reduceIte, Nat.reduceAdd, Nat.reduceMul, mj_tn0, mj_tn1, mj_tn2, mj_tn3]))
  · skip
    intro k
    induction k with
    | zero =>
      intro j w4 I hk hlo hj
      refine R_seg (φ := []) (pc' := 4) (L' := [.ref 18, .ref 3, .int e, .int (nI j), w4]) (st' := [.int e, .int (nI j)]) (σ' := (mj_KS N, I, mj_PP c d (41))) 2 rfl trivial ?_
      refine R_br (q := (nI j : Int32) < e) (t := 7) (f := 33) (rest := []) rfl (fun h1 => absurd h1 (mj_eN he (by omega) hj hm)) (fun h1 => ?_)
      refine R_seg (φ := []) (pc' := 34) (L' := [.ref 18, .ref 3, .int e, .int (nI j), w4]) (st' := [.int 1]) (σ' := (mj_KS N, I, mj_PP c d (41))) 1 rfl trivial ?_
      exact R_rb rfl rfl (Or.inr rfl) (mj_leaf (by simp only [s_X2_rs, Bool.false_eq_true, ↓reduceIte, Nat.reduceAdd, Nat.reduceMul, mj_tn0, mj_tn1, mj_tn2, mj_tn3]) (by simp only [s_X2_rs, Bool.false_eq_true, ↓reduceIte, Nat.reduceAdd, Nat.reduceMul, mj_tn0, mj_tn1, mj_tn2, mj_tn3]))
    | succ k ih =>
      intro j w4 I hk hlo hj
      have hjm : j < m := by omega
      refine R_seg (φ := []) (pc' := 4) (L' := [.ref 18, .ref 3, .int e, .int (nI j), w4]) (st' := [.int e, .int (nI j)]) (σ' := (mj_KS N, I, mj_PP c d (41))) 2 rfl trivial ?_
      refine R_br (q := (nI j : Int32) < e) (t := 7) (f := 33) (rest := []) rfl (fun h1 => ?_) (fun h1 => ?_)
      · skip
        refine R_seg (φ := []) (pc' := 10) (L' := [.ref 18, .ref 3, .int e, .int (nI j), w4]) (st' := [.int 3, .int 0, .ref 18]) (σ' := (mj_KS N, I, mj_PP c d (41))) 3 rfl trivial ?_
        refine R_ce (idx := 39) (mid := 26) (kind := 0) (N := N) (M' := mj_m_X2_takeDigit) (As := [.ref 18, .int 0, .int 3]) (rest := []) (I := I) (P := mj_PP c d (41)) (I' := (s_X2_takeDigit (41) 0 3 I).2) (P' := mj_PP c d (41)) (v := some (.int ((s_X2_takeDigit (41) 0 3 I).1))) rfl rfl rfl mj_mc26 mj_dc26 rfl rfl rfl rfl rfl rfl (x_X2_takeDigit l b base D z N (41) 0 3 (by decide) I c d (by decide) (by decide)) ?_
        refine R_seg (φ := []) (pc' := 17) (L' := [.ref 18, .ref 3, .int e, .int (nI j), .int ((s_X2_takeDigit (41) 0 3 I).1)]) (st' := [.int ((s_X2_takeDigit (41) 0 3 I).1)]) (σ' := (mj_KS N, (s_X2_takeDigit (41) 0 3 I).2, mj_PP c d (41))) 2 rfl trivial ?_
        refine R_br (q := ((s_X2_takeDigit (41) 0 3 I).1 : Int32) < 0) (t := 20) (f := 22) (rest := []) rfl (fun h2 => ?_) (fun h2 => ?_)
        · skip
          refine R_seg (φ := []) (pc' := 21) (L' := [.ref 18, .ref 3, .int e, .int (nI j), .int ((s_X2_takeDigit (41) 0 3 I).1)]) (st' := [.int 0]) (σ' := (mj_KS N, (s_X2_takeDigit (41) 0 3 I).2, mj_PP c d (41))) 1 rfl trivial ?_
          exact R_rb rfl rfl (Or.inl rfl) (mj_leaf (by simp only [s_X2_rs, if_pos h1, if_pos h2, Bool.false_eq_true, ↓reduceIte, Nat.reduceAdd, Nat.reduceMul, mj_tn0, mj_tn1, mj_tn2, mj_tn3]) (by simp only [s_X2_rs, if_pos h1, if_pos h2, Bool.false_eq_true, ↓reduceIte, Nat.reduceAdd, Nat.reduceMul, mj_tn0, mj_tn1, mj_tn2, mj_tn3]))
        · skip
          refine R_seg (φ := [mj_in (nI j) 6]) (pc' := 2) (L' := [.ref 18, .ref 3, .int e, .int ((nI j) + 1), .int ((s_X2_takeDigit (41) 0 3 I).1)]) (st' := []) (σ' := (mj_KS N, (mj_upI ((s_X2_takeDigit (41) 0 3 I).2) 3 (nI j) ((s_X2_takeDigit (41) 0 3 I).1)), mj_PP c d (41))) 6 rfl ⟨mj_in_nI (Nat.lt_of_lt_of_le hjm hmx) (by decide), trivial⟩ ?_
          rw [nI_1 j]
          rw [show s_X2_rs 41 3 m e (k + 1) j  I = s_X2_rs 41 3 m e k (j + 1)  (mj_upI ((s_X2_takeDigit (41) 0 3 I).2) 3 (nI j) ((s_X2_takeDigit (41) 0 3 I).1)) from by simp only [s_X2_rs, if_pos h1, if_neg h2, Bool.false_eq_true, ↓reduceIte, Nat.reduceAdd, Nat.reduceMul, mj_tn0, mj_tn1, mj_tn2, mj_tn3]]
          exact ih (j + 1)  (.int ((s_X2_takeDigit (41) 0 3 I).1)) (mj_upI ((s_X2_takeDigit (41) 0 3 I).2) 3 (nI j) ((s_X2_takeDigit (41) 0 3 I).1)) (by omega) (by omega) (by omega)
      · skip
        refine R_seg (φ := []) (pc' := 34) (L' := [.ref 18, .ref 3, .int e, .int (nI j), w4]) (st' := [.int 1]) (σ' := (mj_KS N, I, mj_PP c d (41))) 1 rfl trivial ?_
        exact R_rb rfl rfl (Or.inr rfl) (mj_leaf (by simp only [s_X2_rs, if_neg h1, Bool.false_eq_true, ↓reduceIte, Nat.reduceAdd, Nat.reduceMul, mj_tn0, mj_tn1, mj_tn2, mj_tn3]) (by simp only [s_X2_rs, if_neg h1, Bool.false_eq_true, ↓reduceIte, Nat.reduceAdd, Nat.reduceMul, mj_tn0, mj_tn1, mj_tn2, mj_tn3]))
  · skip
    intro k
    induction k with
    | zero =>
      intro j w4 I hk hlo hj
      refine R_seg (φ := []) (pc' := 4) (L' := [.ref 18, .ref 11, .int e, .int (nI j), w4]) (st' := [.int e, .int (nI j)]) (σ' := (mj_KS N, I, mj_PP c d (41))) 2 rfl trivial ?_
      refine R_br (q := (nI j : Int32) < e) (t := 7) (f := 33) (rest := []) rfl (fun h1 => absurd h1 (mj_eN he (by omega) hj hm)) (fun h1 => ?_)
      refine R_seg (φ := []) (pc' := 34) (L' := [.ref 18, .ref 11, .int e, .int (nI j), w4]) (st' := [.int 1]) (σ' := (mj_KS N, I, mj_PP c d (41))) 1 rfl trivial ?_
      exact R_rb rfl rfl (Or.inr rfl) (mj_leaf (by simp only [s_X2_rs, Bool.false_eq_true, ↓reduceIte, Nat.reduceAdd, Nat.reduceMul, mj_tn0, mj_tn1, mj_tn2, mj_tn3]) (by simp only [s_X2_rs, Bool.false_eq_true, ↓reduceIte, Nat.reduceAdd, Nat.reduceMul, mj_tn0, mj_tn1, mj_tn2, mj_tn3]))
    | succ k ih =>
      intro j w4 I hk hlo hj
      have hjm : j < m := by omega
      refine R_seg (φ := []) (pc' := 4) (L' := [.ref 18, .ref 11, .int e, .int (nI j), w4]) (st' := [.int e, .int (nI j)]) (σ' := (mj_KS N, I, mj_PP c d (41))) 2 rfl trivial ?_
      refine R_br (q := (nI j : Int32) < e) (t := 7) (f := 33) (rest := []) rfl (fun h1 => ?_) (fun h1 => ?_)
      · skip
        refine R_seg (φ := []) (pc' := 10) (L' := [.ref 18, .ref 11, .int e, .int (nI j), w4]) (st' := [.int 3, .int 0, .ref 18]) (σ' := (mj_KS N, I, mj_PP c d (41))) 3 rfl trivial ?_
        refine R_ce (idx := 39) (mid := 26) (kind := 0) (N := N) (M' := mj_m_X2_takeDigit) (As := [.ref 18, .int 0, .int 3]) (rest := []) (I := I) (P := mj_PP c d (41)) (I' := (s_X2_takeDigit (41) 0 3 I).2) (P' := mj_PP c d (41)) (v := some (.int ((s_X2_takeDigit (41) 0 3 I).1))) rfl rfl rfl mj_mc26 mj_dc26 rfl rfl rfl rfl rfl rfl (x_X2_takeDigit l b base D z N (41) 0 3 (by decide) I c d (by decide) (by decide)) ?_
        refine R_seg (φ := []) (pc' := 17) (L' := [.ref 18, .ref 11, .int e, .int (nI j), .int ((s_X2_takeDigit (41) 0 3 I).1)]) (st' := [.int ((s_X2_takeDigit (41) 0 3 I).1)]) (σ' := (mj_KS N, (s_X2_takeDigit (41) 0 3 I).2, mj_PP c d (41))) 2 rfl trivial ?_
        refine R_br (q := ((s_X2_takeDigit (41) 0 3 I).1 : Int32) < 0) (t := 20) (f := 22) (rest := []) rfl (fun h2 => ?_) (fun h2 => ?_)
        · skip
          refine R_seg (φ := []) (pc' := 21) (L' := [.ref 18, .ref 11, .int e, .int (nI j), .int ((s_X2_takeDigit (41) 0 3 I).1)]) (st' := [.int 0]) (σ' := (mj_KS N, (s_X2_takeDigit (41) 0 3 I).2, mj_PP c d (41))) 1 rfl trivial ?_
          exact R_rb rfl rfl (Or.inl rfl) (mj_leaf (by simp only [s_X2_rs, if_pos h1, if_pos h2, Bool.false_eq_true, ↓reduceIte, Nat.reduceAdd, Nat.reduceMul, mj_tn0, mj_tn1, mj_tn2, mj_tn3]) (by simp only [s_X2_rs, if_pos h1, if_pos h2, Bool.false_eq_true, ↓reduceIte, Nat.reduceAdd, Nat.reduceMul, mj_tn0, mj_tn1, mj_tn2, mj_tn3]))
        · skip
          refine R_seg (φ := [mj_in (nI j) 6]) (pc' := 2) (L' := [.ref 18, .ref 11, .int e, .int ((nI j) + 1), .int ((s_X2_takeDigit (41) 0 3 I).1)]) (st' := []) (σ' := (mj_KS N, (mj_upI ((s_X2_takeDigit (41) 0 3 I).2) 11 (nI j) ((s_X2_takeDigit (41) 0 3 I).1)), mj_PP c d (41))) 6 rfl ⟨mj_in_nI (Nat.lt_of_lt_of_le hjm hmx) (by decide), trivial⟩ ?_
          rw [nI_1 j]
          rw [show s_X2_rs 41 11 m e (k + 1) j  I = s_X2_rs 41 11 m e k (j + 1)  (mj_upI ((s_X2_takeDigit (41) 0 3 I).2) 11 (nI j) ((s_X2_takeDigit (41) 0 3 I).1)) from by simp only [s_X2_rs, if_pos h1, if_neg h2, Bool.false_eq_true, ↓reduceIte, Nat.reduceAdd, Nat.reduceMul, mj_tn0, mj_tn1, mj_tn2, mj_tn3]]
          exact ih (j + 1)  (.int ((s_X2_takeDigit (41) 0 3 I).1)) (mj_upI ((s_X2_takeDigit (41) 0 3 I).2) 11 (nI j) ((s_X2_takeDigit (41) 0 3 I).1)) (by omega) (by omega) (by omega)
      · skip
        refine R_seg (φ := []) (pc' := 34) (L' := [.ref 18, .ref 11, .int e, .int (nI j), w4]) (st' := [.int 1]) (σ' := (mj_KS N, I, mj_PP c d (41))) 1 rfl trivial ?_
        exact R_rb rfl rfl (Or.inr rfl) (mj_leaf (by simp only [s_X2_rs, if_neg h1, Bool.false_eq_true, ↓reduceIte, Nat.reduceAdd, Nat.reduceMul, mj_tn0, mj_tn1, mj_tn2, mj_tn3]) (by simp only [s_X2_rs, if_neg h1, Bool.false_eq_true, ↓reduceIte, Nat.reduceAdd, Nat.reduceMul, mj_tn0, mj_tn1, mj_tn2, mj_tn3]))
  · skip
    intro k
    induction k with
    | zero =>
      intro j w4 I hk hlo hj
      refine R_seg (φ := []) (pc' := 4) (L' := [.ref 18, .ref 7, .int e, .int (nI j), w4]) (st' := [.int e, .int (nI j)]) (σ' := (mj_KS N, I, mj_PP c d (41))) 2 rfl trivial ?_
      refine R_br (q := (nI j : Int32) < e) (t := 7) (f := 33) (rest := []) rfl (fun h1 => absurd h1 (mj_eN he (by omega) hj hm)) (fun h1 => ?_)
      refine R_seg (φ := []) (pc' := 34) (L' := [.ref 18, .ref 7, .int e, .int (nI j), w4]) (st' := [.int 1]) (σ' := (mj_KS N, I, mj_PP c d (41))) 1 rfl trivial ?_
      exact R_rb rfl rfl (Or.inr rfl) (mj_leaf (by simp only [s_X2_rs, Bool.false_eq_true, ↓reduceIte, Nat.reduceAdd, Nat.reduceMul, mj_tn0, mj_tn1, mj_tn2, mj_tn3]) (by simp only [s_X2_rs, Bool.false_eq_true, ↓reduceIte, Nat.reduceAdd, Nat.reduceMul, mj_tn0, mj_tn1, mj_tn2, mj_tn3]))
    | succ k ih =>
      intro j w4 I hk hlo hj
      have hjm : j < m := by omega
      refine R_seg (φ := []) (pc' := 4) (L' := [.ref 18, .ref 7, .int e, .int (nI j), w4]) (st' := [.int e, .int (nI j)]) (σ' := (mj_KS N, I, mj_PP c d (41))) 2 rfl trivial ?_
      refine R_br (q := (nI j : Int32) < e) (t := 7) (f := 33) (rest := []) rfl (fun h1 => ?_) (fun h1 => ?_)
      · skip
        refine R_seg (φ := []) (pc' := 10) (L' := [.ref 18, .ref 7, .int e, .int (nI j), w4]) (st' := [.int 3, .int 0, .ref 18]) (σ' := (mj_KS N, I, mj_PP c d (41))) 3 rfl trivial ?_
        refine R_ce (idx := 39) (mid := 26) (kind := 0) (N := N) (M' := mj_m_X2_takeDigit) (As := [.ref 18, .int 0, .int 3]) (rest := []) (I := I) (P := mj_PP c d (41)) (I' := (s_X2_takeDigit (41) 0 3 I).2) (P' := mj_PP c d (41)) (v := some (.int ((s_X2_takeDigit (41) 0 3 I).1))) rfl rfl rfl mj_mc26 mj_dc26 rfl rfl rfl rfl rfl rfl (x_X2_takeDigit l b base D z N (41) 0 3 (by decide) I c d (by decide) (by decide)) ?_
        refine R_seg (φ := []) (pc' := 17) (L' := [.ref 18, .ref 7, .int e, .int (nI j), .int ((s_X2_takeDigit (41) 0 3 I).1)]) (st' := [.int ((s_X2_takeDigit (41) 0 3 I).1)]) (σ' := (mj_KS N, (s_X2_takeDigit (41) 0 3 I).2, mj_PP c d (41))) 2 rfl trivial ?_
        refine R_br (q := ((s_X2_takeDigit (41) 0 3 I).1 : Int32) < 0) (t := 20) (f := 22) (rest := []) rfl (fun h2 => ?_) (fun h2 => ?_)
        · skip
          refine R_seg (φ := []) (pc' := 21) (L' := [.ref 18, .ref 7, .int e, .int (nI j), .int ((s_X2_takeDigit (41) 0 3 I).1)]) (st' := [.int 0]) (σ' := (mj_KS N, (s_X2_takeDigit (41) 0 3 I).2, mj_PP c d (41))) 1 rfl trivial ?_
          exact R_rb rfl rfl (Or.inl rfl) (mj_leaf (by simp only [s_X2_rs, if_pos h1, if_pos h2, Bool.false_eq_true, ↓reduceIte, Nat.reduceAdd, Nat.reduceMul, mj_tn0, mj_tn1, mj_tn2, mj_tn3]) (by simp only [s_X2_rs, if_pos h1, if_pos h2, Bool.false_eq_true, ↓reduceIte, Nat.reduceAdd, Nat.reduceMul, mj_tn0, mj_tn1, mj_tn2, mj_tn3]))
        · skip
          refine R_seg (φ := [mj_in (nI j) 3]) (pc' := 2) (L' := [.ref 18, .ref 7, .int e, .int ((nI j) + 1), .int ((s_X2_takeDigit (41) 0 3 I).1)]) (st' := []) (σ' := (mj_KS N, (mj_upI ((s_X2_takeDigit (41) 0 3 I).2) 7 (nI j) ((s_X2_takeDigit (41) 0 3 I).1)), mj_PP c d (41))) 6 rfl ⟨mj_in_nI (Nat.lt_of_lt_of_le hjm hmx) (by decide), trivial⟩ ?_
          rw [nI_1 j]
          rw [show s_X2_rs 41 7 m e (k + 1) j  I = s_X2_rs 41 7 m e k (j + 1)  (mj_upI ((s_X2_takeDigit (41) 0 3 I).2) 7 (nI j) ((s_X2_takeDigit (41) 0 3 I).1)) from by simp only [s_X2_rs, if_pos h1, if_neg h2, Bool.false_eq_true, ↓reduceIte, Nat.reduceAdd, Nat.reduceMul, mj_tn0, mj_tn1, mj_tn2, mj_tn3]]
          exact ih (j + 1)  (.int ((s_X2_takeDigit (41) 0 3 I).1)) (mj_upI ((s_X2_takeDigit (41) 0 3 I).2) 7 (nI j) ((s_X2_takeDigit (41) 0 3 I).1)) (by omega) (by omega) (by omega)
      · skip
        refine R_seg (φ := []) (pc' := 34) (L' := [.ref 18, .ref 7, .int e, .int (nI j), w4]) (st' := [.int 1]) (σ' := (mj_KS N, I, mj_PP c d (41))) 1 rfl trivial ?_
        exact R_rb rfl rfl (Or.inr rfl) (mj_leaf (by simp only [s_X2_rs, if_neg h1, Bool.false_eq_true, ↓reduceIte, Nat.reduceAdd, Nat.reduceMul, mj_tn0, mj_tn1, mj_tn2, mj_tn3]) (by simp only [s_X2_rs, if_neg h1, Bool.false_eq_true, ↓reduceIte, Nat.reduceAdd, Nat.reduceMul, mj_tn0, mj_tn1, mj_tn2, mj_tn3]))
  · skip
    intro k
    induction k with
    | zero =>
      intro j w4 I hk hlo hj
      refine R_seg (φ := []) (pc' := 4) (L' := [.ref 18, .ref 8, .int e, .int (nI j), w4]) (st' := [.int e, .int (nI j)]) (σ' := (mj_KS N, I, mj_PP c d (41))) 2 rfl trivial ?_
      refine R_br (q := (nI j : Int32) < e) (t := 7) (f := 33) (rest := []) rfl (fun h1 => absurd h1 (mj_eN he (by omega) hj hm)) (fun h1 => ?_)
      refine R_seg (φ := []) (pc' := 34) (L' := [.ref 18, .ref 8, .int e, .int (nI j), w4]) (st' := [.int 1]) (σ' := (mj_KS N, I, mj_PP c d (41))) 1 rfl trivial ?_
      exact R_rb rfl rfl (Or.inr rfl) (mj_leaf (by simp only [s_X2_rs, Bool.false_eq_true, ↓reduceIte, Nat.reduceAdd, Nat.reduceMul, mj_tn0, mj_tn1, mj_tn2, mj_tn3]) (by simp only [s_X2_rs, Bool.false_eq_true, ↓reduceIte, Nat.reduceAdd, Nat.reduceMul, mj_tn0, mj_tn1, mj_tn2, mj_tn3]))
    | succ k ih =>
      intro j w4 I hk hlo hj
      have hjm : j < m := by omega
      refine R_seg (φ := []) (pc' := 4) (L' := [.ref 18, .ref 8, .int e, .int (nI j), w4]) (st' := [.int e, .int (nI j)]) (σ' := (mj_KS N, I, mj_PP c d (41))) 2 rfl trivial ?_
      refine R_br (q := (nI j : Int32) < e) (t := 7) (f := 33) (rest := []) rfl (fun h1 => ?_) (fun h1 => ?_)
      · skip
        refine R_seg (φ := []) (pc' := 10) (L' := [.ref 18, .ref 8, .int e, .int (nI j), w4]) (st' := [.int 3, .int 0, .ref 18]) (σ' := (mj_KS N, I, mj_PP c d (41))) 3 rfl trivial ?_
        refine R_ce (idx := 39) (mid := 26) (kind := 0) (N := N) (M' := mj_m_X2_takeDigit) (As := [.ref 18, .int 0, .int 3]) (rest := []) (I := I) (P := mj_PP c d (41)) (I' := (s_X2_takeDigit (41) 0 3 I).2) (P' := mj_PP c d (41)) (v := some (.int ((s_X2_takeDigit (41) 0 3 I).1))) rfl rfl rfl mj_mc26 mj_dc26 rfl rfl rfl rfl rfl rfl (x_X2_takeDigit l b base D z N (41) 0 3 (by decide) I c d (by decide) (by decide)) ?_
        refine R_seg (φ := []) (pc' := 17) (L' := [.ref 18, .ref 8, .int e, .int (nI j), .int ((s_X2_takeDigit (41) 0 3 I).1)]) (st' := [.int ((s_X2_takeDigit (41) 0 3 I).1)]) (σ' := (mj_KS N, (s_X2_takeDigit (41) 0 3 I).2, mj_PP c d (41))) 2 rfl trivial ?_
        refine R_br (q := ((s_X2_takeDigit (41) 0 3 I).1 : Int32) < 0) (t := 20) (f := 22) (rest := []) rfl (fun h2 => ?_) (fun h2 => ?_)
        · skip
          refine R_seg (φ := []) (pc' := 21) (L' := [.ref 18, .ref 8, .int e, .int (nI j), .int ((s_X2_takeDigit (41) 0 3 I).1)]) (st' := [.int 0]) (σ' := (mj_KS N, (s_X2_takeDigit (41) 0 3 I).2, mj_PP c d (41))) 1 rfl trivial ?_
          exact R_rb rfl rfl (Or.inl rfl) (mj_leaf (by simp only [s_X2_rs, if_pos h1, if_pos h2, Bool.false_eq_true, ↓reduceIte, Nat.reduceAdd, Nat.reduceMul, mj_tn0, mj_tn1, mj_tn2, mj_tn3]) (by simp only [s_X2_rs, if_pos h1, if_pos h2, Bool.false_eq_true, ↓reduceIte, Nat.reduceAdd, Nat.reduceMul, mj_tn0, mj_tn1, mj_tn2, mj_tn3]))
        · skip
          refine R_seg (φ := [mj_in (nI j) 3]) (pc' := 2) (L' := [.ref 18, .ref 8, .int e, .int ((nI j) + 1), .int ((s_X2_takeDigit (41) 0 3 I).1)]) (st' := []) (σ' := (mj_KS N, (mj_upI ((s_X2_takeDigit (41) 0 3 I).2) 8 (nI j) ((s_X2_takeDigit (41) 0 3 I).1)), mj_PP c d (41))) 6 rfl ⟨mj_in_nI (Nat.lt_of_lt_of_le hjm hmx) (by decide), trivial⟩ ?_
          rw [nI_1 j]
          rw [show s_X2_rs 41 8 m e (k + 1) j  I = s_X2_rs 41 8 m e k (j + 1)  (mj_upI ((s_X2_takeDigit (41) 0 3 I).2) 8 (nI j) ((s_X2_takeDigit (41) 0 3 I).1)) from by simp only [s_X2_rs, if_pos h1, if_neg h2, Bool.false_eq_true, ↓reduceIte, Nat.reduceAdd, Nat.reduceMul, mj_tn0, mj_tn1, mj_tn2, mj_tn3]]
          exact ih (j + 1)  (.int ((s_X2_takeDigit (41) 0 3 I).1)) (mj_upI ((s_X2_takeDigit (41) 0 3 I).2) 8 (nI j) ((s_X2_takeDigit (41) 0 3 I).1)) (by omega) (by omega) (by omega)
      · skip
        refine R_seg (φ := []) (pc' := 34) (L' := [.ref 18, .ref 8, .int e, .int (nI j), w4]) (st' := [.int 1]) (σ' := (mj_KS N, I, mj_PP c d (41))) 1 rfl trivial ?_
        exact R_rb rfl rfl (Or.inr rfl) (mj_leaf (by simp only [s_X2_rs, if_neg h1, Bool.false_eq_true, ↓reduceIte, Nat.reduceAdd, Nat.reduceMul, mj_tn0, mj_tn1, mj_tn2, mj_tn3]) (by simp only [s_X2_rs, if_neg h1, Bool.false_eq_true, ↓reduceIte, Nat.reduceAdd, Nat.reduceMul, mj_tn0, mj_tn1, mj_tn2, mj_tn3]))
  · skip
    intro k
    induction k with
    | zero =>
      intro j w4 I hk hlo hj
      refine R_seg (φ := []) (pc' := 4) (L' := [.ref 18, .ref 9, .int e, .int (nI j), w4]) (st' := [.int e, .int (nI j)]) (σ' := (mj_KS N, I, mj_PP c d (41))) 2 rfl trivial ?_
      refine R_br (q := (nI j : Int32) < e) (t := 7) (f := 33) (rest := []) rfl (fun h1 => absurd h1 (mj_eN he (by omega) hj hm)) (fun h1 => ?_)
      refine R_seg (φ := []) (pc' := 34) (L' := [.ref 18, .ref 9, .int e, .int (nI j), w4]) (st' := [.int 1]) (σ' := (mj_KS N, I, mj_PP c d (41))) 1 rfl trivial ?_
      exact R_rb rfl rfl (Or.inr rfl) (mj_leaf (by simp only [s_X2_rs, Bool.false_eq_true, ↓reduceIte, Nat.reduceAdd, Nat.reduceMul, mj_tn0, mj_tn1, mj_tn2, mj_tn3]) (by simp only [s_X2_rs, Bool.false_eq_true, ↓reduceIte, Nat.reduceAdd, Nat.reduceMul, mj_tn0, mj_tn1, mj_tn2, mj_tn3]))
    | succ k ih =>
      intro j w4 I hk hlo hj
      have hjm : j < m := by omega
      refine R_seg (φ := []) (pc' := 4) (L' := [.ref 18, .ref 9, .int e, .int (nI j), w4]) (st' := [.int e, .int (nI j)]) (σ' := (mj_KS N, I, mj_PP c d (41))) 2 rfl trivial ?_
      refine R_br (q := (nI j : Int32) < e) (t := 7) (f := 33) (rest := []) rfl (fun h1 => ?_) (fun h1 => ?_)
      · skip
        refine R_seg (φ := []) (pc' := 10) (L' := [.ref 18, .ref 9, .int e, .int (nI j), w4]) (st' := [.int 3, .int 0, .ref 18]) (σ' := (mj_KS N, I, mj_PP c d (41))) 3 rfl trivial ?_
        refine R_ce (idx := 39) (mid := 26) (kind := 0) (N := N) (M' := mj_m_X2_takeDigit) (As := [.ref 18, .int 0, .int 3]) (rest := []) (I := I) (P := mj_PP c d (41)) (I' := (s_X2_takeDigit (41) 0 3 I).2) (P' := mj_PP c d (41)) (v := some (.int ((s_X2_takeDigit (41) 0 3 I).1))) rfl rfl rfl mj_mc26 mj_dc26 rfl rfl rfl rfl rfl rfl (x_X2_takeDigit l b base D z N (41) 0 3 (by decide) I c d (by decide) (by decide)) ?_
        refine R_seg (φ := []) (pc' := 17) (L' := [.ref 18, .ref 9, .int e, .int (nI j), .int ((s_X2_takeDigit (41) 0 3 I).1)]) (st' := [.int ((s_X2_takeDigit (41) 0 3 I).1)]) (σ' := (mj_KS N, (s_X2_takeDigit (41) 0 3 I).2, mj_PP c d (41))) 2 rfl trivial ?_
        refine R_br (q := ((s_X2_takeDigit (41) 0 3 I).1 : Int32) < 0) (t := 20) (f := 22) (rest := []) rfl (fun h2 => ?_) (fun h2 => ?_)
        · skip
          refine R_seg (φ := []) (pc' := 21) (L' := [.ref 18, .ref 9, .int e, .int (nI j), .int ((s_X2_takeDigit (41) 0 3 I).1)]) (st' := [.int 0]) (σ' := (mj_KS N, (s_X2_takeDigit (41) 0 3 I).2, mj_PP c d (41))) 1 rfl trivial ?_
          exact R_rb rfl rfl (Or.inl rfl) (mj_leaf (by simp only [s_X2_rs, if_pos h1, if_pos h2, Bool.false_eq_true, ↓reduceIte, Nat.reduceAdd, Nat.reduceMul, mj_tn0, mj_tn1, mj_tn2, mj_tn3]) (by simp only [s_X2_rs, if_pos h1, if_pos h2, Bool.false_eq_true, ↓reduceIte, Nat.reduceAdd, Nat.reduceMul, mj_tn0, mj_tn1, mj_tn2, mj_tn3]))
        · skip
          refine R_seg (φ := [mj_in (nI j) 3]) (pc' := 2) (L' := [.ref 18, .ref 9, .int e, .int ((nI j) + 1), .int ((s_X2_takeDigit (41) 0 3 I).1)]) (st' := []) (σ' := (mj_KS N, (mj_upI ((s_X2_takeDigit (41) 0 3 I).2) 9 (nI j) ((s_X2_takeDigit (41) 0 3 I).1)), mj_PP c d (41))) 6 rfl ⟨mj_in_nI (Nat.lt_of_lt_of_le hjm hmx) (by decide), trivial⟩ ?_
          rw [nI_1 j]
          rw [show s_X2_rs 41 9 m e (k + 1) j  I = s_X2_rs 41 9 m e k (j + 1)  (mj_upI ((s_X2_takeDigit (41) 0 3 I).2) 9 (nI j) ((s_X2_takeDigit (41) 0 3 I).1)) from by simp only [s_X2_rs, if_pos h1, if_neg h2, Bool.false_eq_true, ↓reduceIte, Nat.reduceAdd, Nat.reduceMul, mj_tn0, mj_tn1, mj_tn2, mj_tn3]]
          exact ih (j + 1)  (.int ((s_X2_takeDigit (41) 0 3 I).1)) (mj_upI ((s_X2_takeDigit (41) 0 3 I).2) 9 (nI j) ((s_X2_takeDigit (41) 0 3 I).1)) (by omega) (by omega) (by omega)
      · skip
        refine R_seg (φ := []) (pc' := 34) (L' := [.ref 18, .ref 9, .int e, .int (nI j), w4]) (st' := [.int 1]) (σ' := (mj_KS N, I, mj_PP c d (41))) 1 rfl trivial ?_
        exact R_rb rfl rfl (Or.inr rfl) (mj_leaf (by simp only [s_X2_rs, if_neg h1, Bool.false_eq_true, ↓reduceIte, Nat.reduceAdd, Nat.reduceMul, mj_tn0, mj_tn1, mj_tn2, mj_tn3]) (by simp only [s_X2_rs, if_neg h1, Bool.false_eq_true, ↓reduceIte, Nat.reduceAdd, Nat.reduceMul, mj_tn0, mj_tn1, mj_tn2, mj_tn3]))
  · skip
    intro k
    induction k with
    | zero =>
      intro j w4 I hk hlo hj
      refine R_seg (φ := []) (pc' := 4) (L' := [.ref 18, .ref 15, .int e, .int (nI j), w4]) (st' := [.int e, .int (nI j)]) (σ' := (mj_KS N, I, mj_PP c d (41))) 2 rfl trivial ?_
      refine R_br (q := (nI j : Int32) < e) (t := 7) (f := 33) (rest := []) rfl (fun h1 => absurd h1 (mj_eN he (by omega) hj hm)) (fun h1 => ?_)
      refine R_seg (φ := []) (pc' := 34) (L' := [.ref 18, .ref 15, .int e, .int (nI j), w4]) (st' := [.int 1]) (σ' := (mj_KS N, I, mj_PP c d (41))) 1 rfl trivial ?_
      exact R_rb rfl rfl (Or.inr rfl) (mj_leaf (by simp only [s_X2_rs, Bool.false_eq_true, ↓reduceIte, Nat.reduceAdd, Nat.reduceMul, mj_tn0, mj_tn1, mj_tn2, mj_tn3]) (by simp only [s_X2_rs, Bool.false_eq_true, ↓reduceIte, Nat.reduceAdd, Nat.reduceMul, mj_tn0, mj_tn1, mj_tn2, mj_tn3]))
    | succ k ih =>
      intro j w4 I hk hlo hj
      have hjm : j < m := by omega
      refine R_seg (φ := []) (pc' := 4) (L' := [.ref 18, .ref 15, .int e, .int (nI j), w4]) (st' := [.int e, .int (nI j)]) (σ' := (mj_KS N, I, mj_PP c d (41))) 2 rfl trivial ?_
      refine R_br (q := (nI j : Int32) < e) (t := 7) (f := 33) (rest := []) rfl (fun h1 => ?_) (fun h1 => ?_)
      · skip
        refine R_seg (φ := []) (pc' := 10) (L' := [.ref 18, .ref 15, .int e, .int (nI j), w4]) (st' := [.int 3, .int 0, .ref 18]) (σ' := (mj_KS N, I, mj_PP c d (41))) 3 rfl trivial ?_
        refine R_ce (idx := 39) (mid := 26) (kind := 0) (N := N) (M' := mj_m_X2_takeDigit) (As := [.ref 18, .int 0, .int 3]) (rest := []) (I := I) (P := mj_PP c d (41)) (I' := (s_X2_takeDigit (41) 0 3 I).2) (P' := mj_PP c d (41)) (v := some (.int ((s_X2_takeDigit (41) 0 3 I).1))) rfl rfl rfl mj_mc26 mj_dc26 rfl rfl rfl rfl rfl rfl (x_X2_takeDigit l b base D z N (41) 0 3 (by decide) I c d (by decide) (by decide)) ?_
        refine R_seg (φ := []) (pc' := 17) (L' := [.ref 18, .ref 15, .int e, .int (nI j), .int ((s_X2_takeDigit (41) 0 3 I).1)]) (st' := [.int ((s_X2_takeDigit (41) 0 3 I).1)]) (σ' := (mj_KS N, (s_X2_takeDigit (41) 0 3 I).2, mj_PP c d (41))) 2 rfl trivial ?_
        refine R_br (q := ((s_X2_takeDigit (41) 0 3 I).1 : Int32) < 0) (t := 20) (f := 22) (rest := []) rfl (fun h2 => ?_) (fun h2 => ?_)
        · skip
          refine R_seg (φ := []) (pc' := 21) (L' := [.ref 18, .ref 15, .int e, .int (nI j), .int ((s_X2_takeDigit (41) 0 3 I).1)]) (st' := [.int 0]) (σ' := (mj_KS N, (s_X2_takeDigit (41) 0 3 I).2, mj_PP c d (41))) 1 rfl trivial ?_
          exact R_rb rfl rfl (Or.inl rfl) (mj_leaf (by simp only [s_X2_rs, if_pos h1, if_pos h2, Bool.false_eq_true, ↓reduceIte, Nat.reduceAdd, Nat.reduceMul, mj_tn0, mj_tn1, mj_tn2, mj_tn3]) (by simp only [s_X2_rs, if_pos h1, if_pos h2, Bool.false_eq_true, ↓reduceIte, Nat.reduceAdd, Nat.reduceMul, mj_tn0, mj_tn1, mj_tn2, mj_tn3]))
        · skip
          refine R_seg (φ := [mj_in (nI j) 3]) (pc' := 2) (L' := [.ref 18, .ref 15, .int e, .int ((nI j) + 1), .int ((s_X2_takeDigit (41) 0 3 I).1)]) (st' := []) (σ' := (mj_KS N, (mj_upI ((s_X2_takeDigit (41) 0 3 I).2) 15 (nI j) ((s_X2_takeDigit (41) 0 3 I).1)), mj_PP c d (41))) 6 rfl ⟨mj_in_nI (Nat.lt_of_lt_of_le hjm hmx) (by decide), trivial⟩ ?_
          rw [nI_1 j]
          rw [show s_X2_rs 41 15 m e (k + 1) j  I = s_X2_rs 41 15 m e k (j + 1)  (mj_upI ((s_X2_takeDigit (41) 0 3 I).2) 15 (nI j) ((s_X2_takeDigit (41) 0 3 I).1)) from by simp only [s_X2_rs, if_pos h1, if_neg h2, Bool.false_eq_true, ↓reduceIte, Nat.reduceAdd, Nat.reduceMul, mj_tn0, mj_tn1, mj_tn2, mj_tn3]]
          exact ih (j + 1)  (.int ((s_X2_takeDigit (41) 0 3 I).1)) (mj_upI ((s_X2_takeDigit (41) 0 3 I).2) 15 (nI j) ((s_X2_takeDigit (41) 0 3 I).1)) (by omega) (by omega) (by omega)
      · skip
        refine R_seg (φ := []) (pc' := 34) (L' := [.ref 18, .ref 15, .int e, .int (nI j), w4]) (st' := [.int 1]) (σ' := (mj_KS N, I, mj_PP c d (41))) 1 rfl trivial ?_
        exact R_rb rfl rfl (Or.inr rfl) (mj_leaf (by simp only [s_X2_rs, if_neg h1, Bool.false_eq_true, ↓reduceIte, Nat.reduceAdd, Nat.reduceMul, mj_tn0, mj_tn1, mj_tn2, mj_tn3]) (by simp only [s_X2_rs, if_neg h1, Bool.false_eq_true, ↓reduceIte, Nat.reduceAdd, Nat.reduceMul, mj_tn0, mj_tn1, mj_tn2, mj_tn3]))
  · skip
    intro k
    induction k with
    | zero =>
      intro j w4 I hk hlo hj
      refine R_seg (φ := []) (pc' := 4) (L' := [.ref 18, .ref 16, .int e, .int (nI j), w4]) (st' := [.int e, .int (nI j)]) (σ' := (mj_KS N, I, mj_PP c d (41))) 2 rfl trivial ?_
      refine R_br (q := (nI j : Int32) < e) (t := 7) (f := 33) (rest := []) rfl (fun h1 => absurd h1 (mj_eN he (by omega) hj hm)) (fun h1 => ?_)
      refine R_seg (φ := []) (pc' := 34) (L' := [.ref 18, .ref 16, .int e, .int (nI j), w4]) (st' := [.int 1]) (σ' := (mj_KS N, I, mj_PP c d (41))) 1 rfl trivial ?_
      exact R_rb rfl rfl (Or.inr rfl) (mj_leaf (by simp only [s_X2_rs, Bool.false_eq_true, ↓reduceIte, Nat.reduceAdd, Nat.reduceMul, mj_tn0, mj_tn1, mj_tn2, mj_tn3]) (by simp only [s_X2_rs, Bool.false_eq_true, ↓reduceIte, Nat.reduceAdd, Nat.reduceMul, mj_tn0, mj_tn1, mj_tn2, mj_tn3]))
    | succ k ih =>
      intro j w4 I hk hlo hj
      have hjm : j < m := by omega
      refine R_seg (φ := []) (pc' := 4) (L' := [.ref 18, .ref 16, .int e, .int (nI j), w4]) (st' := [.int e, .int (nI j)]) (σ' := (mj_KS N, I, mj_PP c d (41))) 2 rfl trivial ?_
      refine R_br (q := (nI j : Int32) < e) (t := 7) (f := 33) (rest := []) rfl (fun h1 => ?_) (fun h1 => ?_)
      · skip
        refine R_seg (φ := []) (pc' := 10) (L' := [.ref 18, .ref 16, .int e, .int (nI j), w4]) (st' := [.int 3, .int 0, .ref 18]) (σ' := (mj_KS N, I, mj_PP c d (41))) 3 rfl trivial ?_
        refine R_ce (idx := 39) (mid := 26) (kind := 0) (N := N) (M' := mj_m_X2_takeDigit) (As := [.ref 18, .int 0, .int 3]) (rest := []) (I := I) (P := mj_PP c d (41)) (I' := (s_X2_takeDigit (41) 0 3 I).2) (P' := mj_PP c d (41)) (v := some (.int ((s_X2_takeDigit (41) 0 3 I).1))) rfl rfl rfl mj_mc26 mj_dc26 rfl rfl rfl rfl rfl rfl (x_X2_takeDigit l b base D z N (41) 0 3 (by decide) I c d (by decide) (by decide)) ?_
        refine R_seg (φ := []) (pc' := 17) (L' := [.ref 18, .ref 16, .int e, .int (nI j), .int ((s_X2_takeDigit (41) 0 3 I).1)]) (st' := [.int ((s_X2_takeDigit (41) 0 3 I).1)]) (σ' := (mj_KS N, (s_X2_takeDigit (41) 0 3 I).2, mj_PP c d (41))) 2 rfl trivial ?_
        refine R_br (q := ((s_X2_takeDigit (41) 0 3 I).1 : Int32) < 0) (t := 20) (f := 22) (rest := []) rfl (fun h2 => ?_) (fun h2 => ?_)
        · skip
          refine R_seg (φ := []) (pc' := 21) (L' := [.ref 18, .ref 16, .int e, .int (nI j), .int ((s_X2_takeDigit (41) 0 3 I).1)]) (st' := [.int 0]) (σ' := (mj_KS N, (s_X2_takeDigit (41) 0 3 I).2, mj_PP c d (41))) 1 rfl trivial ?_
          exact R_rb rfl rfl (Or.inl rfl) (mj_leaf (by simp only [s_X2_rs, if_pos h1, if_pos h2, Bool.false_eq_true, ↓reduceIte, Nat.reduceAdd, Nat.reduceMul, mj_tn0, mj_tn1, mj_tn2, mj_tn3]) (by simp only [s_X2_rs, if_pos h1, if_pos h2, Bool.false_eq_true, ↓reduceIte, Nat.reduceAdd, Nat.reduceMul, mj_tn0, mj_tn1, mj_tn2, mj_tn3]))
        · skip
          refine R_seg (φ := [mj_in (nI j) 3]) (pc' := 2) (L' := [.ref 18, .ref 16, .int e, .int ((nI j) + 1), .int ((s_X2_takeDigit (41) 0 3 I).1)]) (st' := []) (σ' := (mj_KS N, (mj_upI ((s_X2_takeDigit (41) 0 3 I).2) 16 (nI j) ((s_X2_takeDigit (41) 0 3 I).1)), mj_PP c d (41))) 6 rfl ⟨mj_in_nI (Nat.lt_of_lt_of_le hjm hmx) (by decide), trivial⟩ ?_
          rw [nI_1 j]
          rw [show s_X2_rs 41 16 m e (k + 1) j  I = s_X2_rs 41 16 m e k (j + 1)  (mj_upI ((s_X2_takeDigit (41) 0 3 I).2) 16 (nI j) ((s_X2_takeDigit (41) 0 3 I).1)) from by simp only [s_X2_rs, if_pos h1, if_neg h2, Bool.false_eq_true, ↓reduceIte, Nat.reduceAdd, Nat.reduceMul, mj_tn0, mj_tn1, mj_tn2, mj_tn3]]
          exact ih (j + 1)  (.int ((s_X2_takeDigit (41) 0 3 I).1)) (mj_upI ((s_X2_takeDigit (41) 0 3 I).2) 16 (nI j) ((s_X2_takeDigit (41) 0 3 I).1)) (by omega) (by omega) (by omega)
      · skip
        refine R_seg (φ := []) (pc' := 34) (L' := [.ref 18, .ref 16, .int e, .int (nI j), w4]) (st' := [.int 1]) (σ' := (mj_KS N, I, mj_PP c d (41))) 1 rfl trivial ?_
        exact R_rb rfl rfl (Or.inr rfl) (mj_leaf (by simp only [s_X2_rs, if_neg h1, Bool.false_eq_true, ↓reduceIte, Nat.reduceAdd, Nat.reduceMul, mj_tn0, mj_tn1, mj_tn2, mj_tn3]) (by simp only [s_X2_rs, if_neg h1, Bool.false_eq_true, ↓reduceIte, Nat.reduceAdd, Nat.reduceMul, mj_tn0, mj_tn1, mj_tn2, mj_tn3]))
  · skip
    intro k
    induction k with
    | zero =>
      intro j w4 I hk hlo hj
      refine R_seg (φ := []) (pc' := 4) (L' := [.ref 18, .ref 17, .int e, .int (nI j), w4]) (st' := [.int e, .int (nI j)]) (σ' := (mj_KS N, I, mj_PP c d (41))) 2 rfl trivial ?_
      refine R_br (q := (nI j : Int32) < e) (t := 7) (f := 33) (rest := []) rfl (fun h1 => absurd h1 (mj_eN he (by omega) hj hm)) (fun h1 => ?_)
      refine R_seg (φ := []) (pc' := 34) (L' := [.ref 18, .ref 17, .int e, .int (nI j), w4]) (st' := [.int 1]) (σ' := (mj_KS N, I, mj_PP c d (41))) 1 rfl trivial ?_
      exact R_rb rfl rfl (Or.inr rfl) (mj_leaf (by simp only [s_X2_rs, Bool.false_eq_true, ↓reduceIte, Nat.reduceAdd, Nat.reduceMul, mj_tn0, mj_tn1, mj_tn2, mj_tn3]) (by simp only [s_X2_rs, Bool.false_eq_true, ↓reduceIte, Nat.reduceAdd, Nat.reduceMul, mj_tn0, mj_tn1, mj_tn2, mj_tn3]))
    | succ k ih =>
      intro j w4 I hk hlo hj
      have hjm : j < m := by omega
      refine R_seg (φ := []) (pc' := 4) (L' := [.ref 18, .ref 17, .int e, .int (nI j), w4]) (st' := [.int e, .int (nI j)]) (σ' := (mj_KS N, I, mj_PP c d (41))) 2 rfl trivial ?_
      refine R_br (q := (nI j : Int32) < e) (t := 7) (f := 33) (rest := []) rfl (fun h1 => ?_) (fun h1 => ?_)
      · skip
        refine R_seg (φ := []) (pc' := 10) (L' := [.ref 18, .ref 17, .int e, .int (nI j), w4]) (st' := [.int 3, .int 0, .ref 18]) (σ' := (mj_KS N, I, mj_PP c d (41))) 3 rfl trivial ?_
        refine R_ce (idx := 39) (mid := 26) (kind := 0) (N := N) (M' := mj_m_X2_takeDigit) (As := [.ref 18, .int 0, .int 3]) (rest := []) (I := I) (P := mj_PP c d (41)) (I' := (s_X2_takeDigit (41) 0 3 I).2) (P' := mj_PP c d (41)) (v := some (.int ((s_X2_takeDigit (41) 0 3 I).1))) rfl rfl rfl mj_mc26 mj_dc26 rfl rfl rfl rfl rfl rfl (x_X2_takeDigit l b base D z N (41) 0 3 (by decide) I c d (by decide) (by decide)) ?_
        refine R_seg (φ := []) (pc' := 17) (L' := [.ref 18, .ref 17, .int e, .int (nI j), .int ((s_X2_takeDigit (41) 0 3 I).1)]) (st' := [.int ((s_X2_takeDigit (41) 0 3 I).1)]) (σ' := (mj_KS N, (s_X2_takeDigit (41) 0 3 I).2, mj_PP c d (41))) 2 rfl trivial ?_
        refine R_br (q := ((s_X2_takeDigit (41) 0 3 I).1 : Int32) < 0) (t := 20) (f := 22) (rest := []) rfl (fun h2 => ?_) (fun h2 => ?_)
        · skip
          refine R_seg (φ := []) (pc' := 21) (L' := [.ref 18, .ref 17, .int e, .int (nI j), .int ((s_X2_takeDigit (41) 0 3 I).1)]) (st' := [.int 0]) (σ' := (mj_KS N, (s_X2_takeDigit (41) 0 3 I).2, mj_PP c d (41))) 1 rfl trivial ?_
          exact R_rb rfl rfl (Or.inl rfl) (mj_leaf (by simp only [s_X2_rs, if_pos h1, if_pos h2, Bool.false_eq_true, ↓reduceIte, Nat.reduceAdd, Nat.reduceMul, mj_tn0, mj_tn1, mj_tn2, mj_tn3]) (by simp only [s_X2_rs, if_pos h1, if_pos h2, Bool.false_eq_true, ↓reduceIte, Nat.reduceAdd, Nat.reduceMul, mj_tn0, mj_tn1, mj_tn2, mj_tn3]))
        · skip
          refine R_seg (φ := [mj_in (nI j) 3]) (pc' := 2) (L' := [.ref 18, .ref 17, .int e, .int ((nI j) + 1), .int ((s_X2_takeDigit (41) 0 3 I).1)]) (st' := []) (σ' := (mj_KS N, (mj_upI ((s_X2_takeDigit (41) 0 3 I).2) 17 (nI j) ((s_X2_takeDigit (41) 0 3 I).1)), mj_PP c d (41))) 6 rfl ⟨mj_in_nI (Nat.lt_of_lt_of_le hjm hmx) (by decide), trivial⟩ ?_
          rw [nI_1 j]
          rw [show s_X2_rs 41 17 m e (k + 1) j  I = s_X2_rs 41 17 m e k (j + 1)  (mj_upI ((s_X2_takeDigit (41) 0 3 I).2) 17 (nI j) ((s_X2_takeDigit (41) 0 3 I).1)) from by simp only [s_X2_rs, if_pos h1, if_neg h2, Bool.false_eq_true, ↓reduceIte, Nat.reduceAdd, Nat.reduceMul, mj_tn0, mj_tn1, mj_tn2, mj_tn3]]
          exact ih (j + 1)  (.int ((s_X2_takeDigit (41) 0 3 I).1)) (mj_upI ((s_X2_takeDigit (41) 0 3 I).2) 17 (nI j) ((s_X2_takeDigit (41) 0 3 I).1)) (by omega) (by omega) (by omega)
      · skip
        refine R_seg (φ := []) (pc' := 34) (L' := [.ref 18, .ref 17, .int e, .int (nI j), w4]) (st' := [.int 1]) (σ' := (mj_KS N, I, mj_PP c d (41))) 1 rfl trivial ?_
        exact R_rb rfl rfl (Or.inr rfl) (mj_leaf (by simp only [s_X2_rs, if_neg h1, Bool.false_eq_true, ↓reduceIte, Nat.reduceAdd, Nat.reduceMul, mj_tn0, mj_tn1, mj_tn2, mj_tn3]) (by simp only [s_X2_rs, if_neg h1, Bool.false_eq_true, ↓reduceIte, Nat.reduceAdd, Nat.reduceMul, mj_tn0, mj_tn1, mj_tn2, mj_tn3]))
def s_X2_readsSeasons (rr : Nat) (x : Nat) (m : Nat) (e : Int32) (I : mj_I) : Int32 × mj_I := ((s_X2_rs (rr) x m e m 0  I).1, (s_X2_rs (rr) x m e m 0  I).2)
set_option maxHeartbeats 8000000 in
theorem x_X2_readsSeasons (l : Launch) (b base : Nat) (D : va_G) (z : mj_K × (Int32 → Int32)) (N : Nat) (rr : Nat) (x : Nat) (m : Nat) (e : Int32) (hrr : rr = 35 ∨ rr = 37 ∨ rr = 39 ∨ rr = 41) (hx : x = 3 ∨ x = 11 ∨ x = 7 ∨ x = 8 ∨ x = 9 ∨ x = 15 ∨ x = 16 ∨ x = 17) (I : mj_I) (c d : Nat) (hm : m ≤ 6) (he : e.toInt ≤ (m : Int)) (hmx : m ≤ (if x = 3 ∨ x = 11 then 6 else 3)) : mj_Rn l b base D z mj_m_X2_readsSeasons 0 [.ref 18, .ref x, .int e, mj_mk, mj_mk] [] (mj_KS N, I, mj_PP c d rr) (mj_E N (some (.int (s_X2_readsSeasons rr x m e I).1)) (s_X2_readsSeasons rr x m e I).2 (mj_PP c d rr)) := by
  rcases hrr with rfl | rfl | rfl | rfl <;> rcases hx with rfl | rfl | rfl | rfl | rfl | rfl | rfl | rfl
  · skip
    refine R_seg (φ := []) (pc' := 2) (L' := [.ref 18, .ref 3, .int e, .int 0, mj_mk]) (st' := []) (σ' := (mj_KS N, I, mj_PP c d (35))) 2 rfl trivial ?_
    exact x_X2_rs l b base D z N (35) 3 m e (by decide) (by decide) c d hm he hmx m 0  mj_mk I (by omega) (by omega) (by omega)
  · skip
    refine R_seg (φ := []) (pc' := 2) (L' := [.ref 18, .ref 11, .int e, .int 0, mj_mk]) (st' := []) (σ' := (mj_KS N, I, mj_PP c d (35))) 2 rfl trivial ?_
    exact x_X2_rs l b base D z N (35) 11 m e (by decide) (by decide) c d hm he hmx m 0  mj_mk I (by omega) (by omega) (by omega)
  · skip
    refine R_seg (φ := []) (pc' := 2) (L' := [.ref 18, .ref 7, .int e, .int 0, mj_mk]) (st' := []) (σ' := (mj_KS N, I, mj_PP c d (35))) 2 rfl trivial ?_
    exact x_X2_rs l b base D z N (35) 7 m e (by decide) (by decide) c d hm he hmx m 0  mj_mk I (by omega) (by omega) (by omega)
  · skip
    refine R_seg (φ := []) (pc' := 2) (L' := [.ref 18, .ref 8, .int e, .int 0, mj_mk]) (st' := []) (σ' := (mj_KS N, I, mj_PP c d (35))) 2 rfl trivial ?_
    exact x_X2_rs l b base D z N (35) 8 m e (by decide) (by decide) c d hm he hmx m 0  mj_mk I (by omega) (by omega) (by omega)
  · skip
    refine R_seg (φ := []) (pc' := 2) (L' := [.ref 18, .ref 9, .int e, .int 0, mj_mk]) (st' := []) (σ' := (mj_KS N, I, mj_PP c d (35))) 2 rfl trivial ?_
    exact x_X2_rs l b base D z N (35) 9 m e (by decide) (by decide) c d hm he hmx m 0  mj_mk I (by omega) (by omega) (by omega)
  · skip
    refine R_seg (φ := []) (pc' := 2) (L' := [.ref 18, .ref 15, .int e, .int 0, mj_mk]) (st' := []) (σ' := (mj_KS N, I, mj_PP c d (35))) 2 rfl trivial ?_
    exact x_X2_rs l b base D z N (35) 15 m e (by decide) (by decide) c d hm he hmx m 0  mj_mk I (by omega) (by omega) (by omega)
  · skip
    refine R_seg (φ := []) (pc' := 2) (L' := [.ref 18, .ref 16, .int e, .int 0, mj_mk]) (st' := []) (σ' := (mj_KS N, I, mj_PP c d (35))) 2 rfl trivial ?_
    exact x_X2_rs l b base D z N (35) 16 m e (by decide) (by decide) c d hm he hmx m 0  mj_mk I (by omega) (by omega) (by omega)
  · skip
    refine R_seg (φ := []) (pc' := 2) (L' := [.ref 18, .ref 17, .int e, .int 0, mj_mk]) (st' := []) (σ' := (mj_KS N, I, mj_PP c d (35))) 2 rfl trivial ?_
    exact x_X2_rs l b base D z N (35) 17 m e (by decide) (by decide) c d hm he hmx m 0  mj_mk I (by omega) (by omega) (by omega)
  · skip
    refine R_seg (φ := []) (pc' := 2) (L' := [.ref 18, .ref 3, .int e, .int 0, mj_mk]) (st' := []) (σ' := (mj_KS N, I, mj_PP c d (37))) 2 rfl trivial ?_
    exact x_X2_rs l b base D z N (37) 3 m e (by decide) (by decide) c d hm he hmx m 0  mj_mk I (by omega) (by omega) (by omega)
  · skip
    refine R_seg (φ := []) (pc' := 2) (L' := [.ref 18, .ref 11, .int e, .int 0, mj_mk]) (st' := []) (σ' := (mj_KS N, I, mj_PP c d (37))) 2 rfl trivial ?_
    exact x_X2_rs l b base D z N (37) 11 m e (by decide) (by decide) c d hm he hmx m 0  mj_mk I (by omega) (by omega) (by omega)
  · skip
    refine R_seg (φ := []) (pc' := 2) (L' := [.ref 18, .ref 7, .int e, .int 0, mj_mk]) (st' := []) (σ' := (mj_KS N, I, mj_PP c d (37))) 2 rfl trivial ?_
    exact x_X2_rs l b base D z N (37) 7 m e (by decide) (by decide) c d hm he hmx m 0  mj_mk I (by omega) (by omega) (by omega)
  · skip
    refine R_seg (φ := []) (pc' := 2) (L' := [.ref 18, .ref 8, .int e, .int 0, mj_mk]) (st' := []) (σ' := (mj_KS N, I, mj_PP c d (37))) 2 rfl trivial ?_
    exact x_X2_rs l b base D z N (37) 8 m e (by decide) (by decide) c d hm he hmx m 0  mj_mk I (by omega) (by omega) (by omega)
  · skip
    refine R_seg (φ := []) (pc' := 2) (L' := [.ref 18, .ref 9, .int e, .int 0, mj_mk]) (st' := []) (σ' := (mj_KS N, I, mj_PP c d (37))) 2 rfl trivial ?_
    exact x_X2_rs l b base D z N (37) 9 m e (by decide) (by decide) c d hm he hmx m 0  mj_mk I (by omega) (by omega) (by omega)
  · skip
    refine R_seg (φ := []) (pc' := 2) (L' := [.ref 18, .ref 15, .int e, .int 0, mj_mk]) (st' := []) (σ' := (mj_KS N, I, mj_PP c d (37))) 2 rfl trivial ?_
    exact x_X2_rs l b base D z N (37) 15 m e (by decide) (by decide) c d hm he hmx m 0  mj_mk I (by omega) (by omega) (by omega)
  · skip
    refine R_seg (φ := []) (pc' := 2) (L' := [.ref 18, .ref 16, .int e, .int 0, mj_mk]) (st' := []) (σ' := (mj_KS N, I, mj_PP c d (37))) 2 rfl trivial ?_
    exact x_X2_rs l b base D z N (37) 16 m e (by decide) (by decide) c d hm he hmx m 0  mj_mk I (by omega) (by omega) (by omega)
  · skip
    refine R_seg (φ := []) (pc' := 2) (L' := [.ref 18, .ref 17, .int e, .int 0, mj_mk]) (st' := []) (σ' := (mj_KS N, I, mj_PP c d (37))) 2 rfl trivial ?_
    exact x_X2_rs l b base D z N (37) 17 m e (by decide) (by decide) c d hm he hmx m 0  mj_mk I (by omega) (by omega) (by omega)
  · skip
    refine R_seg (φ := []) (pc' := 2) (L' := [.ref 18, .ref 3, .int e, .int 0, mj_mk]) (st' := []) (σ' := (mj_KS N, I, mj_PP c d (39))) 2 rfl trivial ?_
    exact x_X2_rs l b base D z N (39) 3 m e (by decide) (by decide) c d hm he hmx m 0  mj_mk I (by omega) (by omega) (by omega)
  · skip
    refine R_seg (φ := []) (pc' := 2) (L' := [.ref 18, .ref 11, .int e, .int 0, mj_mk]) (st' := []) (σ' := (mj_KS N, I, mj_PP c d (39))) 2 rfl trivial ?_
    exact x_X2_rs l b base D z N (39) 11 m e (by decide) (by decide) c d hm he hmx m 0  mj_mk I (by omega) (by omega) (by omega)
  · skip
    refine R_seg (φ := []) (pc' := 2) (L' := [.ref 18, .ref 7, .int e, .int 0, mj_mk]) (st' := []) (σ' := (mj_KS N, I, mj_PP c d (39))) 2 rfl trivial ?_
    exact x_X2_rs l b base D z N (39) 7 m e (by decide) (by decide) c d hm he hmx m 0  mj_mk I (by omega) (by omega) (by omega)
  · skip
    refine R_seg (φ := []) (pc' := 2) (L' := [.ref 18, .ref 8, .int e, .int 0, mj_mk]) (st' := []) (σ' := (mj_KS N, I, mj_PP c d (39))) 2 rfl trivial ?_
    exact x_X2_rs l b base D z N (39) 8 m e (by decide) (by decide) c d hm he hmx m 0  mj_mk I (by omega) (by omega) (by omega)
  · skip
    refine R_seg (φ := []) (pc' := 2) (L' := [.ref 18, .ref 9, .int e, .int 0, mj_mk]) (st' := []) (σ' := (mj_KS N, I, mj_PP c d (39))) 2 rfl trivial ?_
    exact x_X2_rs l b base D z N (39) 9 m e (by decide) (by decide) c d hm he hmx m 0  mj_mk I (by omega) (by omega) (by omega)
  · skip
    refine R_seg (φ := []) (pc' := 2) (L' := [.ref 18, .ref 15, .int e, .int 0, mj_mk]) (st' := []) (σ' := (mj_KS N, I, mj_PP c d (39))) 2 rfl trivial ?_
    exact x_X2_rs l b base D z N (39) 15 m e (by decide) (by decide) c d hm he hmx m 0  mj_mk I (by omega) (by omega) (by omega)
  · skip
    refine R_seg (φ := []) (pc' := 2) (L' := [.ref 18, .ref 16, .int e, .int 0, mj_mk]) (st' := []) (σ' := (mj_KS N, I, mj_PP c d (39))) 2 rfl trivial ?_
    exact x_X2_rs l b base D z N (39) 16 m e (by decide) (by decide) c d hm he hmx m 0  mj_mk I (by omega) (by omega) (by omega)
  · skip
    refine R_seg (φ := []) (pc' := 2) (L' := [.ref 18, .ref 17, .int e, .int 0, mj_mk]) (st' := []) (σ' := (mj_KS N, I, mj_PP c d (39))) 2 rfl trivial ?_
    exact x_X2_rs l b base D z N (39) 17 m e (by decide) (by decide) c d hm he hmx m 0  mj_mk I (by omega) (by omega) (by omega)
  · skip
    refine R_seg (φ := []) (pc' := 2) (L' := [.ref 18, .ref 3, .int e, .int 0, mj_mk]) (st' := []) (σ' := (mj_KS N, I, mj_PP c d (41))) 2 rfl trivial ?_
    exact x_X2_rs l b base D z N (41) 3 m e (by decide) (by decide) c d hm he hmx m 0  mj_mk I (by omega) (by omega) (by omega)
  · skip
    refine R_seg (φ := []) (pc' := 2) (L' := [.ref 18, .ref 11, .int e, .int 0, mj_mk]) (st' := []) (σ' := (mj_KS N, I, mj_PP c d (41))) 2 rfl trivial ?_
    exact x_X2_rs l b base D z N (41) 11 m e (by decide) (by decide) c d hm he hmx m 0  mj_mk I (by omega) (by omega) (by omega)
  · skip
    refine R_seg (φ := []) (pc' := 2) (L' := [.ref 18, .ref 7, .int e, .int 0, mj_mk]) (st' := []) (σ' := (mj_KS N, I, mj_PP c d (41))) 2 rfl trivial ?_
    exact x_X2_rs l b base D z N (41) 7 m e (by decide) (by decide) c d hm he hmx m 0  mj_mk I (by omega) (by omega) (by omega)
  · skip
    refine R_seg (φ := []) (pc' := 2) (L' := [.ref 18, .ref 8, .int e, .int 0, mj_mk]) (st' := []) (σ' := (mj_KS N, I, mj_PP c d (41))) 2 rfl trivial ?_
    exact x_X2_rs l b base D z N (41) 8 m e (by decide) (by decide) c d hm he hmx m 0  mj_mk I (by omega) (by omega) (by omega)
  · skip
    refine R_seg (φ := []) (pc' := 2) (L' := [.ref 18, .ref 9, .int e, .int 0, mj_mk]) (st' := []) (σ' := (mj_KS N, I, mj_PP c d (41))) 2 rfl trivial ?_
    exact x_X2_rs l b base D z N (41) 9 m e (by decide) (by decide) c d hm he hmx m 0  mj_mk I (by omega) (by omega) (by omega)
  · skip
    refine R_seg (φ := []) (pc' := 2) (L' := [.ref 18, .ref 15, .int e, .int 0, mj_mk]) (st' := []) (σ' := (mj_KS N, I, mj_PP c d (41))) 2 rfl trivial ?_
    exact x_X2_rs l b base D z N (41) 15 m e (by decide) (by decide) c d hm he hmx m 0  mj_mk I (by omega) (by omega) (by omega)
  · skip
    refine R_seg (φ := []) (pc' := 2) (L' := [.ref 18, .ref 16, .int e, .int 0, mj_mk]) (st' := []) (σ' := (mj_KS N, I, mj_PP c d (41))) 2 rfl trivial ?_
    exact x_X2_rs l b base D z N (41) 16 m e (by decide) (by decide) c d hm he hmx m 0  mj_mk I (by omega) (by omega) (by omega)
  · skip
    refine R_seg (φ := []) (pc' := 2) (L' := [.ref 18, .ref 17, .int e, .int 0, mj_mk]) (st' := []) (σ' := (mj_KS N, I, mj_PP c d (41))) 2 rfl trivial ?_
    exact x_X2_rs l b base D z N (41) 17 m e (by decide) (by decide) c d hm he hmx m 0  mj_mk I (by omega) (by omega) (by omega)
