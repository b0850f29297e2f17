/-! the class: a city read -/
def s_X2_readsPlants (dd : Nat) (rr : Nat) (I : mj_I) : Int32 × mj_I := ((s_X2_pl (dd) (rr) 3 0  (mj_upI I dd 1 0)).1, (s_X2_pl (dd) (rr) 3 0  (mj_upI I dd 1 0)).2)
set_option maxHeartbeats 8000000 in
theorem x_X2_readsPlants (l : Launch) (b base : Nat) (D : va_G) (z : mj_K × (Int32 → Int32)) (N : Nat) (dd : Nat) (rr : Nat) (hdd : dd = 2 ∨ dd = 10) (hrr : rr = 35 ∨ rr = 37 ∨ rr = 39 ∨ rr = 41) (I : mj_I) (c : Nat) : mj_Rn l b base D z mj_m_X2_readsPlants 0 [.ref 18, .ref dd, mj_mk, mj_mk] [] (mj_KS N, I, mj_PP c dd rr) (mj_E N (some (.int (s_X2_readsPlants dd rr I).1)) (s_X2_readsPlants dd rr I).2 (mj_PP c dd rr)) := by
  rcases hdd with rfl | rfl <;> rcases hrr with rfl | rfl | rfl | rfl
  · skip
    refine R_seg (φ := []) (pc' := 7) (L' := [.ref 18, .ref 2, .int 0, mj_mk]) (st' := []) (σ' := (mj_KS N, (mj_upI I 2 1 0), mj_PP c (2) (35))) 5 rfl trivial ?_
    exact x_X2_pl l b base D z N (2) (35) (by decide) (by decide) c  3 0  mj_mk (mj_upI I 2 1 0) (by omega) (by omega) (by omega)
  · skip
    refine R_seg (φ := []) (pc' := 7) (L' := [.ref 18, .ref 2, .int 0, mj_mk]) (st' := []) (σ' := (mj_KS N, (mj_upI I 2 1 0), mj_PP c (2) (37))) 5 rfl trivial ?_
    exact x_X2_pl l b base D z N (2) (37) (by decide) (by decide) c  3 0  mj_mk (mj_upI I 2 1 0) (by omega) (by omega) (by omega)
  · skip
    refine R_seg (φ := []) (pc' := 7) (L' := [.ref 18, .ref 2, .int 0, mj_mk]) (st' := []) (σ' := (mj_KS N, (mj_upI I 2 1 0), mj_PP c (2) (39))) 5 rfl trivial ?_
    exact x_X2_pl l b base D z N (2) (39) (by decide) (by decide) c  3 0  mj_mk (mj_upI I 2 1 0) (by omega) (by omega) (by omega)
  · skip
    refine R_seg (φ := []) (pc' := 7) (L' := [.ref 18, .ref 2, .int 0, mj_mk]) (st' := []) (σ' := (mj_KS N, (mj_upI I 2 1 0), mj_PP c (2) (41))) 5 rfl trivial ?_
    exact x_X2_pl l b base D z N (2) (41) (by decide) (by decide) c  3 0  mj_mk (mj_upI I 2 1 0) (by omega) (by omega) (by omega)
  · skip
    refine R_seg (φ := []) (pc' := 7) (L' := [.ref 18, .ref 10, .int 0, mj_mk]) (st' := []) (σ' := (mj_KS N, (mj_upI I 10 1 0), mj_PP c (10) (35))) 5 rfl trivial ?_
    exact x_X2_pl l b base D z N (10) (35) (by decide) (by decide) c  3 0  mj_mk (mj_upI I 10 1 0) (by omega) (by omega) (by omega)
  · skip
    refine R_seg (φ := []) (pc' := 7) (L' := [.ref 18, .ref 10, .int 0, mj_mk]) (st' := []) (σ' := (mj_KS N, (mj_upI I 10 1 0), mj_PP c (10) (37))) 5 rfl trivial ?_
    exact x_X2_pl l b base D z N (10) (37) (by decide) (by decide) c  3 0  mj_mk (mj_upI I 10 1 0) (by omega) (by omega) (by omega)
  · skip
    refine R_seg (φ := []) (pc' := 7) (L' := [.ref 18, .ref 10, .int 0, mj_mk]) (st' := []) (σ' := (mj_KS N, (mj_upI I 10 1 0), mj_PP c (10) (39))) 5 rfl trivial ?_
    exact x_X2_pl l b base D z N (10) (39) (by decide) (by decide) c  3 0  mj_mk (mj_upI I 10 1 0) (by omega) (by omega) (by omega)
  · skip
    refine R_seg (φ := []) (pc' := 7) (L' := [.ref 18, .ref 10, .int 0, mj_mk]) (st' := []) (σ' := (mj_KS N, (mj_upI I 10 1 0), mj_PP c (10) (41))) 5 rfl trivial ?_
    exact x_X2_pl l b base D z N (10) (41) (by decide) (by decide) c  3 0  mj_mk (mj_upI I 10 1 0) (by omega) (by omega) (by omega)
def s_X2_readsCity (dd : Nat) (rr : Nat) (I : mj_I) : Int32 × mj_I := if (((s_X2_readsStreets (dd) (rr) I).1) : Int32) = 0 then (0, ((s_X2_readsStreets (dd) (rr) I).2)) else (if (((s_X2_readsCorners (dd) (rr) (((s_X2_readsStreets (dd) (rr) I).2))).1) : Int32) = 0 then (0, ((s_X2_readsCorners (dd) (rr) (((s_X2_readsStreets (dd) (rr) I).2))).2)) else (if (((s_X2_readsPlants (dd) (rr) (((s_X2_readsCorners (dd) (rr) (((s_X2_readsStreets (dd) (rr) I).2))).2))).1) : Int32) = 0 then (0, ((s_X2_readsPlants (dd) (rr) (((s_X2_readsCorners (dd) (rr) (((s_X2_readsStreets (dd) (rr) I).2))).2))).2)) else (if ((((s_X2_readsPlants (dd) (rr) (((s_X2_readsCorners (dd) (rr) (((s_X2_readsStreets (dd) (rr) I).2))).2))).2)) 18 3 : Int32) = (((s_X2_readsPlants (dd) (rr) (((s_X2_readsCorners (dd) (rr) (((s_X2_readsStreets (dd) (rr) I).2))).2))).2)) 18 2 then (1, ((s_X2_readsPlants (dd) (rr) (((s_X2_readsCorners (dd) (rr) (((s_X2_readsStreets (dd) (rr) I).2))).2))).2)) else (0, ((s_X2_readsPlants (dd) (rr) (((s_X2_readsCorners (dd) (rr) (((s_X2_readsStreets (dd) (rr) I).2))).2))).2)))))
set_option maxHeartbeats 8000000 in
theorem x_X2_readsCity (l : Launch) (b base : Nat) (D : va_G) (z : mj_K × (Int32 → Int32)) (N : Nat) (dd : Nat) (rr : Nat) (hdd : dd = 2 ∨ dd = 10) (hrr : rr = 35 ∨ rr = 37 ∨ rr = 39 ∨ rr = 41) (I : mj_I) (c : Nat) : mj_Rn l b base D z mj_m_X2_readsCity 0 [.ref 18, .ref dd] [] (mj_KS N, I, mj_PP c dd rr) (mj_E N (some (.int (s_X2_readsCity dd rr I).1)) (s_X2_readsCity dd rr I).2 (mj_PP c dd rr)) := by
  rcases hdd with rfl | rfl <;> rcases hrr with rfl | rfl | rfl | rfl
  · skip
    refine R_seg (φ := []) (pc' := 2) (L' := [.ref 18, .ref 2]) (st' := [.ref 2, .ref 18]) (σ' := (mj_KS N, I, mj_PP c (2) (35))) 2 rfl trivial ?_
    refine R_ce (idx := 25) (mid := 19) (kind := 0) (N := N) (M' := mj_m_X2_readsStreets) (As := [.ref 18, .ref 2]) (rest := []) (I := I) (P := mj_PP c (2) (35)) (I' := (s_X2_readsStreets (2) (35) I).2) (P' := mj_PP c (2) (35)) (v := some (.int ((s_X2_readsStreets (2) (35) I).1))) rfl rfl rfl mj_mc19 mj_dc19 rfl rfl rfl rfl rfl rfl (x_X2_readsStreets l b base D z N (2) (35) (by decide) (by decide) I c ) ?_
    have f1 : ¬ (s_X2_readsStreets (2) (35) I).1 = 0 → 2 ≤ ((s_X2_readsStreets (2) (35) I).2 2 0).toInt ∧ ((s_X2_readsStreets (2) (35) I).2 2 0).toInt ≤ 6 := mj_st_ok (by decide)
    generalize hg1 : s_X2_readsStreets (2) (35) I = g1 at f1 ⊢
    refine R_seg (φ := []) (pc' := 5) (L' := [.ref 18, .ref 2]) (st' := [.int (g1.1)]) (σ' := (mj_KS N, g1.2, mj_PP c (2) (35))) 0 rfl trivial ?_
    refine R_br (q := (g1.1 : Int32) = 0) (t := 39) (f := 8) (rest := []) rfl (fun h1 => ?_) (fun h1 => ?_)
    · skip
      refine R_seg (φ := []) (pc' := 40) (L' := [.ref 18, .ref 2]) (st' := [.int 0]) (σ' := (mj_KS N, g1.2, mj_PP c (2) (35))) 1 rfl trivial ?_
      exact R_rb rfl rfl (Or.inl rfl) (mj_leaf (by simp only [s_X2_readsCity, hg1, if_pos h1, Bool.false_eq_true, ↓reduceIte, Nat.reduceAdd, Nat.reduceMul, mj_tn0, mj_tn1, mj_tn2, mj_tn3]) (by simp only [s_X2_readsCity, hg1, if_pos h1, Bool.false_eq_true, ↓reduceIte, Nat.reduceAdd, Nat.reduceMul, mj_tn0, mj_tn1, mj_tn2, mj_tn3]))
    · skip
      refine R_seg (φ := []) (pc' := 10) (L' := [.ref 18, .ref 2]) (st' := [.ref 2, .ref 18]) (σ' := (mj_KS N, g1.2, mj_PP c (2) (35))) 2 rfl trivial ?_
      refine R_ce (idx := 29) (mid := 21) (kind := 0) (N := N) (M' := mj_m_X2_readsCorners) (As := [.ref 18, .ref 2]) (rest := []) (I := g1.2) (P := mj_PP c (2) (35)) (I' := (s_X2_readsCorners (2) (35) (g1.2)).2) (P' := mj_PP c (2) (35)) (v := some (.int ((s_X2_readsCorners (2) (35) (g1.2)).1))) rfl rfl rfl mj_mc21 mj_dc21 rfl rfl rfl rfl rfl rfl (x_X2_readsCorners l b base D z N (2) (35) (by decide) (by decide) (g1.2) c (by have := f1 h1; omega)) ?_
      generalize hg2 : s_X2_readsCorners (2) (35) (g1.2) = g2
      refine R_seg (φ := []) (pc' := 13) (L' := [.ref 18, .ref 2]) (st' := [.int (g2.1)]) (σ' := (mj_KS N, g2.2, mj_PP c (2) (35))) 0 rfl trivial ?_
      refine R_br (q := (g2.1 : Int32) = 0) (t := 39) (f := 16) (rest := []) rfl (fun h2 => ?_) (fun h2 => ?_)
      · skip
        refine R_seg (φ := []) (pc' := 40) (L' := [.ref 18, .ref 2]) (st' := [.int 0]) (σ' := (mj_KS N, g2.2, mj_PP c (2) (35))) 1 rfl trivial ?_
        exact R_rb rfl rfl (Or.inl rfl) (mj_leaf (by simp only [s_X2_readsCity, hg1, hg2, if_neg h1, if_pos h2, Bool.false_eq_true, ↓reduceIte, Nat.reduceAdd, Nat.reduceMul, mj_tn0, mj_tn1, mj_tn2, mj_tn3]) (by simp only [s_X2_readsCity, hg1, hg2, if_neg h1, if_pos h2, Bool.false_eq_true, ↓reduceIte, Nat.reduceAdd, Nat.reduceMul, mj_tn0, mj_tn1, mj_tn2, mj_tn3]))
      · skip
        refine R_seg (φ := []) (pc' := 18) (L' := [.ref 18, .ref 2]) (st' := [.ref 2, .ref 18]) (σ' := (mj_KS N, g2.2, mj_PP c (2) (35))) 2 rfl trivial ?_
        refine R_ce (idx := 32) (mid := 22) (kind := 0) (N := N) (M' := mj_m_X2_readsPlants) (As := [.ref 18, .ref 2]) (rest := []) (I := g2.2) (P := mj_PP c (2) (35)) (I' := (s_X2_readsPlants (2) (35) (g2.2)).2) (P' := mj_PP c (2) (35)) (v := some (.int ((s_X2_readsPlants (2) (35) (g2.2)).1))) rfl rfl rfl mj_mc22 mj_dc22 rfl rfl rfl rfl rfl rfl (x_X2_readsPlants l b base D z N (2) (35) (by decide) (by decide) (g2.2) c ) ?_
        generalize hg3 : s_X2_readsPlants (2) (35) (g2.2) = g3
        refine R_seg (φ := []) (pc' := 21) (L' := [.ref 18, .ref 2]) (st' := [.int (g3.1)]) (σ' := (mj_KS N, g3.2, mj_PP c (2) (35))) 0 rfl trivial ?_
        refine R_br (q := (g3.1 : Int32) = 0) (t := 39) (f := 24) (rest := []) rfl (fun h3 => ?_) (fun h3 => ?_)
        · skip
          refine R_seg (φ := []) (pc' := 40) (L' := [.ref 18, .ref 2]) (st' := [.int 0]) (σ' := (mj_KS N, g3.2, mj_PP c (2) (35))) 1 rfl trivial ?_
          exact R_rb rfl rfl (Or.inl rfl) (mj_leaf (by simp only [s_X2_readsCity, hg1, hg2, hg3, if_neg h1, if_neg h2, if_pos h3, Bool.false_eq_true, ↓reduceIte, Nat.reduceAdd, Nat.reduceMul, mj_tn0, mj_tn1, mj_tn2, mj_tn3]) (by simp only [s_X2_readsCity, hg1, hg2, hg3, if_neg h1, if_neg h2, if_pos h3, Bool.false_eq_true, ↓reduceIte, Nat.reduceAdd, Nat.reduceMul, mj_tn0, mj_tn1, mj_tn2, mj_tn3]))
        · skip
          refine R_seg (φ := []) (pc' := 32) (L' := [.ref 18, .ref 2]) (st' := [.int ((g3.2) 18 2), .int ((g3.2) 18 3)]) (σ' := (mj_KS N, g3.2, mj_PP c (2) (35))) 4 rfl trivial ?_
          refine R_br (q := ((g3.2) 18 3 : Int32) = (g3.2) 18 2) (t := 35) (f := 39) (rest := []) rfl (fun h4 => ?_) (fun h4 => ?_)
          · skip
            refine R_seg (φ := []) (pc' := 40) (L' := [.ref 18, .ref 2]) (st' := [.int 1]) (σ' := (mj_KS N, g3.2, mj_PP c (2) (35))) 2 rfl trivial ?_
            exact R_rb rfl rfl (Or.inr rfl) (mj_leaf (by simp only [s_X2_readsCity, hg1, hg2, hg3, if_neg h1, if_neg h2, if_neg h3, if_pos h4, Bool.false_eq_true, ↓reduceIte, Nat.reduceAdd, Nat.reduceMul, mj_tn0, mj_tn1, mj_tn2, mj_tn3]) (by simp only [s_X2_readsCity, hg1, hg2, hg3, if_neg h1, if_neg h2, if_neg h3, if_pos h4, Bool.false_eq_true, ↓reduceIte, Nat.reduceAdd, Nat.reduceMul, mj_tn0, mj_tn1, mj_tn2, mj_tn3]))
          · skip
            refine R_seg (φ := []) (pc' := 40) (L' := [.ref 18, .ref 2]) (st' := [.int 0]) (σ' := (mj_KS N, g3.2, mj_PP c (2) (35))) 1 rfl trivial ?_
            exact R_rb rfl rfl (Or.inl rfl) (mj_leaf (by simp only [s_X2_readsCity, hg1, hg2, hg3, if_neg h1, if_neg h2, if_neg h3, if_neg h4, Bool.false_eq_true, ↓reduceIte, Nat.reduceAdd, Nat.reduceMul, mj_tn0, mj_tn1, mj_tn2, mj_tn3]) (by simp only [s_X2_readsCity, hg1, hg2, hg3, if_neg h1, if_neg h2, if_neg h3, if_neg h4, Bool.false_eq_true, ↓reduceIte, Nat.reduceAdd, Nat.reduceMul, mj_tn0, mj_tn1, mj_tn2, mj_tn3]))
  · skip
    refine R_seg (φ := []) (pc' := 2) (L' := [.ref 18, .ref 2]) (st' := [.ref 2, .ref 18]) (σ' := (mj_KS N, I, mj_PP c (2) (37))) 2 rfl trivial ?_
    refine R_ce (idx := 25) (mid := 19) (kind := 0) (N := N) (M' := mj_m_X2_readsStreets) (As := [.ref 18, .ref 2]) (rest := []) (I := I) (P := mj_PP c (2) (37)) (I' := (s_X2_readsStreets (2) (37) I).2) (P' := mj_PP c (2) (37)) (v := some (.int ((s_X2_readsStreets (2) (37) I).1))) rfl rfl rfl mj_mc19 mj_dc19 rfl rfl rfl rfl rfl rfl (x_X2_readsStreets l b base D z N (2) (37) (by decide) (by decide) I c ) ?_
    have f1 : ¬ (s_X2_readsStreets (2) (37) I).1 = 0 → 2 ≤ ((s_X2_readsStreets (2) (37) I).2 2 0).toInt ∧ ((s_X2_readsStreets (2) (37) I).2 2 0).toInt ≤ 6 := mj_st_ok (by decide)
    generalize hg1 : s_X2_readsStreets (2) (37) I = g1 at f1 ⊢
    refine R_seg (φ := []) (pc' := 5) (L' := [.ref 18, .ref 2]) (st' := [.int (g1.1)]) (σ' := (mj_KS N, g1.2, mj_PP c (2) (37))) 0 rfl trivial ?_
    refine R_br (q := (g1.1 : Int32) = 0) (t := 39) (f := 8) (rest := []) rfl (fun h1 => ?_) (fun h1 => ?_)
    · skip
      refine R_seg (φ := []) (pc' := 40) (L' := [.ref 18, .ref 2]) (st' := [.int 0]) (σ' := (mj_KS N, g1.2, mj_PP c (2) (37))) 1 rfl trivial ?_
      exact R_rb rfl rfl (Or.inl rfl) (mj_leaf (by simp only [s_X2_readsCity, hg1, if_pos h1, Bool.false_eq_true, ↓reduceIte, Nat.reduceAdd, Nat.reduceMul, mj_tn0, mj_tn1, mj_tn2, mj_tn3]) (by simp only [s_X2_readsCity, hg1, if_pos h1, Bool.false_eq_true, ↓reduceIte, Nat.reduceAdd, Nat.reduceMul, mj_tn0, mj_tn1, mj_tn2, mj_tn3]))
    · skip
      refine R_seg (φ := []) (pc' := 10) (L' := [.ref 18, .ref 2]) (st' := [.ref 2, .ref 18]) (σ' := (mj_KS N, g1.2, mj_PP c (2) (37))) 2 rfl trivial ?_
      refine R_ce (idx := 29) (mid := 21) (kind := 0) (N := N) (M' := mj_m_X2_readsCorners) (As := [.ref 18, .ref 2]) (rest := []) (I := g1.2) (P := mj_PP c (2) (37)) (I' := (s_X2_readsCorners (2) (37) (g1.2)).2) (P' := mj_PP c (2) (37)) (v := some (.int ((s_X2_readsCorners (2) (37) (g1.2)).1))) rfl rfl rfl mj_mc21 mj_dc21 rfl rfl rfl rfl rfl rfl (x_X2_readsCorners l b base D z N (2) (37) (by decide) (by decide) (g1.2) c (by have := f1 h1; omega)) ?_
      generalize hg2 : s_X2_readsCorners (2) (37) (g1.2) = g2
      refine R_seg (φ := []) (pc' := 13) (L' := [.ref 18, .ref 2]) (st' := [.int (g2.1)]) (σ' := (mj_KS N, g2.2, mj_PP c (2) (37))) 0 rfl trivial ?_
      refine R_br (q := (g2.1 : Int32) = 0) (t := 39) (f := 16) (rest := []) rfl (fun h2 => ?_) (fun h2 => ?_)
      · skip
        refine R_seg (φ := []) (pc' := 40) (L' := [.ref 18, .ref 2]) (st' := [.int 0]) (σ' := (mj_KS N, g2.2, mj_PP c (2) (37))) 1 rfl trivial ?_
        exact R_rb rfl rfl (Or.inl rfl) (mj_leaf (by simp only [s_X2_readsCity, hg1, hg2, if_neg h1, if_pos h2, Bool.false_eq_true, ↓reduceIte, Nat.reduceAdd, Nat.reduceMul, mj_tn0, mj_tn1, mj_tn2, mj_tn3]) (by simp only [s_X2_readsCity, hg1, hg2, if_neg h1, if_pos h2, Bool.false_eq_true, ↓reduceIte, Nat.reduceAdd, Nat.reduceMul, mj_tn0, mj_tn1, mj_tn2, mj_tn3]))
      · skip
        refine R_seg (φ := []) (pc' := 18) (L' := [.ref 18, .ref 2]) (st' := [.ref 2, .ref 18]) (σ' := (mj_KS N, g2.2, mj_PP c (2) (37))) 2 rfl trivial ?_
        refine R_ce (idx := 32) (mid := 22) (kind := 0) (N := N) (M' := mj_m_X2_readsPlants) (As := [.ref 18, .ref 2]) (rest := []) (I := g2.2) (P := mj_PP c (2) (37)) (I' := (s_X2_readsPlants (2) (37) (g2.2)).2) (P' := mj_PP c (2) (37)) (v := some (.int ((s_X2_readsPlants (2) (37) (g2.2)).1))) rfl rfl rfl mj_mc22 mj_dc22 rfl rfl rfl rfl rfl rfl (x_X2_readsPlants l b base D z N (2) (37) (by decide) (by decide) (g2.2) c ) ?_
        generalize hg3 : s_X2_readsPlants (2) (37) (g2.2) = g3
        refine R_seg (φ := []) (pc' := 21) (L' := [.ref 18, .ref 2]) (st' := [.int (g3.1)]) (σ' := (mj_KS N, g3.2, mj_PP c (2) (37))) 0 rfl trivial ?_
        refine R_br (q := (g3.1 : Int32) = 0) (t := 39) (f := 24) (rest := []) rfl (fun h3 => ?_) (fun h3 => ?_)
        · skip
          refine R_seg (φ := []) (pc' := 40) (L' := [.ref 18, .ref 2]) (st' := [.int 0]) (σ' := (mj_KS N, g3.2, mj_PP c (2) (37))) 1 rfl trivial ?_
          exact R_rb rfl rfl (Or.inl rfl) (mj_leaf (by simp only [s_X2_readsCity, hg1, hg2, hg3, if_neg h1, if_neg h2, if_pos h3, Bool.false_eq_true, ↓reduceIte, Nat.reduceAdd, Nat.reduceMul, mj_tn0, mj_tn1, mj_tn2, mj_tn3]) (by simp only [s_X2_readsCity, hg1, hg2, hg3, if_neg h1, if_neg h2, if_pos h3, Bool.false_eq_true, ↓reduceIte, Nat.reduceAdd, Nat.reduceMul, mj_tn0, mj_tn1, mj_tn2, mj_tn3]))
        · skip
          refine R_seg (φ := []) (pc' := 32) (L' := [.ref 18, .ref 2]) (st' := [.int ((g3.2) 18 2), .int ((g3.2) 18 3)]) (σ' := (mj_KS N, g3.2, mj_PP c (2) (37))) 4 rfl trivial ?_
          refine R_br (q := ((g3.2) 18 3 : Int32) = (g3.2) 18 2) (t := 35) (f := 39) (rest := []) rfl (fun h4 => ?_) (fun h4 => ?_)
          · skip
            refine R_seg (φ := []) (pc' := 40) (L' := [.ref 18, .ref 2]) (st' := [.int 1]) (σ' := (mj_KS N, g3.2, mj_PP c (2) (37))) 2 rfl trivial ?_
            exact R_rb rfl rfl (Or.inr rfl) (mj_leaf (by simp only [s_X2_readsCity, hg1, hg2, hg3, if_neg h1, if_neg h2, if_neg h3, if_pos h4, Bool.false_eq_true, ↓reduceIte, Nat.reduceAdd, Nat.reduceMul, mj_tn0, mj_tn1, mj_tn2, mj_tn3]) (by simp only [s_X2_readsCity, hg1, hg2, hg3, if_neg h1, if_neg h2, if_neg h3, if_pos h4, Bool.false_eq_true, ↓reduceIte, Nat.reduceAdd, Nat.reduceMul, mj_tn0, mj_tn1, mj_tn2, mj_tn3]))
          · skip
            refine R_seg (φ := []) (pc' := 40) (L' := [.ref 18, .ref 2]) (st' := [.int 0]) (σ' := (mj_KS N, g3.2, mj_PP c (2) (37))) 1 rfl trivial ?_
            exact R_rb rfl rfl (Or.inl rfl) (mj_leaf (by simp only [s_X2_readsCity, hg1, hg2, hg3, if_neg h1, if_neg h2, if_neg h3, if_neg h4, Bool.false_eq_true, ↓reduceIte, Nat.reduceAdd, Nat.reduceMul, mj_tn0, mj_tn1, mj_tn2, mj_tn3]) (by simp only [s_X2_readsCity, hg1, hg2, hg3, if_neg h1, if_neg h2, if_neg h3, if_neg h4, Bool.false_eq_true, ↓reduceIte, Nat.reduceAdd, Nat.reduceMul, mj_tn0, mj_tn1, mj_tn2, mj_tn3]))
  · skip
    refine R_seg (φ := []) (pc' := 2) (L' := [.ref 18, .ref 2]) (st' := [.ref 2, .ref 18]) (σ' := (mj_KS N, I, mj_PP c (2) (39))) 2 rfl trivial ?_
    refine R_ce (idx := 25) (mid := 19) (kind := 0) (N := N) (M' := mj_m_X2_readsStreets) (As := [.ref 18, .ref 2]) (rest := []) (I := I) (P := mj_PP c (2) (39)) (I' := (s_X2_readsStreets (2) (39) I).2) (P' := mj_PP c (2) (39)) (v := some (.int ((s_X2_readsStreets (2) (39) I).1))) rfl rfl rfl mj_mc19 mj_dc19 rfl rfl rfl rfl rfl rfl (x_X2_readsStreets l b base D z N (2) (39) (by decide) (by decide) I c ) ?_
    have f1 : ¬ (s_X2_readsStreets (2) (39) I).1 = 0 → 2 ≤ ((s_X2_readsStreets (2) (39) I).2 2 0).toInt ∧ ((s_X2_readsStreets (2) (39) I).2 2 0).toInt ≤ 6 := mj_st_ok (by decide)
    generalize hg1 : s_X2_readsStreets (2) (39) I = g1 at f1 ⊢
    refine R_seg (φ := []) (pc' := 5) (L' := [.ref 18, .ref 2]) (st' := [.int (g1.1)]) (σ' := (mj_KS N, g1.2, mj_PP c (2) (39))) 0 rfl trivial ?_
    refine R_br (q := (g1.1 : Int32) = 0) (t := 39) (f := 8) (rest := []) rfl (fun h1 => ?_) (fun h1 => ?_)
    · skip
      refine R_seg (φ := []) (pc' := 40) (L' := [.ref 18, .ref 2]) (st' := [.int 0]) (σ' := (mj_KS N, g1.2, mj_PP c (2) (39))) 1 rfl trivial ?_
      exact R_rb rfl rfl (Or.inl rfl) (mj_leaf (by simp only [s_X2_readsCity, hg1, if_pos h1, Bool.false_eq_true, ↓reduceIte, Nat.reduceAdd, Nat.reduceMul, mj_tn0, mj_tn1, mj_tn2, mj_tn3]) (by simp only [s_X2_readsCity, hg1, if_pos h1, Bool.false_eq_true, ↓reduceIte, Nat.reduceAdd, Nat.reduceMul, mj_tn0, mj_tn1, mj_tn2, mj_tn3]))
    · skip
      refine R_seg (φ := []) (pc' := 10) (L' := [.ref 18, .ref 2]) (st' := [.ref 2, .ref 18]) (σ' := (mj_KS N, g1.2, mj_PP c (2) (39))) 2 rfl trivial ?_
      refine R_ce (idx := 29) (mid := 21) (kind := 0) (N := N) (M' := mj_m_X2_readsCorners) (As := [.ref 18, .ref 2]) (rest := []) (I := g1.2) (P := mj_PP c (2) (39)) (I' := (s_X2_readsCorners (2) (39) (g1.2)).2) (P' := mj_PP c (2) (39)) (v := some (.int ((s_X2_readsCorners (2) (39) (g1.2)).1))) rfl rfl rfl mj_mc21 mj_dc21 rfl rfl rfl rfl rfl rfl (x_X2_readsCorners l b base D z N (2) (39) (by decide) (by decide) (g1.2) c (by have := f1 h1; omega)) ?_
      generalize hg2 : s_X2_readsCorners (2) (39) (g1.2) = g2
      refine R_seg (φ := []) (pc' := 13) (L' := [.ref 18, .ref 2]) (st' := [.int (g2.1)]) (σ' := (mj_KS N, g2.2, mj_PP c (2) (39))) 0 rfl trivial ?_
      refine R_br (q := (g2.1 : Int32) = 0) (t := 39) (f := 16) (rest := []) rfl (fun h2 => ?_) (fun h2 => ?_)
      · skip
        refine R_seg (φ := []) (pc' := 40) (L' := [.ref 18, .ref 2]) (st' := [.int 0]) (σ' := (mj_KS N, g2.2, mj_PP c (2) (39))) 1 rfl trivial ?_
        exact R_rb rfl rfl (Or.inl rfl) (mj_leaf (by simp only [s_X2_readsCity, hg1, hg2, if_neg h1, if_pos h2, Bool.false_eq_true, ↓reduceIte, Nat.reduceAdd, Nat.reduceMul, mj_tn0, mj_tn1, mj_tn2, mj_tn3]) (by simp only [s_X2_readsCity, hg1, hg2, if_neg h1, if_pos h2, Bool.false_eq_true, ↓reduceIte, Nat.reduceAdd, Nat.reduceMul, mj_tn0, mj_tn1, mj_tn2, mj_tn3]))
      · skip
        refine R_seg (φ := []) (pc' := 18) (L' := [.ref 18, .ref 2]) (st' := [.ref 2, .ref 18]) (σ' := (mj_KS N, g2.2, mj_PP c (2) (39))) 2 rfl trivial ?_
        refine R_ce (idx := 32) (mid := 22) (kind := 0) (N := N) (M' := mj_m_X2_readsPlants) (As := [.ref 18, .ref 2]) (rest := []) (I := g2.2) (P := mj_PP c (2) (39)) (I' := (s_X2_readsPlants (2) (39) (g2.2)).2) (P' := mj_PP c (2) (39)) (v := some (.int ((s_X2_readsPlants (2) (39) (g2.2)).1))) rfl rfl rfl mj_mc22 mj_dc22 rfl rfl rfl rfl rfl rfl (x_X2_readsPlants l b base D z N (2) (39) (by decide) (by decide) (g2.2) c ) ?_
        generalize hg3 : s_X2_readsPlants (2) (39) (g2.2) = g3
        refine R_seg (φ := []) (pc' := 21) (L' := [.ref 18, .ref 2]) (st' := [.int (g3.1)]) (σ' := (mj_KS N, g3.2, mj_PP c (2) (39))) 0 rfl trivial ?_
        refine R_br (q := (g3.1 : Int32) = 0) (t := 39) (f := 24) (rest := []) rfl (fun h3 => ?_) (fun h3 => ?_)
        · skip
          refine R_seg (φ := []) (pc' := 40) (L' := [.ref 18, .ref 2]) (st' := [.int 0]) (σ' := (mj_KS N, g3.2, mj_PP c (2) (39))) 1 rfl trivial ?_
          exact R_rb rfl rfl (Or.inl rfl) (mj_leaf (by simp only [s_X2_readsCity, hg1, hg2, hg3, if_neg h1, if_neg h2, if_pos h3, Bool.false_eq_true, ↓reduceIte, Nat.reduceAdd, Nat.reduceMul, mj_tn0, mj_tn1, mj_tn2, mj_tn3]) (by simp only [s_X2_readsCity, hg1, hg2, hg3, if_neg h1, if_neg h2, if_pos h3, Bool.false_eq_true, ↓reduceIte, Nat.reduceAdd, Nat.reduceMul, mj_tn0, mj_tn1, mj_tn2, mj_tn3]))
        · skip
          refine R_seg (φ := []) (pc' := 32) (L' := [.ref 18, .ref 2]) (st' := [.int ((g3.2) 18 2), .int ((g3.2) 18 3)]) (σ' := (mj_KS N, g3.2, mj_PP c (2) (39))) 4 rfl trivial ?_
          refine R_br (q := ((g3.2) 18 3 : Int32) = (g3.2) 18 2) (t := 35) (f := 39) (rest := []) rfl (fun h4 => ?_) (fun h4 => ?_)
          · skip
            refine R_seg (φ := []) (pc' := 40) (L' := [.ref 18, .ref 2]) (st' := [.int 1]) (σ' := (mj_KS N, g3.2, mj_PP c (2) (39))) 2 rfl trivial ?_
            exact R_rb rfl rfl (Or.inr rfl) (mj_leaf (by simp only [s_X2_readsCity, hg1, hg2, hg3, if_neg h1, if_neg h2, if_neg h3, if_pos h4, Bool.false_eq_true, ↓reduceIte, Nat.reduceAdd, Nat.reduceMul, mj_tn0, mj_tn1, mj_tn2, mj_tn3]) (by simp only [s_X2_readsCity, hg1, hg2, hg3, if_neg h1, if_neg h2, if_neg h3, if_pos h4, Bool.false_eq_true, ↓reduceIte, Nat.reduceAdd, Nat.reduceMul, mj_tn0, mj_tn1, mj_tn2, mj_tn3]))
          · skip
            refine R_seg (φ := []) (pc' := 40) (L' := [.ref 18, .ref 2]) (st' := [.int 0]) (σ' := (mj_KS N, g3.2, mj_PP c (2) (39))) 1 rfl trivial ?_
            exact R_rb rfl rfl (Or.inl rfl) (mj_leaf (by simp only [s_X2_readsCity, hg1, hg2, hg3, if_neg h1, if_neg h2, if_neg h3, if_neg h4, Bool.false_eq_true, ↓reduceIte, Nat.reduceAdd, Nat.reduceMul, mj_tn0, mj_tn1, mj_tn2, mj_tn3]) (by simp only [s_X2_readsCity, hg1, hg2, hg3, if_neg h1, if_neg h2, if_neg h3, if_neg h4, Bool.false_eq_true, ↓reduceIte, Nat.reduceAdd, Nat.reduceMul, mj_tn0, mj_tn1, mj_tn2, mj_tn3]))
  · skip
    refine R_seg (φ := []) (pc' := 2) (L' := [.ref 18, .ref 2]) (st' := [.ref 2, .ref 18]) (σ' := (mj_KS N, I, mj_PP c (2) (41))) 2 rfl trivial ?_
    refine R_ce (idx := 25) (mid := 19) (kind := 0) (N := N) (M' := mj_m_X2_readsStreets) (As := [.ref 18, .ref 2]) (rest := []) (I := I) (P := mj_PP c (2) (41)) (I' := (s_X2_readsStreets (2) (41) I).2) (P' := mj_PP c (2) (41)) (v := some (.int ((s_X2_readsStreets (2) (41) I).1))) rfl rfl rfl mj_mc19 mj_dc19 rfl rfl rfl rfl rfl rfl (x_X2_readsStreets l b base D z N (2) (41) (by decide) (by decide) I c ) ?_
    have f1 : ¬ (s_X2_readsStreets (2) (41) I).1 = 0 → 2 ≤ ((s_X2_readsStreets (2) (41) I).2 2 0).toInt ∧ ((s_X2_readsStreets (2) (41) I).2 2 0).toInt ≤ 6 := mj_st_ok (by decide)
    generalize hg1 : s_X2_readsStreets (2) (41) I = g1 at f1 ⊢
    refine R_seg (φ := []) (pc' := 5) (L' := [.ref 18, .ref 2]) (st' := [.int (g1.1)]) (σ' := (mj_KS N, g1.2, mj_PP c (2) (41))) 0 rfl trivial ?_
    refine R_br (q := (g1.1 : Int32) = 0) (t := 39) (f := 8) (rest := []) rfl (fun h1 => ?_) (fun h1 => ?_)
    · skip
      refine R_seg (φ := []) (pc' := 40) (L' := [.ref 18, .ref 2]) (st' := [.int 0]) (σ' := (mj_KS N, g1.2, mj_PP c (2) (41))) 1 rfl trivial ?_
      exact R_rb rfl rfl (Or.inl rfl) (mj_leaf (by simp only [s_X2_readsCity, hg1, if_pos h1, Bool.false_eq_true, ↓reduceIte, Nat.reduceAdd, Nat.reduceMul, mj_tn0, mj_tn1, mj_tn2, mj_tn3]) (by simp only [s_X2_readsCity, hg1, if_pos h1, Bool.false_eq_true, ↓reduceIte, Nat.reduceAdd, Nat.reduceMul, mj_tn0, mj_tn1, mj_tn2, mj_tn3]))
    · skip
      refine R_seg (φ := []) (pc' := 10) (L' := [.ref 18, .ref 2]) (st' := [.ref 2, .ref 18]) (σ' := (mj_KS N, g1.2, mj_PP c (2) (41))) 2 rfl trivial ?_
      refine R_ce (idx := 29) (mid := 21) (kind := 0) (N := N) (M' := mj_m_X2_readsCorners) (As := [.ref 18, .ref 2]) (rest := []) (I := g1.2) (P := mj_PP c (2) (41)) (I' := (s_X2_readsCorners (2) (41) (g1.2)).2) (P' := mj_PP c (2) (41)) (v := some (.int ((s_X2_readsCorners (2) (41) (g1.2)).1))) rfl rfl rfl mj_mc21 mj_dc21 rfl rfl rfl rfl rfl rfl (x_X2_readsCorners l b base D z N (2) (41) (by decide) (by decide) (g1.2) c (by have := f1 h1; omega)) ?_
      generalize hg2 : s_X2_readsCorners (2) (41) (g1.2) = g2
      refine R_seg (φ := []) (pc' := 13) (L' := [.ref 18, .ref 2]) (st' := [.int (g2.1)]) (σ' := (mj_KS N, g2.2, mj_PP c (2) (41))) 0 rfl trivial ?_
      refine R_br (q := (g2.1 : Int32) = 0) (t := 39) (f := 16) (rest := []) rfl (fun h2 => ?_) (fun h2 => ?_)
      · skip
        refine R_seg (φ := []) (pc' := 40) (L' := [.ref 18, .ref 2]) (st' := [.int 0]) (σ' := (mj_KS N, g2.2, mj_PP c (2) (41))) 1 rfl trivial ?_
        exact R_rb rfl rfl (Or.inl rfl) (mj_leaf (by simp only [s_X2_readsCity, hg1, hg2, if_neg h1, if_pos h2, Bool.false_eq_true, ↓reduceIte, Nat.reduceAdd, Nat.reduceMul, mj_tn0, mj_tn1, mj_tn2, mj_tn3]) (by simp only [s_X2_readsCity, hg1, hg2, if_neg h1, if_pos h2, Bool.false_eq_true, ↓reduceIte, Nat.reduceAdd, Nat.reduceMul, mj_tn0, mj_tn1, mj_tn2, mj_tn3]))
      · skip
        refine R_seg (φ := []) (pc' := 18) (L' := [.ref 18, .ref 2]) (st' := [.ref 2, .ref 18]) (σ' := (mj_KS N, g2.2, mj_PP c (2) (41))) 2 rfl trivial ?_
        refine R_ce (idx := 32) (mid := 22) (kind := 0) (N := N) (M' := mj_m_X2_readsPlants) (As := [.ref 18, .ref 2]) (rest := []) (I := g2.2) (P := mj_PP c (2) (41)) (I' := (s_X2_readsPlants (2) (41) (g2.2)).2) (P' := mj_PP c (2) (41)) (v := some (.int ((s_X2_readsPlants (2) (41) (g2.2)).1))) rfl rfl rfl mj_mc22 mj_dc22 rfl rfl rfl rfl rfl rfl (x_X2_readsPlants l b base D z N (2) (41) (by decide) (by decide) (g2.2) c ) ?_
        generalize hg3 : s_X2_readsPlants (2) (41) (g2.2) = g3
        refine R_seg (φ := []) (pc' := 21) (L' := [.ref 18, .ref 2]) (st' := [.int (g3.1)]) (σ' := (mj_KS N, g3.2, mj_PP c (2) (41))) 0 rfl trivial ?_
        refine R_br (q := (g3.1 : Int32) = 0) (t := 39) (f := 24) (rest := []) rfl (fun h3 => ?_) (fun h3 => ?_)
        · skip
          refine R_seg (φ := []) (pc' := 40) (L' := [.ref 18, .ref 2]) (st' := [.int 0]) (σ' := (mj_KS N, g3.2, mj_PP c (2) (41))) 1 rfl trivial ?_
          exact R_rb rfl rfl (Or.inl rfl) (mj_leaf (by simp only [s_X2_readsCity, hg1, hg2, hg3, if_neg h1, if_neg h2, if_pos h3, Bool.false_eq_true, ↓reduceIte, Nat.reduceAdd, Nat.reduceMul, mj_tn0, mj_tn1, mj_tn2, mj_tn3]) (by simp only [s_X2_readsCity, hg1, hg2, hg3, if_neg h1, if_neg h2, if_pos h3, Bool.false_eq_true, ↓reduceIte, Nat.reduceAdd, Nat.reduceMul, mj_tn0, mj_tn1, mj_tn2, mj_tn3]))
        · skip
          refine R_seg (φ := []) (pc' := 32) (L' := [.ref 18, .ref 2]) (st' := [.int ((g3.2) 18 2), .int ((g3.2) 18 3)]) (σ' := (mj_KS N, g3.2, mj_PP c (2) (41))) 4 rfl trivial ?_
          refine R_br (q := ((g3.2) 18 3 : Int32) = (g3.2) 18 2) (t := 35) (f := 39) (rest := []) rfl (fun h4 => ?_) (fun h4 => ?_)
          · skip
            refine R_seg (φ := []) (pc' := 40) (L' := [.ref 18, .ref 2]) (st' := [.int 1]) (σ' := (mj_KS N, g3.2, mj_PP c (2) (41))) 2 rfl trivial ?_
            exact R_rb rfl rfl (Or.inr rfl) (mj_leaf (by simp only [s_X2_readsCity, hg1, hg2, hg3, if_neg h1, if_neg h2, if_neg h3, if_pos h4, Bool.false_eq_true, ↓reduceIte, Nat.reduceAdd, Nat.reduceMul, mj_tn0, mj_tn1, mj_tn2, mj_tn3]) (by simp only [s_X2_readsCity, hg1, hg2, hg3, if_neg h1, if_neg h2, if_neg h3, if_pos h4, Bool.false_eq_true, ↓reduceIte, Nat.reduceAdd, Nat.reduceMul, mj_tn0, mj_tn1, mj_tn2, mj_tn3]))
          · skip
            refine R_seg (φ := []) (pc' := 40) (L' := [.ref 18, .ref 2]) (st' := [.int 0]) (σ' := (mj_KS N, g3.2, mj_PP c (2) (41))) 1 rfl trivial ?_
            exact R_rb rfl rfl (Or.inl rfl) (mj_leaf (by simp only [s_X2_readsCity, hg1, hg2, hg3, if_neg h1, if_neg h2, if_neg h3, if_neg h4, Bool.false_eq_true, ↓reduceIte, Nat.reduceAdd, Nat.reduceMul, mj_tn0, mj_tn1, mj_tn2, mj_tn3]) (by simp only [s_X2_readsCity, hg1, hg2, hg3, if_neg h1, if_neg h2, if_neg h3, if_neg h4, Bool.false_eq_true, ↓reduceIte, Nat.reduceAdd, Nat.reduceMul, mj_tn0, mj_tn1, mj_tn2, mj_tn3]))
  · skip
    refine R_seg (φ := []) (pc' := 2) (L' := [.ref 18, .ref 10]) (st' := [.ref 10, .ref 18]) (σ' := (mj_KS N, I, mj_PP c (10) (35))) 2 rfl trivial ?_
    refine R_ce (idx := 25) (mid := 19) (kind := 0) (N := N) (M' := mj_m_X2_readsStreets) (As := [.ref 18, .ref 10]) (rest := []) (I := I) (P := mj_PP c (10) (35)) (I' := (s_X2_readsStreets (10) (35) I).2) (P' := mj_PP c (10) (35)) (v := some (.int ((s_X2_readsStreets (10) (35) I).1))) rfl rfl rfl mj_mc19 mj_dc19 rfl rfl rfl rfl rfl rfl (x_X2_readsStreets l b base D z N (10) (35) (by decide) (by decide) I c ) ?_
    have f1 : ¬ (s_X2_readsStreets (10) (35) I).1 = 0 → 2 ≤ ((s_X2_readsStreets (10) (35) I).2 10 0).toInt ∧ ((s_X2_readsStreets (10) (35) I).2 10 0).toInt ≤ 6 := mj_st_ok (by decide)
    generalize hg1 : s_X2_readsStreets (10) (35) I = g1 at f1 ⊢
    refine R_seg (φ := []) (pc' := 5) (L' := [.ref 18, .ref 10]) (st' := [.int (g1.1)]) (σ' := (mj_KS N, g1.2, mj_PP c (10) (35))) 0 rfl trivial ?_
    refine R_br (q := (g1.1 : Int32) = 0) (t := 39) (f := 8) (rest := []) rfl (fun h1 => ?_) (fun h1 => ?_)
    · skip
      refine R_seg (φ := []) (pc' := 40) (L' := [.ref 18, .ref 10]) (st' := [.int 0]) (σ' := (mj_KS N, g1.2, mj_PP c (10) (35))) 1 rfl trivial ?_
      exact R_rb rfl rfl (Or.inl rfl) (mj_leaf (by simp only [s_X2_readsCity, hg1, if_pos h1, Bool.false_eq_true, ↓reduceIte, Nat.reduceAdd, Nat.reduceMul, mj_tn0, mj_tn1, mj_tn2, mj_tn3]) (by simp only [s_X2_readsCity, hg1, if_pos h1, Bool.false_eq_true, ↓reduceIte, Nat.reduceAdd, Nat.reduceMul, mj_tn0, mj_tn1, mj_tn2, mj_tn3]))
    · skip
      refine R_seg (φ := []) (pc' := 10) (L' := [.ref 18, .ref 10]) (st' := [.ref 10, .ref 18]) (σ' := (mj_KS N, g1.2, mj_PP c (10) (35))) 2 rfl trivial ?_
      refine R_ce (idx := 29) (mid := 21) (kind := 0) (N := N) (M' := mj_m_X2_readsCorners) (As := [.ref 18, .ref 10]) (rest := []) (I := g1.2) (P := mj_PP c (10) (35)) (I' := (s_X2_readsCorners (10) (35) (g1.2)).2) (P' := mj_PP c (10) (35)) (v := some (.int ((s_X2_readsCorners (10) (35) (g1.2)).1))) rfl rfl rfl mj_mc21 mj_dc21 rfl rfl rfl rfl rfl rfl (x_X2_readsCorners l b base D z N (10) (35) (by decide) (by decide) (g1.2) c (by have := f1 h1; omega)) ?_
      generalize hg2 : s_X2_readsCorners (10) (35) (g1.2) = g2
      refine R_seg (φ := []) (pc' := 13) (L' := [.ref 18, .ref 10]) (st' := [.int (g2.1)]) (σ' := (mj_KS N, g2.2, mj_PP c (10) (35))) 0 rfl trivial ?_
      refine R_br (q := (g2.1 : Int32) = 0) (t := 39) (f := 16) (rest := []) rfl (fun h2 => ?_) (fun h2 => ?_)
      · skip
        refine R_seg (φ := []) (pc' := 40) (L' := [.ref 18, .ref 10]) (st' := [.int 0]) (σ' := (mj_KS N, g2.2, mj_PP c (10) (35))) 1 rfl trivial ?_
        exact R_rb rfl rfl (Or.inl rfl) (mj_leaf (by simp only [s_X2_readsCity, hg1, hg2, if_neg h1, if_pos h2, Bool.false_eq_true, ↓reduceIte, Nat.reduceAdd, Nat.reduceMul, mj_tn0, mj_tn1, mj_tn2, mj_tn3]) (by simp only [s_X2_readsCity, hg1, hg2, if_neg h1, if_pos h2, Bool.false_eq_true, ↓reduceIte, Nat.reduceAdd, Nat.reduceMul, mj_tn0, mj_tn1, mj_tn2, mj_tn3]))
      · skip
        refine R_seg (φ := []) (pc' := 18) (L' := [.ref 18, .ref 10]) (st' := [.ref 10, .ref 18]) (σ' := (mj_KS N, g2.2, mj_PP c (10) (35))) 2 rfl trivial ?_
        refine R_ce (idx := 32) (mid := 22) (kind := 0) (N := N) (M' := mj_m_X2_readsPlants) (As := [.ref 18, .ref 10]) (rest := []) (I := g2.2) (P := mj_PP c (10) (35)) (I' := (s_X2_readsPlants (10) (35) (g2.2)).2) (P' := mj_PP c (10) (35)) (v := some (.int ((s_X2_readsPlants (10) (35) (g2.2)).1))) rfl rfl rfl mj_mc22 mj_dc22 rfl rfl rfl rfl rfl rfl (x_X2_readsPlants l b base D z N (10) (35) (by decide) (by decide) (g2.2) c ) ?_
        generalize hg3 : s_X2_readsPlants (10) (35) (g2.2) = g3
        refine R_seg (φ := []) (pc' := 21) (L' := [.ref 18, .ref 10]) (st' := [.int (g3.1)]) (σ' := (mj_KS N, g3.2, mj_PP c (10) (35))) 0 rfl trivial ?_
        refine R_br (q := (g3.1 : Int32) = 0) (t := 39) (f := 24) (rest := []) rfl (fun h3 => ?_) (fun h3 => ?_)
        · skip
          refine R_seg (φ := []) (pc' := 40) (L' := [.ref 18, .ref 10]) (st' := [.int 0]) (σ' := (mj_KS N, g3.2, mj_PP c (10) (35))) 1 rfl trivial ?_
          exact R_rb rfl rfl (Or.inl rfl) (mj_leaf (by simp only [s_X2_readsCity, hg1, hg2, hg3, if_neg h1, if_neg h2, if_pos h3, Bool.false_eq_true, ↓reduceIte, Nat.reduceAdd, Nat.reduceMul, mj_tn0, mj_tn1, mj_tn2, mj_tn3]) (by simp only [s_X2_readsCity, hg1, hg2, hg3, if_neg h1, if_neg h2, if_pos h3, Bool.false_eq_true, ↓reduceIte, Nat.reduceAdd, Nat.reduceMul, mj_tn0, mj_tn1, mj_tn2, mj_tn3]))
        · skip
          refine R_seg (φ := []) (pc' := 32) (L' := [.ref 18, .ref 10]) (st' := [.int ((g3.2) 18 2), .int ((g3.2) 18 3)]) (σ' := (mj_KS N, g3.2, mj_PP c (10) (35))) 4 rfl trivial ?_
          refine R_br (q := ((g3.2) 18 3 : Int32) = (g3.2) 18 2) (t := 35) (f := 39) (rest := []) rfl (fun h4 => ?_) (fun h4 => ?_)
          · skip
            refine R_seg (φ := []) (pc' := 40) (L' := [.ref 18, .ref 10]) (st' := [.int 1]) (σ' := (mj_KS N, g3.2, mj_PP c (10) (35))) 2 rfl trivial ?_
            exact R_rb rfl rfl (Or.inr rfl) (mj_leaf (by simp only [s_X2_readsCity, hg1, hg2, hg3, if_neg h1, if_neg h2, if_neg h3, if_pos h4, Bool.false_eq_true, ↓reduceIte, Nat.reduceAdd, Nat.reduceMul, mj_tn0, mj_tn1, mj_tn2, mj_tn3]) (by simp only [s_X2_readsCity, hg1, hg2, hg3, if_neg h1, if_neg h2, if_neg h3, if_pos h4, Bool.false_eq_true, ↓reduceIte, Nat.reduceAdd, Nat.reduceMul, mj_tn0, mj_tn1, mj_tn2, mj_tn3]))
          · skip
            refine R_seg (φ := []) (pc' := 40) (L' := [.ref 18, .ref 10]) (st' := [.int 0]) (σ' := (mj_KS N, g3.2, mj_PP c (10) (35))) 1 rfl trivial ?_
            exact R_rb rfl rfl (Or.inl rfl) (mj_leaf (by simp only [s_X2_readsCity, hg1, hg2, hg3, if_neg h1, if_neg h2, if_neg h3, if_neg h4, Bool.false_eq_true, ↓reduceIte, Nat.reduceAdd, Nat.reduceMul, mj_tn0, mj_tn1, mj_tn2, mj_tn3]) (by simp only [s_X2_readsCity, hg1, hg2, hg3, if_neg h1, if_neg h2, if_neg h3, if_neg h4, Bool.false_eq_true, ↓reduceIte, Nat.reduceAdd, Nat.reduceMul, mj_tn0, mj_tn1, mj_tn2, mj_tn3]))
  · skip
    refine R_seg (φ := []) (pc' := 2) (L' := [.ref 18, .ref 10]) (st' := [.ref 10, .ref 18]) (σ' := (mj_KS N, I, mj_PP c (10) (37))) 2 rfl trivial ?_
    refine R_ce (idx := 25) (mid := 19) (kind := 0) (N := N) (M' := mj_m_X2_readsStreets) (As := [.ref 18, .ref 10]) (rest := []) (I := I) (P := mj_PP c (10) (37)) (I' := (s_X2_readsStreets (10) (37) I).2) (P' := mj_PP c (10) (37)) (v := some (.int ((s_X2_readsStreets (10) (37) I).1))) rfl rfl rfl mj_mc19 mj_dc19 rfl rfl rfl rfl rfl rfl (x_X2_readsStreets l b base D z N (10) (37) (by decide) (by decide) I c ) ?_
    have f1 : ¬ (s_X2_readsStreets (10) (37) I).1 = 0 → 2 ≤ ((s_X2_readsStreets (10) (37) I).2 10 0).toInt ∧ ((s_X2_readsStreets (10) (37) I).2 10 0).toInt ≤ 6 := mj_st_ok (by decide)
    generalize hg1 : s_X2_readsStreets (10) (37) I = g1 at f1 ⊢
    refine R_seg (φ := []) (pc' := 5) (L' := [.ref 18, .ref 10]) (st' := [.int (g1.1)]) (σ' := (mj_KS N, g1.2, mj_PP c (10) (37))) 0 rfl trivial ?_
    refine R_br (q := (g1.1 : Int32) = 0) (t := 39) (f := 8) (rest := []) rfl (fun h1 => ?_) (fun h1 => ?_)
    · skip
      refine R_seg (φ := []) (pc' := 40) (L' := [.ref 18, .ref 10]) (st' := [.int 0]) (σ' := (mj_KS N, g1.2, mj_PP c (10) (37))) 1 rfl trivial ?_
      exact R_rb rfl rfl (Or.inl rfl) (mj_leaf (by simp only [s_X2_readsCity, hg1, if_pos h1, Bool.false_eq_true, ↓reduceIte, Nat.reduceAdd, Nat.reduceMul, mj_tn0, mj_tn1, mj_tn2, mj_tn3]) (by simp only [s_X2_readsCity, hg1, if_pos h1, Bool.false_eq_true, ↓reduceIte, Nat.reduceAdd, Nat.reduceMul, mj_tn0, mj_tn1, mj_tn2, mj_tn3]))
    · skip
      refine R_seg (φ := []) (pc' := 10) (L' := [.ref 18, .ref 10]) (st' := [.ref 10, .ref 18]) (σ' := (mj_KS N, g1.2, mj_PP c (10) (37))) 2 rfl trivial ?_
      refine R_ce (idx := 29) (mid := 21) (kind := 0) (N := N) (M' := mj_m_X2_readsCorners) (As := [.ref 18, .ref 10]) (rest := []) (I := g1.2) (P := mj_PP c (10) (37)) (I' := (s_X2_readsCorners (10) (37) (g1.2)).2) (P' := mj_PP c (10) (37)) (v := some (.int ((s_X2_readsCorners (10) (37) (g1.2)).1))) rfl rfl rfl mj_mc21 mj_dc21 rfl rfl rfl rfl rfl rfl (x_X2_readsCorners l b base D z N (10) (37) (by decide) (by decide) (g1.2) c (by have := f1 h1; omega)) ?_
      generalize hg2 : s_X2_readsCorners (10) (37) (g1.2) = g2
      refine R_seg (φ := []) (pc' := 13) (L' := [.ref 18, .ref 10]) (st' := [.int (g2.1)]) (σ' := (mj_KS N, g2.2, mj_PP c (10) (37))) 0 rfl trivial ?_
      refine R_br (q := (g2.1 : Int32) = 0) (t := 39) (f := 16) (rest := []) rfl (fun h2 => ?_) (fun h2 => ?_)
      · skip
        refine R_seg (φ := []) (pc' := 40) (L' := [.ref 18, .ref 10]) (st' := [.int 0]) (σ' := (mj_KS N, g2.2, mj_PP c (10) (37))) 1 rfl trivial ?_
        exact R_rb rfl rfl (Or.inl rfl) (mj_leaf (by simp only [s_X2_readsCity, hg1, hg2, if_neg h1, if_pos h2, Bool.false_eq_true, ↓reduceIte, Nat.reduceAdd, Nat.reduceMul, mj_tn0, mj_tn1, mj_tn2, mj_tn3]) (by simp only [s_X2_readsCity, hg1, hg2, if_neg h1, if_pos h2, Bool.false_eq_true, ↓reduceIte, Nat.reduceAdd, Nat.reduceMul, mj_tn0, mj_tn1, mj_tn2, mj_tn3]))
      · skip
        refine R_seg (φ := []) (pc' := 18) (L' := [.ref 18, .ref 10]) (st' := [.ref 10, .ref 18]) (σ' := (mj_KS N, g2.2, mj_PP c (10) (37))) 2 rfl trivial ?_
        refine R_ce (idx := 32) (mid := 22) (kind := 0) (N := N) (M' := mj_m_X2_readsPlants) (As := [.ref 18, .ref 10]) (rest := []) (I := g2.2) (P := mj_PP c (10) (37)) (I' := (s_X2_readsPlants (10) (37) (g2.2)).2) (P' := mj_PP c (10) (37)) (v := some (.int ((s_X2_readsPlants (10) (37) (g2.2)).1))) rfl rfl rfl mj_mc22 mj_dc22 rfl rfl rfl rfl rfl rfl (x_X2_readsPlants l b base D z N (10) (37) (by decide) (by decide) (g2.2) c ) ?_
        generalize hg3 : s_X2_readsPlants (10) (37) (g2.2) = g3
        refine R_seg (φ := []) (pc' := 21) (L' := [.ref 18, .ref 10]) (st' := [.int (g3.1)]) (σ' := (mj_KS N, g3.2, mj_PP c (10) (37))) 0 rfl trivial ?_
        refine R_br (q := (g3.1 : Int32) = 0) (t := 39) (f := 24) (rest := []) rfl (fun h3 => ?_) (fun h3 => ?_)
        · skip
          refine R_seg (φ := []) (pc' := 40) (L' := [.ref 18, .ref 10]) (st' := [.int 0]) (σ' := (mj_KS N, g3.2, mj_PP c (10) (37))) 1 rfl trivial ?_
          exact R_rb rfl rfl (Or.inl rfl) (mj_leaf (by simp only [s_X2_readsCity, hg1, hg2, hg3, if_neg h1, if_neg h2, if_pos h3, Bool.false_eq_true, ↓reduceIte, Nat.reduceAdd, Nat.reduceMul, mj_tn0, mj_tn1, mj_tn2, mj_tn3]) (by simp only [s_X2_readsCity, hg1, hg2, hg3, if_neg h1, if_neg h2, if_pos h3, Bool.false_eq_true, ↓reduceIte, Nat.reduceAdd, Nat.reduceMul, mj_tn0, mj_tn1, mj_tn2, mj_tn3]))
        · skip
          refine R_seg (φ := []) (pc' := 32) (L' := [.ref 18, .ref 10]) (st' := [.int ((g3.2) 18 2), .int ((g3.2) 18 3)]) (σ' := (mj_KS N, g3.2, mj_PP c (10) (37))) 4 rfl trivial ?_
          refine R_br (q := ((g3.2) 18 3 : Int32) = (g3.2) 18 2) (t := 35) (f := 39) (rest := []) rfl (fun h4 => ?_) (fun h4 => ?_)
          · skip
            refine R_seg (φ := []) (pc' := 40) (L' := [.ref 18, .ref 10]) (st' := [.int 1]) (σ' := (mj_KS N, g3.2, mj_PP c (10) (37))) 2 rfl trivial ?_
            exact R_rb rfl rfl (Or.inr rfl) (mj_leaf (by simp only [s_X2_readsCity, hg1, hg2, hg3, if_neg h1, if_neg h2, if_neg h3, if_pos h4, Bool.false_eq_true, ↓reduceIte, Nat.reduceAdd, Nat.reduceMul, mj_tn0, mj_tn1, mj_tn2, mj_tn3]) (by simp only [s_X2_readsCity, hg1, hg2, hg3, if_neg h1, if_neg h2, if_neg h3, if_pos h4, Bool.false_eq_true, ↓reduceIte, Nat.reduceAdd, Nat.reduceMul, mj_tn0, mj_tn1, mj_tn2, mj_tn3]))
          · skip
            refine R_seg (φ := []) (pc' := 40) (L' := [.ref 18, .ref 10]) (st' := [.int 0]) (σ' := (mj_KS N, g3.2, mj_PP c (10) (37))) 1 rfl trivial ?_
            exact R_rb rfl rfl (Or.inl rfl) (mj_leaf (by simp only [s_X2_readsCity, hg1, hg2, hg3, if_neg h1, if_neg h2, if_neg h3, if_neg h4, Bool.false_eq_true, ↓reduceIte, Nat.reduceAdd, Nat.reduceMul, mj_tn0, mj_tn1, mj_tn2, mj_tn3]) (by simp only [s_X2_readsCity, hg1, hg2, hg3, if_neg h1, if_neg h2, if_neg h3, if_neg h4, Bool.false_eq_true, ↓reduceIte, Nat.reduceAdd, Nat.reduceMul, mj_tn0, mj_tn1, mj_tn2, mj_tn3]))
  · skip
    refine R_seg (φ := []) (pc' := 2) (L' := [.ref 18, .ref 10]) (st' := [.ref 10, .ref 18]) (σ' := (mj_KS N, I, mj_PP c (10) (39))) 2 rfl trivial ?_
    refine R_ce (idx := 25) (mid := 19) (kind := 0) (N := N) (M' := mj_m_X2_readsStreets) (As := [.ref 18, .ref 10]) (rest := []) (I := I) (P := mj_PP c (10) (39)) (I' := (s_X2_readsStreets (10) (39) I).2) (P' := mj_PP c (10) (39)) (v := some (.int ((s_X2_readsStreets (10) (39) I).1))) rfl rfl rfl mj_mc19 mj_dc19 rfl rfl rfl rfl rfl rfl (x_X2_readsStreets l b base D z N (10) (39) (by decide) (by decide) I c ) ?_
    have f1 : ¬ (s_X2_readsStreets (10) (39) I).1 = 0 → 2 ≤ ((s_X2_readsStreets (10) (39) I).2 10 0).toInt ∧ ((s_X2_readsStreets (10) (39) I).2 10 0).toInt ≤ 6 := mj_st_ok (by decide)
    generalize hg1 : s_X2_readsStreets (10) (39) I = g1 at f1 ⊢
    refine R_seg (φ := []) (pc' := 5) (L' := [.ref 18, .ref 10]) (st' := [.int (g1.1)]) (σ' := (mj_KS N, g1.2, mj_PP c (10) (39))) 0 rfl trivial ?_
    refine R_br (q := (g1.1 : Int32) = 0) (t := 39) (f := 8) (rest := []) rfl (fun h1 => ?_) (fun h1 => ?_)
    · skip
      refine R_seg (φ := []) (pc' := 40) (L' := [.ref 18, .ref 10]) (st' := [.int 0]) (σ' := (mj_KS N, g1.2, mj_PP c (10) (39))) 1 rfl trivial ?_
      exact R_rb rfl rfl (Or.inl rfl) (mj_leaf (by simp only [s_X2_readsCity, hg1, if_pos h1, Bool.false_eq_true, ↓reduceIte, Nat.reduceAdd, Nat.reduceMul, mj_tn0, mj_tn1, mj_tn2, mj_tn3]) (by simp only [s_X2_readsCity, hg1, if_pos h1, Bool.false_eq_true, ↓reduceIte, Nat.reduceAdd, Nat.reduceMul, mj_tn0, mj_tn1, mj_tn2, mj_tn3]))
    · skip
      refine R_seg (φ := []) (pc' := 10) (L' := [.ref 18, .ref 10]) (st' := [.ref 10, .ref 18]) (σ' := (mj_KS N, g1.2, mj_PP c (10) (39))) 2 rfl trivial ?_
      refine R_ce (idx := 29) (mid := 21) (kind := 0) (N := N) (M' := mj_m_X2_readsCorners) (As := [.ref 18, .ref 10]) (rest := []) (I := g1.2) (P := mj_PP c (10) (39)) (I' := (s_X2_readsCorners (10) (39) (g1.2)).2) (P' := mj_PP c (10) (39)) (v := some (.int ((s_X2_readsCorners (10) (39) (g1.2)).1))) rfl rfl rfl mj_mc21 mj_dc21 rfl rfl rfl rfl rfl rfl (x_X2_readsCorners l b base D z N (10) (39) (by decide) (by decide) (g1.2) c (by have := f1 h1; omega)) ?_
      generalize hg2 : s_X2_readsCorners (10) (39) (g1.2) = g2
      refine R_seg (φ := []) (pc' := 13) (L' := [.ref 18, .ref 10]) (st' := [.int (g2.1)]) (σ' := (mj_KS N, g2.2, mj_PP c (10) (39))) 0 rfl trivial ?_
      refine R_br (q := (g2.1 : Int32) = 0) (t := 39) (f := 16) (rest := []) rfl (fun h2 => ?_) (fun h2 => ?_)
      · skip
        refine R_seg (φ := []) (pc' := 40) (L' := [.ref 18, .ref 10]) (st' := [.int 0]) (σ' := (mj_KS N, g2.2, mj_PP c (10) (39))) 1 rfl trivial ?_
        exact R_rb rfl rfl (Or.inl rfl) (mj_leaf (by simp only [s_X2_readsCity, hg1, hg2, if_neg h1, if_pos h2, Bool.false_eq_true, ↓reduceIte, Nat.reduceAdd, Nat.reduceMul, mj_tn0, mj_tn1, mj_tn2, mj_tn3]) (by simp only [s_X2_readsCity, hg1, hg2, if_neg h1, if_pos h2, Bool.false_eq_true, ↓reduceIte, Nat.reduceAdd, Nat.reduceMul, mj_tn0, mj_tn1, mj_tn2, mj_tn3]))
      · skip
        refine R_seg (φ := []) (pc' := 18) (L' := [.ref 18, .ref 10]) (st' := [.ref 10, .ref 18]) (σ' := (mj_KS N, g2.2, mj_PP c (10) (39))) 2 rfl trivial ?_
        refine R_ce (idx := 32) (mid := 22) (kind := 0) (N := N) (M' := mj_m_X2_readsPlants) (As := [.ref 18, .ref 10]) (rest := []) (I := g2.2) (P := mj_PP c (10) (39)) (I' := (s_X2_readsPlants (10) (39) (g2.2)).2) (P' := mj_PP c (10) (39)) (v := some (.int ((s_X2_readsPlants (10) (39) (g2.2)).1))) rfl rfl rfl mj_mc22 mj_dc22 rfl rfl rfl rfl rfl rfl (x_X2_readsPlants l b base D z N (10) (39) (by decide) (by decide) (g2.2) c ) ?_
        generalize hg3 : s_X2_readsPlants (10) (39) (g2.2) = g3
        refine R_seg (φ := []) (pc' := 21) (L' := [.ref 18, .ref 10]) (st' := [.int (g3.1)]) (σ' := (mj_KS N, g3.2, mj_PP c (10) (39))) 0 rfl trivial ?_
        refine R_br (q := (g3.1 : Int32) = 0) (t := 39) (f := 24) (rest := []) rfl (fun h3 => ?_) (fun h3 => ?_)
        · skip
          refine R_seg (φ := []) (pc' := 40) (L' := [.ref 18, .ref 10]) (st' := [.int 0]) (σ' := (mj_KS N, g3.2, mj_PP c (10) (39))) 1 rfl trivial ?_
          exact R_rb rfl rfl (Or.inl rfl) (mj_leaf (by simp only [s_X2_readsCity, hg1, hg2, hg3, if_neg h1, if_neg h2, if_pos h3, Bool.false_eq_true, ↓reduceIte, Nat.reduceAdd, Nat.reduceMul, mj_tn0, mj_tn1, mj_tn2, mj_tn3]) (by simp only [s_X2_readsCity, hg1, hg2, hg3, if_neg h1, if_neg h2, if_pos h3, Bool.false_eq_true, ↓reduceIte, Nat.reduceAdd, Nat.reduceMul, mj_tn0, mj_tn1, mj_tn2, mj_tn3]))
        · skip
          refine R_seg (φ := []) (pc' := 32) (L' := [.ref 18, .ref 10]) (st' := [.int ((g3.2) 18 2), .int ((g3.2) 18 3)]) (σ' := (mj_KS N, g3.2, mj_PP c (10) (39))) 4 rfl trivial ?_
          refine R_br (q := ((g3.2) 18 3 : Int32) = (g3.2) 18 2) (t := 35) (f := 39) (rest := []) rfl (fun h4 => ?_) (fun h4 => ?_)
          · skip
            refine R_seg (φ := []) (pc' := 40) (L' := [.ref 18, .ref 10]) (st' := [.int 1]) (σ' := (mj_KS N, g3.2, mj_PP c (10) (39))) 2 rfl trivial ?_
            exact R_rb rfl rfl (Or.inr rfl) (mj_leaf (by simp only [s_X2_readsCity, hg1, hg2, hg3, if_neg h1, if_neg h2, if_neg h3, if_pos h4, Bool.false_eq_true, ↓reduceIte, Nat.reduceAdd, Nat.reduceMul, mj_tn0, mj_tn1, mj_tn2, mj_tn3]) (by simp only [s_X2_readsCity, hg1, hg2, hg3, if_neg h1, if_neg h2, if_neg h3, if_pos h4, Bool.false_eq_true, ↓reduceIte, Nat.reduceAdd, Nat.reduceMul, mj_tn0, mj_tn1, mj_tn2, mj_tn3]))
          · skip
            refine R_seg (φ := []) (pc' := 40) (L' := [.ref 18, .ref 10]) (st' := [.int 0]) (σ' := (mj_KS N, g3.2, mj_PP c (10) (39))) 1 rfl trivial ?_
            exact R_rb rfl rfl (Or.inl rfl) (mj_leaf (by simp only [s_X2_readsCity, hg1, hg2, hg3, if_neg h1, if_neg h2, if_neg h3, if_neg h4, Bool.false_eq_true, ↓reduceIte, Nat.reduceAdd, Nat.reduceMul, mj_tn0, mj_tn1, mj_tn2, mj_tn3]) (by simp only [s_X2_readsCity, hg1, hg2, hg3, if_neg h1, if_neg h2, if_neg h3, if_neg h4, Bool.false_eq_true, ↓reduceIte, Nat.reduceAdd, Nat.reduceMul, mj_tn0, mj_tn1, mj_tn2, mj_tn3]))
  · skip
    refine R_seg (φ := []) (pc' := 2) (L' := [.ref 18, .ref 10]) (st' := [.ref 10, .ref 18]) (σ' := (mj_KS N, I, mj_PP c (10) (41))) 2 rfl trivial ?_
    refine R_ce (idx := 25) (mid := 19) (kind := 0) (N := N) (M' := mj_m_X2_readsStreets) (As := [.ref 18, .ref 10]) (rest := []) (I := I) (P := mj_PP c (10) (41)) (I' := (s_X2_readsStreets (10) (41) I).2) (P' := mj_PP c (10) (41)) (v := some (.int ((s_X2_readsStreets (10) (41) I).1))) rfl rfl rfl mj_mc19 mj_dc19 rfl rfl rfl rfl rfl rfl (x_X2_readsStreets l b base D z N (10) (41) (by decide) (by decide) I c ) ?_
    have f1 : ¬ (s_X2_readsStreets (10) (41) I).1 = 0 → 2 ≤ ((s_X2_readsStreets (10) (41) I).2 10 0).toInt ∧ ((s_X2_readsStreets (10) (41) I).2 10 0).toInt ≤ 6 := mj_st_ok (by decide)
    generalize hg1 : s_X2_readsStreets (10) (41) I = g1 at f1 ⊢
    refine R_seg (φ := []) (pc' := 5) (L' := [.ref 18, .ref 10]) (st' := [.int (g1.1)]) (σ' := (mj_KS N, g1.2, mj_PP c (10) (41))) 0 rfl trivial ?_
    refine R_br (q := (g1.1 : Int32) = 0) (t := 39) (f := 8) (rest := []) rfl (fun h1 => ?_) (fun h1 => ?_)
    · skip
      refine R_seg (φ := []) (pc' := 40) (L' := [.ref 18, .ref 10]) (st' := [.int 0]) (σ' := (mj_KS N, g1.2, mj_PP c (10) (41))) 1 rfl trivial ?_
      exact R_rb rfl rfl (Or.inl rfl) (mj_leaf (by simp only [s_X2_readsCity, hg1, if_pos h1, Bool.false_eq_true, ↓reduceIte, Nat.reduceAdd, Nat.reduceMul, mj_tn0, mj_tn1, mj_tn2, mj_tn3]) (by simp only [s_X2_readsCity, hg1, if_pos h1, Bool.false_eq_true, ↓reduceIte, Nat.reduceAdd, Nat.reduceMul, mj_tn0, mj_tn1, mj_tn2, mj_tn3]))
    · skip
      refine R_seg (φ := []) (pc' := 10) (L' := [.ref 18, .ref 10]) (st' := [.ref 10, .ref 18]) (σ' := (mj_KS N, g1.2, mj_PP c (10) (41))) 2 rfl trivial ?_
      refine R_ce (idx := 29) (mid := 21) (kind := 0) (N := N) (M' := mj_m_X2_readsCorners) (As := [.ref 18, .ref 10]) (rest := []) (I := g1.2) (P := mj_PP c (10) (41)) (I' := (s_X2_readsCorners (10) (41) (g1.2)).2) (P' := mj_PP c (10) (41)) (v := some (.int ((s_X2_readsCorners (10) (41) (g1.2)).1))) rfl rfl rfl mj_mc21 mj_dc21 rfl rfl rfl rfl rfl rfl (x_X2_readsCorners l b base D z N (10) (41) (by decide) (by decide) (g1.2) c (by have := f1 h1; omega)) ?_
      generalize hg2 : s_X2_readsCorners (10) (41) (g1.2) = g2
      refine R_seg (φ := []) (pc' := 13) (L' := [.ref 18, .ref 10]) (st' := [.int (g2.1)]) (σ' := (mj_KS N, g2.2, mj_PP c (10) (41))) 0 rfl trivial ?_
      refine R_br (q := (g2.1 : Int32) = 0) (t := 39) (f := 16) (rest := []) rfl (fun h2 => ?_) (fun h2 => ?_)
      · skip
        refine R_seg (φ := []) (pc' := 40) (L' := [.ref 18, .ref 10]) (st' := [.int 0]) (σ' := (mj_KS N, g2.2, mj_PP c (10) (41))) 1 rfl trivial ?_
        exact R_rb rfl rfl (Or.inl rfl) (mj_leaf (by simp only [s_X2_readsCity, hg1, hg2, if_neg h1, if_pos h2, Bool.false_eq_true, ↓reduceIte, Nat.reduceAdd, Nat.reduceMul, mj_tn0, mj_tn1, mj_tn2, mj_tn3]) (by simp only [s_X2_readsCity, hg1, hg2, if_neg h1, if_pos h2, Bool.false_eq_true, ↓reduceIte, Nat.reduceAdd, Nat.reduceMul, mj_tn0, mj_tn1, mj_tn2, mj_tn3]))
      · skip
        refine R_seg (φ := []) (pc' := 18) (L' := [.ref 18, .ref 10]) (st' := [.ref 10, .ref 18]) (σ' := (mj_KS N, g2.2, mj_PP c (10) (41))) 2 rfl trivial ?_
        refine R_ce (idx := 32) (mid := 22) (kind := 0) (N := N) (M' := mj_m_X2_readsPlants) (As := [.ref 18, .ref 10]) (rest := []) (I := g2.2) (P := mj_PP c (10) (41)) (I' := (s_X2_readsPlants (10) (41) (g2.2)).2) (P' := mj_PP c (10) (41)) (v := some (.int ((s_X2_readsPlants (10) (41) (g2.2)).1))) rfl rfl rfl mj_mc22 mj_dc22 rfl rfl rfl rfl rfl rfl (x_X2_readsPlants l b base D z N (10) (41) (by decide) (by decide) (g2.2) c ) ?_
        generalize hg3 : s_X2_readsPlants (10) (41) (g2.2) = g3
        refine R_seg (φ := []) (pc' := 21) (L' := [.ref 18, .ref 10]) (st' := [.int (g3.1)]) (σ' := (mj_KS N, g3.2, mj_PP c (10) (41))) 0 rfl trivial ?_
        refine R_br (q := (g3.1 : Int32) = 0) (t := 39) (f := 24) (rest := []) rfl (fun h3 => ?_) (fun h3 => ?_)
        · skip
          refine R_seg (φ := []) (pc' := 40) (L' := [.ref 18, .ref 10]) (st' := [.int 0]) (σ' := (mj_KS N, g3.2, mj_PP c (10) (41))) 1 rfl trivial ?_
          exact R_rb rfl rfl (Or.inl rfl) (mj_leaf (by simp only [s_X2_readsCity, hg1, hg2, hg3, if_neg h1, if_neg h2, if_pos h3, Bool.false_eq_true, ↓reduceIte, Nat.reduceAdd, Nat.reduceMul, mj_tn0, mj_tn1, mj_tn2, mj_tn3]) (by simp only [s_X2_readsCity, hg1, hg2, hg3, if_neg h1, if_neg h2, if_pos h3, Bool.false_eq_true, ↓reduceIte, Nat.reduceAdd, Nat.reduceMul, mj_tn0, mj_tn1, mj_tn2, mj_tn3]))
        · skip
          refine R_seg (φ := []) (pc' := 32) (L' := [.ref 18, .ref 10]) (st' := [.int ((g3.2) 18 2), .int ((g3.2) 18 3)]) (σ' := (mj_KS N, g3.2, mj_PP c (10) (41))) 4 rfl trivial ?_
          refine R_br (q := ((g3.2) 18 3 : Int32) = (g3.2) 18 2) (t := 35) (f := 39) (rest := []) rfl (fun h4 => ?_) (fun h4 => ?_)
          · skip
            refine R_seg (φ := []) (pc' := 40) (L' := [.ref 18, .ref 10]) (st' := [.int 1]) (σ' := (mj_KS N, g3.2, mj_PP c (10) (41))) 2 rfl trivial ?_
            exact R_rb rfl rfl (Or.inr rfl) (mj_leaf (by simp only [s_X2_readsCity, hg1, hg2, hg3, if_neg h1, if_neg h2, if_neg h3, if_pos h4, Bool.false_eq_true, ↓reduceIte, Nat.reduceAdd, Nat.reduceMul, mj_tn0, mj_tn1, mj_tn2, mj_tn3]) (by simp only [s_X2_readsCity, hg1, hg2, hg3, if_neg h1, if_neg h2, if_neg h3, if_pos h4, Bool.false_eq_true, ↓reduceIte, Nat.reduceAdd, Nat.reduceMul, mj_tn0, mj_tn1, mj_tn2, mj_tn3]))
          · skip
            refine R_seg (φ := []) (pc' := 40) (L' := [.ref 18, .ref 10]) (st' := [.int 0]) (σ' := (mj_KS N, g3.2, mj_PP c (10) (41))) 1 rfl trivial ?_
            exact R_rb rfl rfl (Or.inl rfl) (mj_leaf (by simp only [s_X2_readsCity, hg1, hg2, hg3, if_neg h1, if_neg h2, if_neg h3, if_neg h4, Bool.false_eq_true, ↓reduceIte, Nat.reduceAdd, Nat.reduceMul, mj_tn0, mj_tn1, mj_tn2, mj_tn3]) (by simp only [s_X2_readsCity, hg1, hg2, hg3, if_neg h1, if_neg h2, if_neg h3, if_neg h4, Bool.false_eq_true, ↓reduceIte, Nat.reduceAdd, Nat.reduceMul, mj_tn0, mj_tn1, mj_tn2, mj_tn3]))
