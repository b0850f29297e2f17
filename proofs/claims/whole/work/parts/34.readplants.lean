/-! the class: plants read -/
def s_X2_pl (dd : Nat) (rr : Nat) : Nat → Nat → mj_I → Int32 × mj_I
  | 0, j, I => if (0 : Int32) < I dd 1 then (1, I) else (0, I)
  | k + 1, j, I => if ((s_X2_takes (rr) 44 I).1 : Int32) = 0 then (if (0 : Int32) < ((s_X2_takes (rr) 44 I).2) dd 1 then (1, (s_X2_takes (rr) 44 I).2) else (0, (s_X2_takes (rr) 44 I).2)) else (if (((s_X2_takeKind (rr) ((s_X2_takes (rr) 44 I).2)).1) : Int32) < 0 then (0, ((s_X2_takeKind (rr) ((s_X2_takes (rr) 44 I).2)).2)) else (if (((s_X2_readsSeasons (rr) ((dd + 4 + 1 + j)) 3 3 (((s_X2_takeKind (rr) ((s_X2_takes (rr) 44 I).2)).2))).1) : Int32) = 0 then (0, ((s_X2_readsSeasons (rr) ((dd + 4 + 1 + j)) 3 3 (((s_X2_takeKind (rr) ((s_X2_takes (rr) 44 I).2)).2))).2)) else (s_X2_pl dd rr k (j + 1)  (mj_upI (mj_upI (((s_X2_readsSeasons (rr) ((dd + 4 + 1 + j)) 3 3 (((s_X2_takeKind (rr) ((s_X2_takes (rr) 44 I).2)).2))).2)) (dd + 3) (nI j) (((s_X2_takeKind (rr) ((s_X2_takes (rr) 44 I).2)).1))) dd 1 ((nI j) + 1)))))
set_option maxHeartbeats 8000000 in
theorem x_X2_pl (l : Launch) (b base : Nat) (D : va_G) (z : mj_K × (Int32 → Int32)) (N : Nat) (dd : Nat) (rr : Nat) (hdd : dd = 2 ∨ dd = 10) (hrr : rr = 35 ∨ rr = 37 ∨ rr = 39 ∨ rr = 41) (c : Nat) : ∀ (k j : Nat) (w3 : Value) (I : mj_I), k = 3 - j → 0 ≤ j → j ≤ 3 + 1 → mj_Rn l b base D z mj_m_X2_readsPlants 7 [.ref 18, .ref dd, .int (nI j), w3] [] (mj_KS N, I, mj_PP c dd rr) (mj_E N (some (.int (s_X2_pl dd rr k j  I).1)) (s_X2_pl dd rr k j  I).2 (mj_PP c dd rr)) := by
  rcases hdd with rfl | rfl <;> rcases hrr with rfl | rfl | rfl | rfl
  · skip
    intro k
    induction k with
    | zero =>
      intro j w3 I hk hlo hj
      refine R_seg (φ := []) (pc' := 9) (L' := [.ref 18, .ref 2, .int (nI j), w3]) (st' := [.int 3, .int (nI j)]) (σ' := (mj_KS N, I, mj_PP c (2) (35))) 2 rfl trivial ?_
      refine R_br (q := (nI j : Int32) < 3) (t := 12) (f := 66) (rest := []) rfl (fun h1 => absurd h1 (show ¬ nI j < nI 3 from nI_nlt (by omega) (by omega))) (fun h1 => ?_)
      refine R_seg (φ := []) (pc' := 70) (L' := [.ref 18, .ref 2, .int (nI j), w3]) (st' := [.int (I 2 1)]) (σ' := (mj_KS N, I, mj_PP c (2) (35))) 2 rfl trivial ?_
      refine R_br (q := (0 : Int32) < I 2 1) (t := 73) (f := 77) (rest := []) rfl (fun h2 => ?_) (fun h2 => ?_)
      · skip
        refine R_seg (φ := []) (pc' := 78) (L' := [.ref 18, .ref 2, .int (nI j), w3]) (st' := [.int 1]) (σ' := (mj_KS N, I, mj_PP c (2) (35))) 2 rfl trivial ?_
        exact R_rb rfl rfl (Or.inr rfl) (mj_leaf (by simp only [s_X2_pl, if_pos h2, Bool.false_eq_true, ↓reduceIte, Nat.reduceAdd, Nat.reduceMul, mj_tn0, mj_tn1, mj_tn2, mj_tn3]) (by simp only [s_X2_pl, if_pos h2, Bool.false_eq_true, ↓reduceIte, Nat.reduceAdd, Nat.reduceMul, mj_tn0, mj_tn1, mj_tn2, mj_tn3]))
      · skip
        refine R_seg (φ := []) (pc' := 78) (L' := [.ref 18, .ref 2, .int (nI j), w3]) (st' := [.int 0]) (σ' := (mj_KS N, I, mj_PP c (2) (35))) 1 rfl trivial ?_
        exact R_rb rfl rfl (Or.inl rfl) (mj_leaf (by simp only [s_X2_pl, if_neg h2, Bool.false_eq_true, ↓reduceIte, Nat.reduceAdd, Nat.reduceMul, mj_tn0, mj_tn1, mj_tn2, mj_tn3]) (by simp only [s_X2_pl, if_neg h2, Bool.false_eq_true, ↓reduceIte, Nat.reduceAdd, Nat.reduceMul, mj_tn0, mj_tn1, mj_tn2, mj_tn3]))
    | succ k ih =>
      intro j w3 I hk hlo hj
      have hjm : j < 3 := by omega
      refine R_seg (φ := []) (pc' := 9) (L' := [.ref 18, .ref 2, .int (nI j), w3]) (st' := [.int 3, .int (nI j)]) (σ' := (mj_KS N, I, mj_PP c (2) (35))) 2 rfl trivial ?_
      refine R_br (q := (nI j : Int32) < 3) (t := 12) (f := 66) (rest := []) rfl (fun h1 => ?_) (fun h1 => absurd (show nI j < nI 3 from nI_lt hjm (by omega)) h1)
      refine R_seg (φ := []) (pc' := 15) (L' := [.ref 18, .ref 2, .int (nI j), w3]) (st' := [.int 44, .ref 18]) (σ' := (mj_KS N, I, mj_PP c (2) (35))) 2 rfl trivial ?_
      refine R_ce (idx := 35) (mid := 25) (kind := 0) (N := N) (M' := mj_m_X2_takes) (As := [.ref 18, .int 44]) (rest := []) (I := I) (P := mj_PP c (2) (35)) (I' := (s_X2_takes (35) 44 I).2) (P' := mj_PP c (2) (35)) (v := some (.int ((s_X2_takes (35) 44 I).1))) rfl rfl rfl mj_mc25 mj_dc25 rfl rfl rfl rfl rfl rfl (x_X2_takes l b base D z N (35) 44 (by decide) I c (2) ) ?_
      refine R_seg (φ := []) (pc' := 18) (L' := [.ref 18, .ref 2, .int (nI j), w3]) (st' := [.int ((s_X2_takes (35) 44 I).1)]) (σ' := (mj_KS N, (s_X2_takes (35) 44 I).2, mj_PP c (2) (35))) 0 rfl trivial ?_
      refine R_br (q := ((s_X2_takes (35) 44 I).1 : Int32) = 0) (t := 66) (f := 21) (rest := []) rfl (fun h2 => ?_) (fun h2 => ?_)
      · skip
        refine R_seg (φ := []) (pc' := 70) (L' := [.ref 18, .ref 2, .int (nI j), w3]) (st' := [.int (((s_X2_takes (35) 44 I).2) 2 1)]) (σ' := (mj_KS N, (s_X2_takes (35) 44 I).2, mj_PP c (2) (35))) 2 rfl trivial ?_
        refine R_br (q := (0 : Int32) < ((s_X2_takes (35) 44 I).2) 2 1) (t := 73) (f := 77) (rest := []) rfl (fun h3 => ?_) (fun h3 => ?_)
        · skip
          refine R_seg (φ := []) (pc' := 78) (L' := [.ref 18, .ref 2, .int (nI j), w3]) (st' := [.int 1]) (σ' := (mj_KS N, (s_X2_takes (35) 44 I).2, mj_PP c (2) (35))) 2 rfl trivial ?_
          exact R_rb rfl rfl (Or.inr rfl) (mj_leaf (by simp only [s_X2_pl, if_pos h2, if_pos h3, Bool.false_eq_true, ↓reduceIte, Nat.reduceAdd, Nat.reduceMul, mj_tn0, mj_tn1, mj_tn2, mj_tn3]) (by simp only [s_X2_pl, if_pos h2, if_pos h3, Bool.false_eq_true, ↓reduceIte, Nat.reduceAdd, Nat.reduceMul, mj_tn0, mj_tn1, mj_tn2, mj_tn3]))
        · skip
          refine R_seg (φ := []) (pc' := 78) (L' := [.ref 18, .ref 2, .int (nI j), w3]) (st' := [.int 0]) (σ' := (mj_KS N, (s_X2_takes (35) 44 I).2, mj_PP c (2) (35))) 1 rfl trivial ?_
          exact R_rb rfl rfl (Or.inl rfl) (mj_leaf (by simp only [s_X2_pl, if_pos h2, if_neg h3, Bool.false_eq_true, ↓reduceIte, Nat.reduceAdd, Nat.reduceMul, mj_tn0, mj_tn1, mj_tn2, mj_tn3]) (by simp only [s_X2_pl, if_pos h2, if_neg h3, Bool.false_eq_true, ↓reduceIte, Nat.reduceAdd, Nat.reduceMul, mj_tn0, mj_tn1, mj_tn2, mj_tn3]))
      · skip
        refine R_seg (φ := []) (pc' := 22) (L' := [.ref 18, .ref 2, .int (nI j), w3]) (st' := [.ref 18]) (σ' := (mj_KS N, (s_X2_takes (35) 44 I).2, mj_PP c (2) (35))) 1 rfl trivial ?_
        refine R_ce (idx := 68) (mid := 23) (kind := 0) (N := N) (M' := mj_m_X2_takeKind) (As := [.ref 18]) (rest := []) (I := (s_X2_takes (35) 44 I).2) (P := mj_PP c (2) (35)) (I' := (s_X2_takeKind (35) ((s_X2_takes (35) 44 I).2)).2) (P' := mj_PP c (2) (35)) (v := some (.int ((s_X2_takeKind (35) ((s_X2_takes (35) 44 I).2)).1))) rfl rfl rfl mj_mc23 mj_dc23 rfl rfl rfl rfl rfl rfl (x_X2_takeKind l b base D z N (35) (by decide) ((s_X2_takes (35) 44 I).2) c (2) ) ?_
        generalize hg1 : s_X2_takeKind (35) ((s_X2_takes (35) 44 I).2) = g1
        refine R_seg (φ := []) (pc' := 27) (L' := [.ref 18, .ref 2, .int (nI j), .int (g1.1)]) (st' := [.int (g1.1)]) (σ' := (mj_KS N, g1.2, mj_PP c (2) (35))) 2 rfl trivial ?_
        refine R_br (q := (g1.1 : Int32) < 0) (t := 44) (f := 30) (rest := []) rfl (fun h4 => ?_) (fun h4 => ?_)
        · skip
          refine R_seg (φ := []) (pc' := 45) (L' := [.ref 18, .ref 2, .int (nI j), .int (g1.1)]) (st' := [.int 0]) (σ' := (mj_KS N, g1.2, mj_PP c (2) (35))) 1 rfl trivial ?_
          exact R_rb rfl rfl (Or.inl rfl) (mj_leaf (by simp only [s_X2_pl, hg1, if_neg h2, if_pos h4, Bool.false_eq_true, ↓reduceIte, Nat.reduceAdd, Nat.reduceMul, mj_tn0, mj_tn1, mj_tn2, mj_tn3]) (by simp only [s_X2_pl, hg1, if_neg h2, if_pos h4, Bool.false_eq_true, ↓reduceIte, Nat.reduceAdd, Nat.reduceMul, mj_tn0, mj_tn1, mj_tn2, mj_tn3]))
        · skip
          obtain rfl | rfl | rfl : j = 0 ∨ j = 1 ∨ j = 2 := by omega
          · skip
            refine R_seg (φ := [mj_in (nI 0) 3]) (pc' := 38) (L' := [.ref 18, .ref 2, .int (nI 0), .int (g1.1)]) (st' := [.int 3, .ref 7, .ref 18]) (σ' := (mj_KS N, g1.2, mj_PP c (2) (35))) 6 rfl ⟨mj_in_nI (by decide) (by decide), trivial⟩ ?_
            refine R_ce (idx := 54) (mid := 20) (kind := 0) (N := N) (M' := mj_m_X2_readsSeasons) (As := [.ref 18, .ref 7, .int 3]) (rest := []) (I := g1.2) (P := mj_PP c (2) (35)) (I' := (s_X2_readsSeasons (35) (7) 3 3 (g1.2)).2) (P' := mj_PP c (2) (35)) (v := some (.int ((s_X2_readsSeasons (35) (7) 3 3 (g1.2)).1))) rfl rfl rfl mj_mc20 mj_dc20 rfl rfl rfl rfl rfl rfl (x_X2_readsSeasons l b base D z N (35) (7) 3 3 (by decide) (by decide) (g1.2) c (2) (by decide) (by decide) (by decide)) ?_
            generalize hg0 : s_X2_readsSeasons (35) (7) 3 3 (g1.2) = g0
            refine R_seg (φ := []) (pc' := 41) (L' := [.ref 18, .ref 2, .int (nI 0), .int (g1.1)]) (st' := [.int (g0.1)]) (σ' := (mj_KS N, g0.2, mj_PP c (2) (35))) 0 rfl trivial ?_
            refine R_br (q := (g0.1 : Int32) = 0) (t := 44) (f := 46) (rest := []) rfl (fun h5 => ?_) (fun h5 => ?_)
            · skip
              refine R_seg (φ := []) (pc' := 45) (L' := [.ref 18, .ref 2, .int (nI 0), .int (g1.1)]) (st' := [.int 0]) (σ' := (mj_KS N, g0.2, mj_PP c (2) (35))) 1 rfl trivial ?_
              exact R_rb rfl rfl (Or.inl rfl) (mj_leaf (by simp only [s_X2_pl, hg1, hg0, if_neg h2, if_neg h4, if_pos h5, Bool.false_eq_true, ↓reduceIte, Nat.reduceAdd, Nat.reduceMul, mj_tn0, mj_tn1, mj_tn2, mj_tn3]) (by simp only [s_X2_pl, hg1, hg0, if_neg h2, if_neg h4, if_pos h5, Bool.false_eq_true, ↓reduceIte, Nat.reduceAdd, Nat.reduceMul, mj_tn0, mj_tn1, mj_tn2, mj_tn3]))
            · skip
              refine R_seg (φ := [mj_in (nI 0) 3]) (pc' := 7) (L' := [.ref 18, .ref 2, .int ((nI 0) + 1), .int (g1.1)]) (st' := []) (σ' := (mj_KS N, (mj_upI (mj_upI (g0.2) 5 (nI 0) (g1.1)) 2 1 ((nI 0) + 1)), mj_PP c (2) (35))) 12 rfl ⟨mj_in_nI (by decide) (by decide), trivial⟩ ?_
              rw [nI_1 0]
              rw [show s_X2_pl 2 35 (k + 1) 0  I = s_X2_pl 2 35 k (0 + 1)  (mj_upI (mj_upI (g0.2) 5 (nI 0) (g1.1)) 2 1 ((nI 0) + 1)) from by simp only [s_X2_pl, hg1, hg0, if_neg h2, if_neg h4, if_neg h5, Bool.false_eq_true, ↓reduceIte, Nat.reduceAdd, Nat.reduceMul, mj_tn0, mj_tn1, mj_tn2, mj_tn3]]
              exact ih (0 + 1)  (.int (g1.1)) (mj_upI (mj_upI (g0.2) 5 (nI 0) (g1.1)) 2 1 ((nI 0) + 1)) (by omega) (by omega) (by omega)
          · skip
            refine R_seg (φ := [mj_in (nI 1) 3]) (pc' := 38) (L' := [.ref 18, .ref 2, .int (nI 1), .int (g1.1)]) (st' := [.int 3, .ref 8, .ref 18]) (σ' := (mj_KS N, g1.2, mj_PP c (2) (35))) 6 rfl ⟨mj_in_nI (by decide) (by decide), trivial⟩ ?_
            refine R_ce (idx := 54) (mid := 20) (kind := 0) (N := N) (M' := mj_m_X2_readsSeasons) (As := [.ref 18, .ref 8, .int 3]) (rest := []) (I := g1.2) (P := mj_PP c (2) (35)) (I' := (s_X2_readsSeasons (35) (8) 3 3 (g1.2)).2) (P' := mj_PP c (2) (35)) (v := some (.int ((s_X2_readsSeasons (35) (8) 3 3 (g1.2)).1))) rfl rfl rfl mj_mc20 mj_dc20 rfl rfl rfl rfl rfl rfl (x_X2_readsSeasons l b base D z N (35) (8) 3 3 (by decide) (by decide) (g1.2) c (2) (by decide) (by decide) (by decide)) ?_
            generalize hg0 : s_X2_readsSeasons (35) (8) 3 3 (g1.2) = g0
            refine R_seg (φ := []) (pc' := 41) (L' := [.ref 18, .ref 2, .int (nI 1), .int (g1.1)]) (st' := [.int (g0.1)]) (σ' := (mj_KS N, g0.2, mj_PP c (2) (35))) 0 rfl trivial ?_
            refine R_br (q := (g0.1 : Int32) = 0) (t := 44) (f := 46) (rest := []) rfl (fun h5 => ?_) (fun h5 => ?_)
            · skip
              refine R_seg (φ := []) (pc' := 45) (L' := [.ref 18, .ref 2, .int (nI 1), .int (g1.1)]) (st' := [.int 0]) (σ' := (mj_KS N, g0.2, mj_PP c (2) (35))) 1 rfl trivial ?_
              exact R_rb rfl rfl (Or.inl rfl) (mj_leaf (by simp only [s_X2_pl, hg1, hg0, if_neg h2, if_neg h4, if_pos h5, Bool.false_eq_true, ↓reduceIte, Nat.reduceAdd, Nat.reduceMul, mj_tn0, mj_tn1, mj_tn2, mj_tn3]) (by simp only [s_X2_pl, hg1, hg0, if_neg h2, if_neg h4, if_pos h5, Bool.false_eq_true, ↓reduceIte, Nat.reduceAdd, Nat.reduceMul, mj_tn0, mj_tn1, mj_tn2, mj_tn3]))
            · skip
              refine R_seg (φ := [mj_in (nI 1) 3]) (pc' := 7) (L' := [.ref 18, .ref 2, .int ((nI 1) + 1), .int (g1.1)]) (st' := []) (σ' := (mj_KS N, (mj_upI (mj_upI (g0.2) 5 (nI 1) (g1.1)) 2 1 ((nI 1) + 1)), mj_PP c (2) (35))) 12 rfl ⟨mj_in_nI (by decide) (by decide), trivial⟩ ?_
              rw [nI_1 1]
              rw [show s_X2_pl 2 35 (k + 1) 1  I = s_X2_pl 2 35 k (1 + 1)  (mj_upI (mj_upI (g0.2) 5 (nI 1) (g1.1)) 2 1 ((nI 1) + 1)) from by simp only [s_X2_pl, hg1, hg0, if_neg h2, if_neg h4, if_neg h5, Bool.false_eq_true, ↓reduceIte, Nat.reduceAdd, Nat.reduceMul, mj_tn0, mj_tn1, mj_tn2, mj_tn3]]
              exact ih (1 + 1)  (.int (g1.1)) (mj_upI (mj_upI (g0.2) 5 (nI 1) (g1.1)) 2 1 ((nI 1) + 1)) (by omega) (by omega) (by omega)
          · skip
            refine R_seg (φ := [mj_in (nI 2) 3]) (pc' := 38) (L' := [.ref 18, .ref 2, .int (nI 2), .int (g1.1)]) (st' := [.int 3, .ref 9, .ref 18]) (σ' := (mj_KS N, g1.2, mj_PP c (2) (35))) 6 rfl ⟨mj_in_nI (by decide) (by decide), trivial⟩ ?_
            refine R_ce (idx := 54) (mid := 20) (kind := 0) (N := N) (M' := mj_m_X2_readsSeasons) (As := [.ref 18, .ref 9, .int 3]) (rest := []) (I := g1.2) (P := mj_PP c (2) (35)) (I' := (s_X2_readsSeasons (35) (9) 3 3 (g1.2)).2) (P' := mj_PP c (2) (35)) (v := some (.int ((s_X2_readsSeasons (35) (9) 3 3 (g1.2)).1))) rfl rfl rfl mj_mc20 mj_dc20 rfl rfl rfl rfl rfl rfl (x_X2_readsSeasons l b base D z N (35) (9) 3 3 (by decide) (by decide) (g1.2) c (2) (by decide) (by decide) (by decide)) ?_
            generalize hg0 : s_X2_readsSeasons (35) (9) 3 3 (g1.2) = g0
            refine R_seg (φ := []) (pc' := 41) (L' := [.ref 18, .ref 2, .int (nI 2), .int (g1.1)]) (st' := [.int (g0.1)]) (σ' := (mj_KS N, g0.2, mj_PP c (2) (35))) 0 rfl trivial ?_
            refine R_br (q := (g0.1 : Int32) = 0) (t := 44) (f := 46) (rest := []) rfl (fun h5 => ?_) (fun h5 => ?_)
            · skip
              refine R_seg (φ := []) (pc' := 45) (L' := [.ref 18, .ref 2, .int (nI 2), .int (g1.1)]) (st' := [.int 0]) (σ' := (mj_KS N, g0.2, mj_PP c (2) (35))) 1 rfl trivial ?_
              exact R_rb rfl rfl (Or.inl rfl) (mj_leaf (by simp only [s_X2_pl, hg1, hg0, if_neg h2, if_neg h4, if_pos h5, Bool.false_eq_true, ↓reduceIte, Nat.reduceAdd, Nat.reduceMul, mj_tn0, mj_tn1, mj_tn2, mj_tn3]) (by simp only [s_X2_pl, hg1, hg0, if_neg h2, if_neg h4, if_pos h5, Bool.false_eq_true, ↓reduceIte, Nat.reduceAdd, Nat.reduceMul, mj_tn0, mj_tn1, mj_tn2, mj_tn3]))
            · skip
              refine R_seg (φ := [mj_in (nI 2) 3]) (pc' := 7) (L' := [.ref 18, .ref 2, .int ((nI 2) + 1), .int (g1.1)]) (st' := []) (σ' := (mj_KS N, (mj_upI (mj_upI (g0.2) 5 (nI 2) (g1.1)) 2 1 ((nI 2) + 1)), mj_PP c (2) (35))) 12 rfl ⟨mj_in_nI (by decide) (by decide), trivial⟩ ?_
              rw [nI_1 2]
              rw [show s_X2_pl 2 35 (k + 1) 2  I = s_X2_pl 2 35 k (2 + 1)  (mj_upI (mj_upI (g0.2) 5 (nI 2) (g1.1)) 2 1 ((nI 2) + 1)) from by simp only [s_X2_pl, hg1, hg0, if_neg h2, if_neg h4, if_neg h5, Bool.false_eq_true, ↓reduceIte, Nat.reduceAdd, Nat.reduceMul, mj_tn0, mj_tn1, mj_tn2, mj_tn3]]
              exact ih (2 + 1)  (.int (g1.1)) (mj_upI (mj_upI (g0.2) 5 (nI 2) (g1.1)) 2 1 ((nI 2) + 1)) (by omega) (by omega) (by omega)
  · skip
    intro k
    induction k with
    | zero =>
      intro j w3 I hk hlo hj
      refine R_seg (φ := []) (pc' := 9) (L' := [.ref 18, .ref 2, .int (nI j), w3]) (st' := [.int 3, .int (nI j)]) (σ' := (mj_KS N, I, mj_PP c (2) (37))) 2 rfl trivial ?_
      refine R_br (q := (nI j : Int32) < 3) (t := 12) (f := 66) (rest := []) rfl (fun h1 => absurd h1 (show ¬ nI j < nI 3 from nI_nlt (by omega) (by omega))) (fun h1 => ?_)
      refine R_seg (φ := []) (pc' := 70) (L' := [.ref 18, .ref 2, .int (nI j), w3]) (st' := [.int (I 2 1)]) (σ' := (mj_KS N, I, mj_PP c (2) (37))) 2 rfl trivial ?_
      refine R_br (q := (0 : Int32) < I 2 1) (t := 73) (f := 77) (rest := []) rfl (fun h2 => ?_) (fun h2 => ?_)
      · skip
        refine R_seg (φ := []) (pc' := 78) (L' := [.ref 18, .ref 2, .int (nI j), w3]) (st' := [.int 1]) (σ' := (mj_KS N, I, mj_PP c (2) (37))) 2 rfl trivial ?_
        exact R_rb rfl rfl (Or.inr rfl) (mj_leaf (by simp only [s_X2_pl, if_pos h2, Bool.false_eq_true, ↓reduceIte, Nat.reduceAdd, Nat.reduceMul, mj_tn0, mj_tn1, mj_tn2, mj_tn3]) (by simp only [s_X2_pl, if_pos h2, Bool.false_eq_true, ↓reduceIte, Nat.reduceAdd, Nat.reduceMul, mj_tn0, mj_tn1, mj_tn2, mj_tn3]))
      · skip
        refine R_seg (φ := []) (pc' := 78) (L' := [.ref 18, .ref 2, .int (nI j), w3]) (st' := [.int 0]) (σ' := (mj_KS N, I, mj_PP c (2) (37))) 1 rfl trivial ?_
        exact R_rb rfl rfl (Or.inl rfl) (mj_leaf (by simp only [s_X2_pl, if_neg h2, Bool.false_eq_true, ↓reduceIte, Nat.reduceAdd, Nat.reduceMul, mj_tn0, mj_tn1, mj_tn2, mj_tn3]) (by simp only [s_X2_pl, if_neg h2, Bool.false_eq_true, ↓reduceIte, Nat.reduceAdd, Nat.reduceMul, mj_tn0, mj_tn1, mj_tn2, mj_tn3]))
    | succ k ih =>
      intro j w3 I hk hlo hj
      have hjm : j < 3 := by omega
      refine R_seg (φ := []) (pc' := 9) (L' := [.ref 18, .ref 2, .int (nI j), w3]) (st' := [.int 3, .int (nI j)]) (σ' := (mj_KS N, I, mj_PP c (2) (37))) 2 rfl trivial ?_
      refine R_br (q := (nI j : Int32) < 3) (t := 12) (f := 66) (rest := []) rfl (fun h1 => ?_) (fun h1 => absurd (show nI j < nI 3 from nI_lt hjm (by omega)) h1)
      refine R_seg (φ := []) (pc' := 15) (L' := [.ref 18, .ref 2, .int (nI j), w3]) (st' := [.int 44, .ref 18]) (σ' := (mj_KS N, I, mj_PP c (2) (37))) 2 rfl trivial ?_
      refine R_ce (idx := 35) (mid := 25) (kind := 0) (N := N) (M' := mj_m_X2_takes) (As := [.ref 18, .int 44]) (rest := []) (I := I) (P := mj_PP c (2) (37)) (I' := (s_X2_takes (37) 44 I).2) (P' := mj_PP c (2) (37)) (v := some (.int ((s_X2_takes (37) 44 I).1))) rfl rfl rfl mj_mc25 mj_dc25 rfl rfl rfl rfl rfl rfl (x_X2_takes l b base D z N (37) 44 (by decide) I c (2) ) ?_
      refine R_seg (φ := []) (pc' := 18) (L' := [.ref 18, .ref 2, .int (nI j), w3]) (st' := [.int ((s_X2_takes (37) 44 I).1)]) (σ' := (mj_KS N, (s_X2_takes (37) 44 I).2, mj_PP c (2) (37))) 0 rfl trivial ?_
      refine R_br (q := ((s_X2_takes (37) 44 I).1 : Int32) = 0) (t := 66) (f := 21) (rest := []) rfl (fun h2 => ?_) (fun h2 => ?_)
      · skip
        refine R_seg (φ := []) (pc' := 70) (L' := [.ref 18, .ref 2, .int (nI j), w3]) (st' := [.int (((s_X2_takes (37) 44 I).2) 2 1)]) (σ' := (mj_KS N, (s_X2_takes (37) 44 I).2, mj_PP c (2) (37))) 2 rfl trivial ?_
        refine R_br (q := (0 : Int32) < ((s_X2_takes (37) 44 I).2) 2 1) (t := 73) (f := 77) (rest := []) rfl (fun h3 => ?_) (fun h3 => ?_)
        · skip
          refine R_seg (φ := []) (pc' := 78) (L' := [.ref 18, .ref 2, .int (nI j), w3]) (st' := [.int 1]) (σ' := (mj_KS N, (s_X2_takes (37) 44 I).2, mj_PP c (2) (37))) 2 rfl trivial ?_
          exact R_rb rfl rfl (Or.inr rfl) (mj_leaf (by simp only [s_X2_pl, if_pos h2, if_pos h3, Bool.false_eq_true, ↓reduceIte, Nat.reduceAdd, Nat.reduceMul, mj_tn0, mj_tn1, mj_tn2, mj_tn3]) (by simp only [s_X2_pl, if_pos h2, if_pos h3, Bool.false_eq_true, ↓reduceIte, Nat.reduceAdd, Nat.reduceMul, mj_tn0, mj_tn1, mj_tn2, mj_tn3]))
        · skip
          refine R_seg (φ := []) (pc' := 78) (L' := [.ref 18, .ref 2, .int (nI j), w3]) (st' := [.int 0]) (σ' := (mj_KS N, (s_X2_takes (37) 44 I).2, mj_PP c (2) (37))) 1 rfl trivial ?_
          exact R_rb rfl rfl (Or.inl rfl) (mj_leaf (by simp only [s_X2_pl, if_pos h2, if_neg h3, Bool.false_eq_true, ↓reduceIte, Nat.reduceAdd, Nat.reduceMul, mj_tn0, mj_tn1, mj_tn2, mj_tn3]) (by simp only [s_X2_pl, if_pos h2, if_neg h3, Bool.false_eq_true, ↓reduceIte, Nat.reduceAdd, Nat.reduceMul, mj_tn0, mj_tn1, mj_tn2, mj_tn3]))
      · skip
        refine R_seg (φ := []) (pc' := 22) (L' := [.ref 18, .ref 2, .int (nI j), w3]) (st' := [.ref 18]) (σ' := (mj_KS N, (s_X2_takes (37) 44 I).2, mj_PP c (2) (37))) 1 rfl trivial ?_
        refine R_ce (idx := 68) (mid := 23) (kind := 0) (N := N) (M' := mj_m_X2_takeKind) (As := [.ref 18]) (rest := []) (I := (s_X2_takes (37) 44 I).2) (P := mj_PP c (2) (37)) (I' := (s_X2_takeKind (37) ((s_X2_takes (37) 44 I).2)).2) (P' := mj_PP c (2) (37)) (v := some (.int ((s_X2_takeKind (37) ((s_X2_takes (37) 44 I).2)).1))) rfl rfl rfl mj_mc23 mj_dc23 rfl rfl rfl rfl rfl rfl (x_X2_takeKind l b base D z N (37) (by decide) ((s_X2_takes (37) 44 I).2) c (2) ) ?_
        generalize hg1 : s_X2_takeKind (37) ((s_X2_takes (37) 44 I).2) = g1
        refine R_seg (φ := []) (pc' := 27) (L' := [.ref 18, .ref 2, .int (nI j), .int (g1.1)]) (st' := [.int (g1.1)]) (σ' := (mj_KS N, g1.2, mj_PP c (2) (37))) 2 rfl trivial ?_
        refine R_br (q := (g1.1 : Int32) < 0) (t := 44) (f := 30) (rest := []) rfl (fun h4 => ?_) (fun h4 => ?_)
        · skip
          refine R_seg (φ := []) (pc' := 45) (L' := [.ref 18, .ref 2, .int (nI j), .int (g1.1)]) (st' := [.int 0]) (σ' := (mj_KS N, g1.2, mj_PP c (2) (37))) 1 rfl trivial ?_
          exact R_rb rfl rfl (Or.inl rfl) (mj_leaf (by simp only [s_X2_pl, hg1, if_neg h2, if_pos h4, Bool.false_eq_true, ↓reduceIte, Nat.reduceAdd, Nat.reduceMul, mj_tn0, mj_tn1, mj_tn2, mj_tn3]) (by simp only [s_X2_pl, hg1, if_neg h2, if_pos h4, Bool.false_eq_true, ↓reduceIte, Nat.reduceAdd, Nat.reduceMul, mj_tn0, mj_tn1, mj_tn2, mj_tn3]))
        · skip
          obtain rfl | rfl | rfl : j = 0 ∨ j = 1 ∨ j = 2 := by omega
          · skip
            refine R_seg (φ := [mj_in (nI 0) 3]) (pc' := 38) (L' := [.ref 18, .ref 2, .int (nI 0), .int (g1.1)]) (st' := [.int 3, .ref 7, .ref 18]) (σ' := (mj_KS N, g1.2, mj_PP c (2) (37))) 6 rfl ⟨mj_in_nI (by decide) (by decide), trivial⟩ ?_
            refine R_ce (idx := 54) (mid := 20) (kind := 0) (N := N) (M' := mj_m_X2_readsSeasons) (As := [.ref 18, .ref 7, .int 3]) (rest := []) (I := g1.2) (P := mj_PP c (2) (37)) (I' := (s_X2_readsSeasons (37) (7) 3 3 (g1.2)).2) (P' := mj_PP c (2) (37)) (v := some (.int ((s_X2_readsSeasons (37) (7) 3 3 (g1.2)).1))) rfl rfl rfl mj_mc20 mj_dc20 rfl rfl rfl rfl rfl rfl (x_X2_readsSeasons l b base D z N (37) (7) 3 3 (by decide) (by decide) (g1.2) c (2) (by decide) (by decide) (by decide)) ?_
            generalize hg0 : s_X2_readsSeasons (37) (7) 3 3 (g1.2) = g0
            refine R_seg (φ := []) (pc' := 41) (L' := [.ref 18, .ref 2, .int (nI 0), .int (g1.1)]) (st' := [.int (g0.1)]) (σ' := (mj_KS N, g0.2, mj_PP c (2) (37))) 0 rfl trivial ?_
            refine R_br (q := (g0.1 : Int32) = 0) (t := 44) (f := 46) (rest := []) rfl (fun h5 => ?_) (fun h5 => ?_)
            · skip
              refine R_seg (φ := []) (pc' := 45) (L' := [.ref 18, .ref 2, .int (nI 0), .int (g1.1)]) (st' := [.int 0]) (σ' := (mj_KS N, g0.2, mj_PP c (2) (37))) 1 rfl trivial ?_
              exact R_rb rfl rfl (Or.inl rfl) (mj_leaf (by simp only [s_X2_pl, hg1, hg0, if_neg h2, if_neg h4, if_pos h5, Bool.false_eq_true, ↓reduceIte, Nat.reduceAdd, Nat.reduceMul, mj_tn0, mj_tn1, mj_tn2, mj_tn3]) (by simp only [s_X2_pl, hg1, hg0, if_neg h2, if_neg h4, if_pos h5, Bool.false_eq_true, ↓reduceIte, Nat.reduceAdd, Nat.reduceMul, mj_tn0, mj_tn1, mj_tn2, mj_tn3]))
            · skip
              refine R_seg (φ := [mj_in (nI 0) 3]) (pc' := 7) (L' := [.ref 18, .ref 2, .int ((nI 0) + 1), .int (g1.1)]) (st' := []) (σ' := (mj_KS N, (mj_upI (mj_upI (g0.2) 5 (nI 0) (g1.1)) 2 1 ((nI 0) + 1)), mj_PP c (2) (37))) 12 rfl ⟨mj_in_nI (by decide) (by decide), trivial⟩ ?_
              rw [nI_1 0]
              rw [show s_X2_pl 2 37 (k + 1) 0  I = s_X2_pl 2 37 k (0 + 1)  (mj_upI (mj_upI (g0.2) 5 (nI 0) (g1.1)) 2 1 ((nI 0) + 1)) from by simp only [s_X2_pl, hg1, hg0, if_neg h2, if_neg h4, if_neg h5, Bool.false_eq_true, ↓reduceIte, Nat.reduceAdd, Nat.reduceMul, mj_tn0, mj_tn1, mj_tn2, mj_tn3]]
              exact ih (0 + 1)  (.int (g1.1)) (mj_upI (mj_upI (g0.2) 5 (nI 0) (g1.1)) 2 1 ((nI 0) + 1)) (by omega) (by omega) (by omega)
          · skip
            refine R_seg (φ := [mj_in (nI 1) 3]) (pc' := 38) (L' := [.ref 18, .ref 2, .int (nI 1), .int (g1.1)]) (st' := [.int 3, .ref 8, .ref 18]) (σ' := (mj_KS N, g1.2, mj_PP c (2) (37))) 6 rfl ⟨mj_in_nI (by decide) (by decide), trivial⟩ ?_
            refine R_ce (idx := 54) (mid := 20) (kind := 0) (N := N) (M' := mj_m_X2_readsSeasons) (As := [.ref 18, .ref 8, .int 3]) (rest := []) (I := g1.2) (P := mj_PP c (2) (37)) (I' := (s_X2_readsSeasons (37) (8) 3 3 (g1.2)).2) (P' := mj_PP c (2) (37)) (v := some (.int ((s_X2_readsSeasons (37) (8) 3 3 (g1.2)).1))) rfl rfl rfl mj_mc20 mj_dc20 rfl rfl rfl rfl rfl rfl (x_X2_readsSeasons l b base D z N (37) (8) 3 3 (by decide) (by decide) (g1.2) c (2) (by decide) (by decide) (by decide)) ?_
            generalize hg0 : s_X2_readsSeasons (37) (8) 3 3 (g1.2) = g0
            refine R_seg (φ := []) (pc' := 41) (L' := [.ref 18, .ref 2, .int (nI 1), .int (g1.1)]) (st' := [.int (g0.1)]) (σ' := (mj_KS N, g0.2, mj_PP c (2) (37))) 0 rfl trivial ?_
            refine R_br (q := (g0.1 : Int32) = 0) (t := 44) (f := 46) (rest := []) rfl (fun h5 => ?_) (fun h5 => ?_)
            · skip
              refine R_seg (φ := []) (pc' := 45) (L' := [.ref 18, .ref 2, .int (nI 1), .int (g1.1)]) (st' := [.int 0]) (σ' := (mj_KS N, g0.2, mj_PP c (2) (37))) 1 rfl trivial ?_
              exact R_rb rfl rfl (Or.inl rfl) (mj_leaf (by simp only [s_X2_pl, hg1, hg0, if_neg h2, if_neg h4, if_pos h5, Bool.false_eq_true, ↓reduceIte, Nat.reduceAdd, Nat.reduceMul, mj_tn0, mj_tn1, mj_tn2, mj_tn3]) (by simp only [s_X2_pl, hg1, hg0, if_neg h2, if_neg h4, if_pos h5, Bool.false_eq_true, ↓reduceIte, Nat.reduceAdd, Nat.reduceMul, mj_tn0, mj_tn1, mj_tn2, mj_tn3]))
            · skip
              refine R_seg (φ := [mj_in (nI 1) 3]) (pc' := 7) (L' := [.ref 18, .ref 2, .int ((nI 1) + 1), .int (g1.1)]) (st' := []) (σ' := (mj_KS N, (mj_upI (mj_upI (g0.2) 5 (nI 1) (g1.1)) 2 1 ((nI 1) + 1)), mj_PP c (2) (37))) 12 rfl ⟨mj_in_nI (by decide) (by decide), trivial⟩ ?_
              rw [nI_1 1]
              rw [show s_X2_pl 2 37 (k + 1) 1  I = s_X2_pl 2 37 k (1 + 1)  (mj_upI (mj_upI (g0.2) 5 (nI 1) (g1.1)) 2 1 ((nI 1) + 1)) from by simp only [s_X2_pl, hg1, hg0, if_neg h2, if_neg h4, if_neg h5, Bool.false_eq_true, ↓reduceIte, Nat.reduceAdd, Nat.reduceMul, mj_tn0, mj_tn1, mj_tn2, mj_tn3]]
              exact ih (1 + 1)  (.int (g1.1)) (mj_upI (mj_upI (g0.2) 5 (nI 1) (g1.1)) 2 1 ((nI 1) + 1)) (by omega) (by omega) (by omega)
          · skip
            refine R_seg (φ := [mj_in (nI 2) 3]) (pc' := 38) (L' := [.ref 18, .ref 2, .int (nI 2), .int (g1.1)]) (st' := [.int 3, .ref 9, .ref 18]) (σ' := (mj_KS N, g1.2, mj_PP c (2) (37))) 6 rfl ⟨mj_in_nI (by decide) (by decide), trivial⟩ ?_
            refine R_ce (idx := 54) (mid := 20) (kind := 0) (N := N) (M' := mj_m_X2_readsSeasons) (As := [.ref 18, .ref 9, .int 3]) (rest := []) (I := g1.2) (P := mj_PP c (2) (37)) (I' := (s_X2_readsSeasons (37) (9) 3 3 (g1.2)).2) (P' := mj_PP c (2) (37)) (v := some (.int ((s_X2_readsSeasons (37) (9) 3 3 (g1.2)).1))) rfl rfl rfl mj_mc20 mj_dc20 rfl rfl rfl rfl rfl rfl (x_X2_readsSeasons l b base D z N (37) (9) 3 3 (by decide) (by decide) (g1.2) c (2) (by decide) (by decide) (by decide)) ?_
            generalize hg0 : s_X2_readsSeasons (37) (9) 3 3 (g1.2) = g0
            refine R_seg (φ := []) (pc' := 41) (L' := [.ref 18, .ref 2, .int (nI 2), .int (g1.1)]) (st' := [.int (g0.1)]) (σ' := (mj_KS N, g0.2, mj_PP c (2) (37))) 0 rfl trivial ?_
            refine R_br (q := (g0.1 : Int32) = 0) (t := 44) (f := 46) (rest := []) rfl (fun h5 => ?_) (fun h5 => ?_)
            · skip
              refine R_seg (φ := []) (pc' := 45) (L' := [.ref 18, .ref 2, .int (nI 2), .int (g1.1)]) (st' := [.int 0]) (σ' := (mj_KS N, g0.2, mj_PP c (2) (37))) 1 rfl trivial ?_
              exact R_rb rfl rfl (Or.inl rfl) (mj_leaf (by simp only [s_X2_pl, hg1, hg0, if_neg h2, if_neg h4, if_pos h5, Bool.false_eq_true, ↓reduceIte, Nat.reduceAdd, Nat.reduceMul, mj_tn0, mj_tn1, mj_tn2, mj_tn3]) (by simp only [s_X2_pl, hg1, hg0, if_neg h2, if_neg h4, if_pos h5, Bool.false_eq_true, ↓reduceIte, Nat.reduceAdd, Nat.reduceMul, mj_tn0, mj_tn1, mj_tn2, mj_tn3]))
            · skip
              refine R_seg (φ := [mj_in (nI 2) 3]) (pc' := 7) (L' := [.ref 18, .ref 2, .int ((nI 2) + 1), .int (g1.1)]) (st' := []) (σ' := (mj_KS N, (mj_upI (mj_upI (g0.2) 5 (nI 2) (g1.1)) 2 1 ((nI 2) + 1)), mj_PP c (2) (37))) 12 rfl ⟨mj_in_nI (by decide) (by decide), trivial⟩ ?_
              rw [nI_1 2]
              rw [show s_X2_pl 2 37 (k + 1) 2  I = s_X2_pl 2 37 k (2 + 1)  (mj_upI (mj_upI (g0.2) 5 (nI 2) (g1.1)) 2 1 ((nI 2) + 1)) from by simp only [s_X2_pl, hg1, hg0, if_neg h2, if_neg h4, if_neg h5, Bool.false_eq_true, ↓reduceIte, Nat.reduceAdd, Nat.reduceMul, mj_tn0, mj_tn1, mj_tn2, mj_tn3]]
              exact ih (2 + 1)  (.int (g1.1)) (mj_upI (mj_upI (g0.2) 5 (nI 2) (g1.1)) 2 1 ((nI 2) + 1)) (by omega) (by omega) (by omega)
  · skip
    intro k
    induction k with
    | zero =>
      intro j w3 I hk hlo hj
      refine R_seg (φ := []) (pc' := 9) (L' := [.ref 18, .ref 2, .int (nI j), w3]) (st' := [.int 3, .int (nI j)]) (σ' := (mj_KS N, I, mj_PP c (2) (39))) 2 rfl trivial ?_
      refine R_br (q := (nI j : Int32) < 3) (t := 12) (f := 66) (rest := []) rfl (fun h1 => absurd h1 (show ¬ nI j < nI 3 from nI_nlt (by omega) (by omega))) (fun h1 => ?_)
      refine R_seg (φ := []) (pc' := 70) (L' := [.ref 18, .ref 2, .int (nI j), w3]) (st' := [.int (I 2 1)]) (σ' := (mj_KS N, I, mj_PP c (2) (39))) 2 rfl trivial ?_
      refine R_br (q := (0 : Int32) < I 2 1) (t := 73) (f := 77) (rest := []) rfl (fun h2 => ?_) (fun h2 => ?_)
      · skip
        refine R_seg (φ := []) (pc' := 78) (L' := [.ref 18, .ref 2, .int (nI j), w3]) (st' := [.int 1]) (σ' := (mj_KS N, I, mj_PP c (2) (39))) 2 rfl trivial ?_
        exact R_rb rfl rfl (Or.inr rfl) (mj_leaf (by simp only [s_X2_pl, if_pos h2, Bool.false_eq_true, ↓reduceIte, Nat.reduceAdd, Nat.reduceMul, mj_tn0, mj_tn1, mj_tn2, mj_tn3]) (by simp only [s_X2_pl, if_pos h2, Bool.false_eq_true, ↓reduceIte, Nat.reduceAdd, Nat.reduceMul, mj_tn0, mj_tn1, mj_tn2, mj_tn3]))
      · skip
        refine R_seg (φ := []) (pc' := 78) (L' := [.ref 18, .ref 2, .int (nI j), w3]) (st' := [.int 0]) (σ' := (mj_KS N, I, mj_PP c (2) (39))) 1 rfl trivial ?_
        exact R_rb rfl rfl (Or.inl rfl) (mj_leaf (by simp only [s_X2_pl, if_neg h2, Bool.false_eq_true, ↓reduceIte, Nat.reduceAdd, Nat.reduceMul, mj_tn0, mj_tn1, mj_tn2, mj_tn3]) (by simp only [s_X2_pl, if_neg h2, Bool.false_eq_true, ↓reduceIte, Nat.reduceAdd, Nat.reduceMul, mj_tn0, mj_tn1, mj_tn2, mj_tn3]))
    | succ k ih =>
      intro j w3 I hk hlo hj
      have hjm : j < 3 := by omega
      refine R_seg (φ := []) (pc' := 9) (L' := [.ref 18, .ref 2, .int (nI j), w3]) (st' := [.int 3, .int (nI j)]) (σ' := (mj_KS N, I, mj_PP c (2) (39))) 2 rfl trivial ?_
      refine R_br (q := (nI j : Int32) < 3) (t := 12) (f := 66) (rest := []) rfl (fun h1 => ?_) (fun h1 => absurd (show nI j < nI 3 from nI_lt hjm (by omega)) h1)
      refine R_seg (φ := []) (pc' := 15) (L' := [.ref 18, .ref 2, .int (nI j), w3]) (st' := [.int 44, .ref 18]) (σ' := (mj_KS N, I, mj_PP c (2) (39))) 2 rfl trivial ?_
      refine R_ce (idx := 35) (mid := 25) (kind := 0) (N := N) (M' := mj_m_X2_takes) (As := [.ref 18, .int 44]) (rest := []) (I := I) (P := mj_PP c (2) (39)) (I' := (s_X2_takes (39) 44 I).2) (P' := mj_PP c (2) (39)) (v := some (.int ((s_X2_takes (39) 44 I).1))) rfl rfl rfl mj_mc25 mj_dc25 rfl rfl rfl rfl rfl rfl (x_X2_takes l b base D z N (39) 44 (by decide) I c (2) ) ?_
      refine R_seg (φ := []) (pc' := 18) (L' := [.ref 18, .ref 2, .int (nI j), w3]) (st' := [.int ((s_X2_takes (39) 44 I).1)]) (σ' := (mj_KS N, (s_X2_takes (39) 44 I).2, mj_PP c (2) (39))) 0 rfl trivial ?_
      refine R_br (q := ((s_X2_takes (39) 44 I).1 : Int32) = 0) (t := 66) (f := 21) (rest := []) rfl (fun h2 => ?_) (fun h2 => ?_)
      · skip
        refine R_seg (φ := []) (pc' := 70) (L' := [.ref 18, .ref 2, .int (nI j), w3]) (st' := [.int (((s_X2_takes (39) 44 I).2) 2 1)]) (σ' := (mj_KS N, (s_X2_takes (39) 44 I).2, mj_PP c (2) (39))) 2 rfl trivial ?_
        refine R_br (q := (0 : Int32) < ((s_X2_takes (39) 44 I).2) 2 1) (t := 73) (f := 77) (rest := []) rfl (fun h3 => ?_) (fun h3 => ?_)
        · skip
          refine R_seg (φ := []) (pc' := 78) (L' := [.ref 18, .ref 2, .int (nI j), w3]) (st' := [.int 1]) (σ' := (mj_KS N, (s_X2_takes (39) 44 I).2, mj_PP c (2) (39))) 2 rfl trivial ?_
          exact R_rb rfl rfl (Or.inr rfl) (mj_leaf (by simp only [s_X2_pl, if_pos h2, if_pos h3, Bool.false_eq_true, ↓reduceIte, Nat.reduceAdd, Nat.reduceMul, mj_tn0, mj_tn1, mj_tn2, mj_tn3]) (by simp only [s_X2_pl, if_pos h2, if_pos h3, Bool.false_eq_true, ↓reduceIte, Nat.reduceAdd, Nat.reduceMul, mj_tn0, mj_tn1, mj_tn2, mj_tn3]))
        · skip
          refine R_seg (φ := []) (pc' := 78) (L' := [.ref 18, .ref 2, .int (nI j), w3]) (st' := [.int 0]) (σ' := (mj_KS N, (s_X2_takes (39) 44 I).2, mj_PP c (2) (39))) 1 rfl trivial ?_
          exact R_rb rfl rfl (Or.inl rfl) (mj_leaf (by simp only [s_X2_pl, if_pos h2, if_neg h3, Bool.false_eq_true, ↓reduceIte, Nat.reduceAdd, Nat.reduceMul, mj_tn0, mj_tn1, mj_tn2, mj_tn3]) (by simp only [s_X2_pl, if_pos h2, if_neg h3, Bool.false_eq_true, ↓reduceIte, Nat.reduceAdd, Nat.reduceMul, mj_tn0, mj_tn1, mj_tn2, mj_tn3]))
      · skip
        refine R_seg (φ := []) (pc' := 22) (L' := [.ref 18, .ref 2, .int (nI j), w3]) (st' := [.ref 18]) (σ' := (mj_KS N, (s_X2_takes (39) 44 I).2, mj_PP c (2) (39))) 1 rfl trivial ?_
        refine R_ce (idx := 68) (mid := 23) (kind := 0) (N := N) (M' := mj_m_X2_takeKind) (As := [.ref 18]) (rest := []) (I := (s_X2_takes (39) 44 I).2) (P := mj_PP c (2) (39)) (I' := (s_X2_takeKind (39) ((s_X2_takes (39) 44 I).2)).2) (P' := mj_PP c (2) (39)) (v := some (.int ((s_X2_takeKind (39) ((s_X2_takes (39) 44 I).2)).1))) rfl rfl rfl mj_mc23 mj_dc23 rfl rfl rfl rfl rfl rfl (x_X2_takeKind l b base D z N (39) (by decide) ((s_X2_takes (39) 44 I).2) c (2) ) ?_
        generalize hg1 : s_X2_takeKind (39) ((s_X2_takes (39) 44 I).2) = g1
        refine R_seg (φ := []) (pc' := 27) (L' := [.ref 18, .ref 2, .int (nI j), .int (g1.1)]) (st' := [.int (g1.1)]) (σ' := (mj_KS N, g1.2, mj_PP c (2) (39))) 2 rfl trivial ?_
        refine R_br (q := (g1.1 : Int32) < 0) (t := 44) (f := 30) (rest := []) rfl (fun h4 => ?_) (fun h4 => ?_)
        · skip
          refine R_seg (φ := []) (pc' := 45) (L' := [.ref 18, .ref 2, .int (nI j), .int (g1.1)]) (st' := [.int 0]) (σ' := (mj_KS N, g1.2, mj_PP c (2) (39))) 1 rfl trivial ?_
          exact R_rb rfl rfl (Or.inl rfl) (mj_leaf (by simp only [s_X2_pl, hg1, if_neg h2, if_pos h4, Bool.false_eq_true, ↓reduceIte, Nat.reduceAdd, Nat.reduceMul, mj_tn0, mj_tn1, mj_tn2, mj_tn3]) (by simp only [s_X2_pl, hg1, if_neg h2, if_pos h4, Bool.false_eq_true, ↓reduceIte, Nat.reduceAdd, Nat.reduceMul, mj_tn0, mj_tn1, mj_tn2, mj_tn3]))
        · skip
          obtain rfl | rfl | rfl : j = 0 ∨ j = 1 ∨ j = 2 := by omega
          · skip
            refine R_seg (φ := [mj_in (nI 0) 3]) (pc' := 38) (L' := [.ref 18, .ref 2, .int (nI 0), .int (g1.1)]) (st' := [.int 3, .ref 7, .ref 18]) (σ' := (mj_KS N, g1.2, mj_PP c (2) (39))) 6 rfl ⟨mj_in_nI (by decide) (by decide), trivial⟩ ?_
            refine R_ce (idx := 54) (mid := 20) (kind := 0) (N := N) (M' := mj_m_X2_readsSeasons) (As := [.ref 18, .ref 7, .int 3]) (rest := []) (I := g1.2) (P := mj_PP c (2) (39)) (I' := (s_X2_readsSeasons (39) (7) 3 3 (g1.2)).2) (P' := mj_PP c (2) (39)) (v := some (.int ((s_X2_readsSeasons (39) (7) 3 3 (g1.2)).1))) rfl rfl rfl mj_mc20 mj_dc20 rfl rfl rfl rfl rfl rfl (x_X2_readsSeasons l b base D z N (39) (7) 3 3 (by decide) (by decide) (g1.2) c (2) (by decide) (by decide) (by decide)) ?_
            generalize hg0 : s_X2_readsSeasons (39) (7) 3 3 (g1.2) = g0
            refine R_seg (φ := []) (pc' := 41) (L' := [.ref 18, .ref 2, .int (nI 0), .int (g1.1)]) (st' := [.int (g0.1)]) (σ' := (mj_KS N, g0.2, mj_PP c (2) (39))) 0 rfl trivial ?_
            refine R_br (q := (g0.1 : Int32) = 0) (t := 44) (f := 46) (rest := []) rfl (fun h5 => ?_) (fun h5 => ?_)
            · skip
              refine R_seg (φ := []) (pc' := 45) (L' := [.ref 18, .ref 2, .int (nI 0), .int (g1.1)]) (st' := [.int 0]) (σ' := (mj_KS N, g0.2, mj_PP c (2) (39))) 1 rfl trivial ?_
              exact R_rb rfl rfl (Or.inl rfl) (mj_leaf (by simp only [s_X2_pl, hg1, hg0, if_neg h2, if_neg h4, if_pos h5, Bool.false_eq_true, ↓reduceIte, Nat.reduceAdd, Nat.reduceMul, mj_tn0, mj_tn1, mj_tn2, mj_tn3]) (by simp only [s_X2_pl, hg1, hg0, if_neg h2, if_neg h4, if_pos h5, Bool.false_eq_true, ↓reduceIte, Nat.reduceAdd, Nat.reduceMul, mj_tn0, mj_tn1, mj_tn2, mj_tn3]))
            · skip
              refine R_seg (φ := [mj_in (nI 0) 3]) (pc' := 7) (L' := [.ref 18, .ref 2, .int ((nI 0) + 1), .int (g1.1)]) (st' := []) (σ' := (mj_KS N, (mj_upI (mj_upI (g0.2) 5 (nI 0) (g1.1)) 2 1 ((nI 0) + 1)), mj_PP c (2) (39))) 12 rfl ⟨mj_in_nI (by decide) (by decide), trivial⟩ ?_
              rw [nI_1 0]
              rw [show s_X2_pl 2 39 (k + 1) 0  I = s_X2_pl 2 39 k (0 + 1)  (mj_upI (mj_upI (g0.2) 5 (nI 0) (g1.1)) 2 1 ((nI 0) + 1)) from by simp only [s_X2_pl, hg1, hg0, if_neg h2, if_neg h4, if_neg h5, Bool.false_eq_true, ↓reduceIte, Nat.reduceAdd, Nat.reduceMul, mj_tn0, mj_tn1, mj_tn2, mj_tn3]]
              exact ih (0 + 1)  (.int (g1.1)) (mj_upI (mj_upI (g0.2) 5 (nI 0) (g1.1)) 2 1 ((nI 0) + 1)) (by omega) (by omega) (by omega)
          · skip
            refine R_seg (φ := [mj_in (nI 1) 3]) (pc' := 38) (L' := [.ref 18, .ref 2, .int (nI 1), .int (g1.1)]) (st' := [.int 3, .ref 8, .ref 18]) (σ' := (mj_KS N, g1.2, mj_PP c (2) (39))) 6 rfl ⟨mj_in_nI (by decide) (by decide), trivial⟩ ?_
            refine R_ce (idx := 54) (mid := 20) (kind := 0) (N := N) (M' := mj_m_X2_readsSeasons) (As := [.ref 18, .ref 8, .int 3]) (rest := []) (I := g1.2) (P := mj_PP c (2) (39)) (I' := (s_X2_readsSeasons (39) (8) 3 3 (g1.2)).2) (P' := mj_PP c (2) (39)) (v := some (.int ((s_X2_readsSeasons (39) (8) 3 3 (g1.2)).1))) rfl rfl rfl mj_mc20 mj_dc20 rfl rfl rfl rfl rfl rfl (x_X2_readsSeasons l b base D z N (39) (8) 3 3 (by decide) (by decide) (g1.2) c (2) (by decide) (by decide) (by decide)) ?_
            generalize hg0 : s_X2_readsSeasons (39) (8) 3 3 (g1.2) = g0
            refine R_seg (φ := []) (pc' := 41) (L' := [.ref 18, .ref 2, .int (nI 1), .int (g1.1)]) (st' := [.int (g0.1)]) (σ' := (mj_KS N, g0.2, mj_PP c (2) (39))) 0 rfl trivial ?_
            refine R_br (q := (g0.1 : Int32) = 0) (t := 44) (f := 46) (rest := []) rfl (fun h5 => ?_) (fun h5 => ?_)
            · skip
              refine R_seg (φ := []) (pc' := 45) (L' := [.ref 18, .ref 2, .int (nI 1), .int (g1.1)]) (st' := [.int 0]) (σ' := (mj_KS N, g0.2, mj_PP c (2) (39))) 1 rfl trivial ?_
              exact R_rb rfl rfl (Or.inl rfl) (mj_leaf (by simp only [s_X2_pl, hg1, hg0, if_neg h2, if_neg h4, if_pos h5, Bool.false_eq_true, ↓reduceIte, Nat.reduceAdd, Nat.reduceMul, mj_tn0, mj_tn1, mj_tn2, mj_tn3]) (by simp only [s_X2_pl, hg1, hg0, if_neg h2, if_neg h4, if_pos h5, Bool.false_eq_true, ↓reduceIte, Nat.reduceAdd, Nat.reduceMul, mj_tn0, mj_tn1, mj_tn2, mj_tn3]))
            · skip
              refine R_seg (φ := [mj_in (nI 1) 3]) (pc' := 7) (L' := [.ref 18, .ref 2, .int ((nI 1) + 1), .int (g1.1)]) (st' := []) (σ' := (mj_KS N, (mj_upI (mj_upI (g0.2) 5 (nI 1) (g1.1)) 2 1 ((nI 1) + 1)), mj_PP c (2) (39))) 12 rfl ⟨mj_in_nI (by decide) (by decide), trivial⟩ ?_
              rw [nI_1 1]
              rw [show s_X2_pl 2 39 (k + 1) 1  I = s_X2_pl 2 39 k (1 + 1)  (mj_upI (mj_upI (g0.2) 5 (nI 1) (g1.1)) 2 1 ((nI 1) + 1)) from by simp only [s_X2_pl, hg1, hg0, if_neg h2, if_neg h4, if_neg h5, Bool.false_eq_true, ↓reduceIte, Nat.reduceAdd, Nat.reduceMul, mj_tn0, mj_tn1, mj_tn2, mj_tn3]]
              exact ih (1 + 1)  (.int (g1.1)) (mj_upI (mj_upI (g0.2) 5 (nI 1) (g1.1)) 2 1 ((nI 1) + 1)) (by omega) (by omega) (by omega)
          · skip
            refine R_seg (φ := [mj_in (nI 2) 3]) (pc' := 38) (L' := [.ref 18, .ref 2, .int (nI 2), .int (g1.1)]) (st' := [.int 3, .ref 9, .ref 18]) (σ' := (mj_KS N, g1.2, mj_PP c (2) (39))) 6 rfl ⟨mj_in_nI (by decide) (by decide), trivial⟩ ?_
            refine R_ce (idx := 54) (mid := 20) (kind := 0) (N := N) (M' := mj_m_X2_readsSeasons) (As := [.ref 18, .ref 9, .int 3]) (rest := []) (I := g1.2) (P := mj_PP c (2) (39)) (I' := (s_X2_readsSeasons (39) (9) 3 3 (g1.2)).2) (P' := mj_PP c (2) (39)) (v := some (.int ((s_X2_readsSeasons (39) (9) 3 3 (g1.2)).1))) rfl rfl rfl mj_mc20 mj_dc20 rfl rfl rfl rfl rfl rfl (x_X2_readsSeasons l b base D z N (39) (9) 3 3 (by decide) (by decide) (g1.2) c (2) (by decide) (by decide) (by decide)) ?_
            generalize hg0 : s_X2_readsSeasons (39) (9) 3 3 (g1.2) = g0
            refine R_seg (φ := []) (pc' := 41) (L' := [.ref 18, .ref 2, .int (nI 2), .int (g1.1)]) (st' := [.int (g0.1)]) (σ' := (mj_KS N, g0.2, mj_PP c (2) (39))) 0 rfl trivial ?_
            refine R_br (q := (g0.1 : Int32) = 0) (t := 44) (f := 46) (rest := []) rfl (fun h5 => ?_) (fun h5 => ?_)
            · skip
              refine R_seg (φ := []) (pc' := 45) (L' := [.ref 18, .ref 2, .int (nI 2), .int (g1.1)]) (st' := [.int 0]) (σ' := (mj_KS N, g0.2, mj_PP c (2) (39))) 1 rfl trivial ?_
              exact R_rb rfl rfl (Or.inl rfl) (mj_leaf (by simp only [s_X2_pl, hg1, hg0, if_neg h2, if_neg h4, if_pos h5, Bool.false_eq_true, ↓reduceIte, Nat.reduceAdd, Nat.reduceMul, mj_tn0, mj_tn1, mj_tn2, mj_tn3]) (by simp only [s_X2_pl, hg1, hg0, if_neg h2, if_neg h4, if_pos h5, Bool.false_eq_true, ↓reduceIte, Nat.reduceAdd, Nat.reduceMul, mj_tn0, mj_tn1, mj_tn2, mj_tn3]))
            · skip
              refine R_seg (φ := [mj_in (nI 2) 3]) (pc' := 7) (L' := [.ref 18, .ref 2, .int ((nI 2) + 1), .int (g1.1)]) (st' := []) (σ' := (mj_KS N, (mj_upI (mj_upI (g0.2) 5 (nI 2) (g1.1)) 2 1 ((nI 2) + 1)), mj_PP c (2) (39))) 12 rfl ⟨mj_in_nI (by decide) (by decide), trivial⟩ ?_
              rw [nI_1 2]
              rw [show s_X2_pl 2 39 (k + 1) 2  I = s_X2_pl 2 39 k (2 + 1)  (mj_upI (mj_upI (g0.2) 5 (nI 2) (g1.1)) 2 1 ((nI 2) + 1)) from by simp only [s_X2_pl, hg1, hg0, if_neg h2, if_neg h4, if_neg h5, Bool.false_eq_true, ↓reduceIte, Nat.reduceAdd, Nat.reduceMul, mj_tn0, mj_tn1, mj_tn2, mj_tn3]]
              exact ih (2 + 1)  (.int (g1.1)) (mj_upI (mj_upI (g0.2) 5 (nI 2) (g1.1)) 2 1 ((nI 2) + 1)) (by omega) (by omega) (by omega)
  · skip
    intro k
    induction k with
    | zero =>
      intro j w3 I hk hlo hj
      refine R_seg (φ := []) (pc' := 9) (L' := [.ref 18, .ref 2, .int (nI j), w3]) (st' := [.int 3, .int (nI j)]) (σ' := (mj_KS N, I, mj_PP c (2) (41))) 2 rfl trivial ?_
      refine R_br (q := (nI j : Int32) < 3) (t := 12) (f := 66) (rest := []) rfl (fun h1 => absurd h1 (show ¬ nI j < nI 3 from nI_nlt (by omega) (by omega))) (fun h1 => ?_)
      refine R_seg (φ := []) (pc' := 70) (L' := [.ref 18, .ref 2, .int (nI j), w3]) (st' := [.int (I 2 1)]) (σ' := (mj_KS N, I, mj_PP c (2) (41))) 2 rfl trivial ?_
      refine R_br (q := (0 : Int32) < I 2 1) (t := 73) (f := 77) (rest := []) rfl (fun h2 => ?_) (fun h2 => ?_)
      · skip
        refine R_seg (φ := []) (pc' := 78) (L' := [.ref 18, .ref 2, .int (nI j), w3]) (st' := [.int 1]) (σ' := (mj_KS N, I, mj_PP c (2) (41))) 2 rfl trivial ?_
        exact R_rb rfl rfl (Or.inr rfl) (mj_leaf (by simp only [s_X2_pl, if_pos h2, Bool.false_eq_true, ↓reduceIte, Nat.reduceAdd, Nat.reduceMul, mj_tn0, mj_tn1, mj_tn2, mj_tn3]) (by simp only [s_X2_pl, if_pos h2, Bool.false_eq_true, ↓reduceIte, Nat.reduceAdd, Nat.reduceMul, mj_tn0, mj_tn1, mj_tn2, mj_tn3]))
      · skip
        refine R_seg (φ := []) (pc' := 78) (L' := [.ref 18, .ref 2, .int (nI j), w3]) (st' := [.int 0]) (σ' := (mj_KS N, I, mj_PP c (2) (41))) 1 rfl trivial ?_
        exact R_rb rfl rfl (Or.inl rfl) (mj_leaf (by simp only [s_X2_pl, if_neg h2, Bool.false_eq_true, ↓reduceIte, Nat.reduceAdd, Nat.reduceMul, mj_tn0, mj_tn1, mj_tn2, mj_tn3]) (by simp only [s_X2_pl, if_neg h2, Bool.false_eq_true, ↓reduceIte, Nat.reduceAdd, Nat.reduceMul, mj_tn0, mj_tn1, mj_tn2, mj_tn3]))
    | succ k ih =>
      intro j w3 I hk hlo hj
      have hjm : j < 3 := by omega
      refine R_seg (φ := []) (pc' := 9) (L' := [.ref 18, .ref 2, .int (nI j), w3]) (st' := [.int 3, .int (nI j)]) (σ' := (mj_KS N, I, mj_PP c (2) (41))) 2 rfl trivial ?_
      refine R_br (q := (nI j : Int32) < 3) (t := 12) (f := 66) (rest := []) rfl (fun h1 => ?_) (fun h1 => absurd (show nI j < nI 3 from nI_lt hjm (by omega)) h1)
      refine R_seg (φ := []) (pc' := 15) (L' := [.ref 18, .ref 2, .int (nI j), w3]) (st' := [.int 44, .ref 18]) (σ' := (mj_KS N, I, mj_PP c (2) (41))) 2 rfl trivial ?_
      refine R_ce (idx := 35) (mid := 25) (kind := 0) (N := N) (M' := mj_m_X2_takes) (As := [.ref 18, .int 44]) (rest := []) (I := I) (P := mj_PP c (2) (41)) (I' := (s_X2_takes (41) 44 I).2) (P' := mj_PP c (2) (41)) (v := some (.int ((s_X2_takes (41) 44 I).1))) rfl rfl rfl mj_mc25 mj_dc25 rfl rfl rfl rfl rfl rfl (x_X2_takes l b base D z N (41) 44 (by decide) I c (2) ) ?_
      refine R_seg (φ := []) (pc' := 18) (L' := [.ref 18, .ref 2, .int (nI j), w3]) (st' := [.int ((s_X2_takes (41) 44 I).1)]) (σ' := (mj_KS N, (s_X2_takes (41) 44 I).2, mj_PP c (2) (41))) 0 rfl trivial ?_
      refine R_br (q := ((s_X2_takes (41) 44 I).1 : Int32) = 0) (t := 66) (f := 21) (rest := []) rfl (fun h2 => ?_) (fun h2 => ?_)
      · skip
        refine R_seg (φ := []) (pc' := 70) (L' := [.ref 18, .ref 2, .int (nI j), w3]) (st' := [.int (((s_X2_takes (41) 44 I).2) 2 1)]) (σ' := (mj_KS N, (s_X2_takes (41) 44 I).2, mj_PP c (2) (41))) 2 rfl trivial ?_
        refine R_br (q := (0 : Int32) < ((s_X2_takes (41) 44 I).2) 2 1) (t := 73) (f := 77) (rest := []) rfl (fun h3 => ?_) (fun h3 => ?_)
        · skip
          refine R_seg (φ := []) (pc' := 78) (L' := [.ref 18, .ref 2, .int (nI j), w3]) (st' := [.int 1]) (σ' := (mj_KS N, (s_X2_takes (41) 44 I).2, mj_PP c (2) (41))) 2 rfl trivial ?_
          exact R_rb rfl rfl (Or.inr rfl) (mj_leaf (by simp only [s_X2_pl, if_pos h2, if_pos h3, Bool.false_eq_true, ↓reduceIte, Nat.reduceAdd, Nat.reduceMul, mj_tn0, mj_tn1, mj_tn2, mj_tn3]) (by simp only [s_X2_pl, if_pos h2, if_pos h3, Bool.false_eq_true, ↓reduceIte, Nat.reduceAdd, Nat.reduceMul, mj_tn0, mj_tn1, mj_tn2, mj_tn3]))
        · skip
          refine R_seg (φ := []) (pc' := 78) (L' := [.ref 18, .ref 2, .int (nI j), w3]) (st' := [.int 0]) (σ' := (mj_KS N, (s_X2_takes (41) 44 I).2, mj_PP c (2) (41))) 1 rfl trivial ?_
          exact R_rb rfl rfl (Or.inl rfl) (mj_leaf (by simp only [s_X2_pl, if_pos h2, if_neg h3, Bool.false_eq_true, ↓reduceIte, Nat.reduceAdd, Nat.reduceMul, mj_tn0, mj_tn1, mj_tn2, mj_tn3]) (by simp only [s_X2_pl, if_pos h2, if_neg h3, Bool.false_eq_true, ↓reduceIte, Nat.reduceAdd, Nat.reduceMul, mj_tn0, mj_tn1, mj_tn2, mj_tn3]))
      · skip
        refine R_seg (φ := []) (pc' := 22) (L' := [.ref 18, .ref 2, .int (nI j), w3]) (st' := [.ref 18]) (σ' := (mj_KS N, (s_X2_takes (41) 44 I).2, mj_PP c (2) (41))) 1 rfl trivial ?_
        refine R_ce (idx := 68) (mid := 23) (kind := 0) (N := N) (M' := mj_m_X2_takeKind) (As := [.ref 18]) (rest := []) (I := (s_X2_takes (41) 44 I).2) (P := mj_PP c (2) (41)) (I' := (s_X2_takeKind (41) ((s_X2_takes (41) 44 I).2)).2) (P' := mj_PP c (2) (41)) (v := some (.int ((s_X2_takeKind (41) ((s_X2_takes (41) 44 I).2)).1))) rfl rfl rfl mj_mc23 mj_dc23 rfl rfl rfl rfl rfl rfl (x_X2_takeKind l b base D z N (41) (by decide) ((s_X2_takes (41) 44 I).2) c (2) ) ?_
        generalize hg1 : s_X2_takeKind (41) ((s_X2_takes (41) 44 I).2) = g1
        refine R_seg (φ := []) (pc' := 27) (L' := [.ref 18, .ref 2, .int (nI j), .int (g1.1)]) (st' := [.int (g1.1)]) (σ' := (mj_KS N, g1.2, mj_PP c (2) (41))) 2 rfl trivial ?_
        refine R_br (q := (g1.1 : Int32) < 0) (t := 44) (f := 30) (rest := []) rfl (fun h4 => ?_) (fun h4 => ?_)
        · skip
          refine R_seg (φ := []) (pc' := 45) (L' := [.ref 18, .ref 2, .int (nI j), .int (g1.1)]) (st' := [.int 0]) (σ' := (mj_KS N, g1.2, mj_PP c (2) (41))) 1 rfl trivial ?_
          exact R_rb rfl rfl (Or.inl rfl) (mj_leaf (by simp only [s_X2_pl, hg1, if_neg h2, if_pos h4, Bool.false_eq_true, ↓reduceIte, Nat.reduceAdd, Nat.reduceMul, mj_tn0, mj_tn1, mj_tn2, mj_tn3]) (by simp only [s_X2_pl, hg1, if_neg h2, if_pos h4, Bool.false_eq_true, ↓reduceIte, Nat.reduceAdd, Nat.reduceMul, mj_tn0, mj_tn1, mj_tn2, mj_tn3]))
        · skip
          obtain rfl | rfl | rfl : j = 0 ∨ j = 1 ∨ j = 2 := by omega
          · skip
            refine R_seg (φ := [mj_in (nI 0) 3]) (pc' := 38) (L' := [.ref 18, .ref 2, .int (nI 0), .int (g1.1)]) (st' := [.int 3, .ref 7, .ref 18]) (σ' := (mj_KS N, g1.2, mj_PP c (2) (41))) 6 rfl ⟨mj_in_nI (by decide) (by decide), trivial⟩ ?_
            refine R_ce (idx := 54) (mid := 20) (kind := 0) (N := N) (M' := mj_m_X2_readsSeasons) (As := [.ref 18, .ref 7, .int 3]) (rest := []) (I := g1.2) (P := mj_PP c (2) (41)) (I' := (s_X2_readsSeasons (41) (7) 3 3 (g1.2)).2) (P' := mj_PP c (2) (41)) (v := some (.int ((s_X2_readsSeasons (41) (7) 3 3 (g1.2)).1))) rfl rfl rfl mj_mc20 mj_dc20 rfl rfl rfl rfl rfl rfl (x_X2_readsSeasons l b base D z N (41) (7) 3 3 (by decide) (by decide) (g1.2) c (2) (by decide) (by decide) (by decide)) ?_
            generalize hg0 : s_X2_readsSeasons (41) (7) 3 3 (g1.2) = g0
            refine R_seg (φ := []) (pc' := 41) (L' := [.ref 18, .ref 2, .int (nI 0), .int (g1.1)]) (st' := [.int (g0.1)]) (σ' := (mj_KS N, g0.2, mj_PP c (2) (41))) 0 rfl trivial ?_
            refine R_br (q := (g0.1 : Int32) = 0) (t := 44) (f := 46) (rest := []) rfl (fun h5 => ?_) (fun h5 => ?_)
            · skip
              refine R_seg (φ := []) (pc' := 45) (L' := [.ref 18, .ref 2, .int (nI 0), .int (g1.1)]) (st' := [.int 0]) (σ' := (mj_KS N, g0.2, mj_PP c (2) (41))) 1 rfl trivial ?_
              exact R_rb rfl rfl (Or.inl rfl) (mj_leaf (by simp only [s_X2_pl, hg1, hg0, if_neg h2, if_neg h4, if_pos h5, Bool.false_eq_true, ↓reduceIte, Nat.reduceAdd, Nat.reduceMul, mj_tn0, mj_tn1, mj_tn2, mj_tn3]) (by simp only [s_X2_pl, hg1, hg0, if_neg h2, if_neg h4, if_pos h5, Bool.false_eq_true, ↓reduceIte, Nat.reduceAdd, Nat.reduceMul, mj_tn0, mj_tn1, mj_tn2, mj_tn3]))
            · skip
              refine R_seg (φ := [mj_in (nI 0) 3]) (pc' := 7) (L' := [.ref 18, .ref 2, .int ((nI 0) + 1), .int (g1.1)]) (st' := []) (σ' := (mj_KS N, (mj_upI (mj_upI (g0.2) 5 (nI 0) (g1.1)) 2 1 ((nI 0) + 1)), mj_PP c (2) (41))) 12 rfl ⟨mj_in_nI (by decide) (by decide), trivial⟩ ?_
              rw [nI_1 0]
              rw [show s_X2_pl 2 41 (k + 1) 0  I = s_X2_pl 2 41 k (0 + 1)  (mj_upI (mj_upI (g0.2) 5 (nI 0) (g1.1)) 2 1 ((nI 0) + 1)) from by simp only [s_X2_pl, hg1, hg0, if_neg h2, if_neg h4, if_neg h5, Bool.false_eq_true, ↓reduceIte, Nat.reduceAdd, Nat.reduceMul, mj_tn0, mj_tn1, mj_tn2, mj_tn3]]
              exact ih (0 + 1)  (.int (g1.1)) (mj_upI (mj_upI (g0.2) 5 (nI 0) (g1.1)) 2 1 ((nI 0) + 1)) (by omega) (by omega) (by omega)
          · skip
            refine R_seg (φ := [mj_in (nI 1) 3]) (pc' := 38) (L' := [.ref 18, .ref 2, .int (nI 1), .int (g1.1)]) (st' := [.int 3, .ref 8, .ref 18]) (σ' := (mj_KS N, g1.2, mj_PP c (2) (41))) 6 rfl ⟨mj_in_nI (by decide) (by decide), trivial⟩ ?_
            refine R_ce (idx := 54) (mid := 20) (kind := 0) (N := N) (M' := mj_m_X2_readsSeasons) (As := [.ref 18, .ref 8, .int 3]) (rest := []) (I := g1.2) (P := mj_PP c (2) (41)) (I' := (s_X2_readsSeasons (41) (8) 3 3 (g1.2)).2) (P' := mj_PP c (2) (41)) (v := some (.int ((s_X2_readsSeasons (41) (8) 3 3 (g1.2)).1))) rfl rfl rfl mj_mc20 mj_dc20 rfl rfl rfl rfl rfl rfl (x_X2_readsSeasons l b base D z N (41) (8) 3 3 (by decide) (by decide) (g1.2) c (2) (by decide) (by decide) (by decide)) ?_
            generalize hg0 : s_X2_readsSeasons (41) (8) 3 3 (g1.2) = g0
            refine R_seg (φ := []) (pc' := 41) (L' := [.ref 18, .ref 2, .int (nI 1), .int (g1.1)]) (st' := [.int (g0.1)]) (σ' := (mj_KS N, g0.2, mj_PP c (2) (41))) 0 rfl trivial ?_
            refine R_br (q := (g0.1 : Int32) = 0) (t := 44) (f := 46) (rest := []) rfl (fun h5 => ?_) (fun h5 => ?_)
            · skip
              refine R_seg (φ := []) (pc' := 45) (L' := [.ref 18, .ref 2, .int (nI 1), .int (g1.1)]) (st' := [.int 0]) (σ' := (mj_KS N, g0.2, mj_PP c (2) (41))) 1 rfl trivial ?_
              exact R_rb rfl rfl (Or.inl rfl) (mj_leaf (by simp only [s_X2_pl, hg1, hg0, if_neg h2, if_neg h4, if_pos h5, Bool.false_eq_true, ↓reduceIte, Nat.reduceAdd, Nat.reduceMul, mj_tn0, mj_tn1, mj_tn2, mj_tn3]) (by simp only [s_X2_pl, hg1, hg0, if_neg h2, if_neg h4, if_pos h5, Bool.false_eq_true, ↓reduceIte, Nat.reduceAdd, Nat.reduceMul, mj_tn0, mj_tn1, mj_tn2, mj_tn3]))
            · skip
              refine R_seg (φ := [mj_in (nI 1) 3]) (pc' := 7) (L' := [.ref 18, .ref 2, .int ((nI 1) + 1), .int (g1.1)]) (st' := []) (σ' := (mj_KS N, (mj_upI (mj_upI (g0.2) 5 (nI 1) (g1.1)) 2 1 ((nI 1) + 1)), mj_PP c (2) (41))) 12 rfl ⟨mj_in_nI (by decide) (by decide), trivial⟩ ?_
              rw [nI_1 1]
              rw [show s_X2_pl 2 41 (k + 1) 1  I = s_X2_pl 2 41 k (1 + 1)  (mj_upI (mj_upI (g0.2) 5 (nI 1) (g1.1)) 2 1 ((nI 1) + 1)) from by simp only [s_X2_pl, hg1, hg0, if_neg h2, if_neg h4, if_neg h5, Bool.false_eq_true, ↓reduceIte, Nat.reduceAdd, Nat.reduceMul, mj_tn0, mj_tn1, mj_tn2, mj_tn3]]
              exact ih (1 + 1)  (.int (g1.1)) (mj_upI (mj_upI (g0.2) 5 (nI 1) (g1.1)) 2 1 ((nI 1) + 1)) (by omega) (by omega) (by omega)
          · skip
            refine R_seg (φ := [mj_in (nI 2) 3]) (pc' := 38) (L' := [.ref 18, .ref 2, .int (nI 2), .int (g1.1)]) (st' := [.int 3, .ref 9, .ref 18]) (σ' := (mj_KS N, g1.2, mj_PP c (2) (41))) 6 rfl ⟨mj_in_nI (by decide) (by decide), trivial⟩ ?_
            refine R_ce (idx := 54) (mid := 20) (kind := 0) (N := N) (M' := mj_m_X2_readsSeasons) (As := [.ref 18, .ref 9, .int 3]) (rest := []) (I := g1.2) (P := mj_PP c (2) (41)) (I' := (s_X2_readsSeasons (41) (9) 3 3 (g1.2)).2) (P' := mj_PP c (2) (41)) (v := some (.int ((s_X2_readsSeasons (41) (9) 3 3 (g1.2)).1))) rfl rfl rfl mj_mc20 mj_dc20 rfl rfl rfl rfl rfl rfl (x_X2_readsSeasons l b base D z N (41) (9) 3 3 (by decide) (by decide) (g1.2) c (2) (by decide) (by decide) (by decide)) ?_
            generalize hg0 : s_X2_readsSeasons (41) (9) 3 3 (g1.2) = g0
            refine R_seg (φ := []) (pc' := 41) (L' := [.ref 18, .ref 2, .int (nI 2), .int (g1.1)]) (st' := [.int (g0.1)]) (σ' := (mj_KS N, g0.2, mj_PP c (2) (41))) 0 rfl trivial ?_
            refine R_br (q := (g0.1 : Int32) = 0) (t := 44) (f := 46) (rest := []) rfl (fun h5 => ?_) (fun h5 => ?_)
            · skip
              refine R_seg (φ := []) (pc' := 45) (L' := [.ref 18, .ref 2, .int (nI 2), .int (g1.1)]) (st' := [.int 0]) (σ' := (mj_KS N, g0.2, mj_PP c (2) (41))) 1 rfl trivial ?_
              exact R_rb rfl rfl (Or.inl rfl) (mj_leaf (by simp only [s_X2_pl, hg1, hg0, if_neg h2, if_neg h4, if_pos h5, Bool.false_eq_true, ↓reduceIte, Nat.reduceAdd, Nat.reduceMul, mj_tn0, mj_tn1, mj_tn2, mj_tn3]) (by simp only [s_X2_pl, hg1, hg0, if_neg h2, if_neg h4, if_pos h5, Bool.false_eq_true, ↓reduceIte, Nat.reduceAdd, Nat.reduceMul, mj_tn0, mj_tn1, mj_tn2, mj_tn3]))
            · skip
              refine R_seg (φ := [mj_in (nI 2) 3]) (pc' := 7) (L' := [.ref 18, .ref 2, .int ((nI 2) + 1), .int (g1.1)]) (st' := []) (σ' := (mj_KS N, (mj_upI (mj_upI (g0.2) 5 (nI 2) (g1.1)) 2 1 ((nI 2) + 1)), mj_PP c (2) (41))) 12 rfl ⟨mj_in_nI (by decide) (by decide), trivial⟩ ?_
              rw [nI_1 2]
              rw [show s_X2_pl 2 41 (k + 1) 2  I = s_X2_pl 2 41 k (2 + 1)  (mj_upI (mj_upI (g0.2) 5 (nI 2) (g1.1)) 2 1 ((nI 2) + 1)) from by simp only [s_X2_pl, hg1, hg0, if_neg h2, if_neg h4, if_neg h5, Bool.false_eq_true, ↓reduceIte, Nat.reduceAdd, Nat.reduceMul, mj_tn0, mj_tn1, mj_tn2, mj_tn3]]
              exact ih (2 + 1)  (.int (g1.1)) (mj_upI (mj_upI (g0.2) 5 (nI 2) (g1.1)) 2 1 ((nI 2) + 1)) (by omega) (by omega) (by omega)
  · skip
    intro k
    induction k with
    | zero =>
      intro j w3 I hk hlo hj
      refine R_seg (φ := []) (pc' := 9) (L' := [.ref 18, .ref 10, .int (nI j), w3]) (st' := [.int 3, .int (nI j)]) (σ' := (mj_KS N, I, mj_PP c (10) (35))) 2 rfl trivial ?_
      refine R_br (q := (nI j : Int32) < 3) (t := 12) (f := 66) (rest := []) rfl (fun h1 => absurd h1 (show ¬ nI j < nI 3 from nI_nlt (by omega) (by omega))) (fun h1 => ?_)
      refine R_seg (φ := []) (pc' := 70) (L' := [.ref 18, .ref 10, .int (nI j), w3]) (st' := [.int (I 10 1)]) (σ' := (mj_KS N, I, mj_PP c (10) (35))) 2 rfl trivial ?_
      refine R_br (q := (0 : Int32) < I 10 1) (t := 73) (f := 77) (rest := []) rfl (fun h2 => ?_) (fun h2 => ?_)
      · skip
        refine R_seg (φ := []) (pc' := 78) (L' := [.ref 18, .ref 10, .int (nI j), w3]) (st' := [.int 1]) (σ' := (mj_KS N, I, mj_PP c (10) (35))) 2 rfl trivial ?_
        exact R_rb rfl rfl (Or.inr rfl) (mj_leaf (by simp only [s_X2_pl, if_pos h2, Bool.false_eq_true, ↓reduceIte, Nat.reduceAdd, Nat.reduceMul, mj_tn0, mj_tn1, mj_tn2, mj_tn3]) (by simp only [s_X2_pl, if_pos h2, Bool.false_eq_true, ↓reduceIte, Nat.reduceAdd, Nat.reduceMul, mj_tn0, mj_tn1, mj_tn2, mj_tn3]))
      · skip
        refine R_seg (φ := []) (pc' := 78) (L' := [.ref 18, .ref 10, .int (nI j), w3]) (st' := [.int 0]) (σ' := (mj_KS N, I, mj_PP c (10) (35))) 1 rfl trivial ?_
        exact R_rb rfl rfl (Or.inl rfl) (mj_leaf (by simp only [s_X2_pl, if_neg h2, Bool.false_eq_true, ↓reduceIte, Nat.reduceAdd, Nat.reduceMul, mj_tn0, mj_tn1, mj_tn2, mj_tn3]) (by simp only [s_X2_pl, if_neg h2, Bool.false_eq_true, ↓reduceIte, Nat.reduceAdd, Nat.reduceMul, mj_tn0, mj_tn1, mj_tn2, mj_tn3]))
    | succ k ih =>
      intro j w3 I hk hlo hj
      have hjm : j < 3 := by omega
      refine R_seg (φ := []) (pc' := 9) (L' := [.ref 18, .ref 10, .int (nI j), w3]) (st' := [.int 3, .int (nI j)]) (σ' := (mj_KS N, I, mj_PP c (10) (35))) 2 rfl trivial ?_
      refine R_br (q := (nI j : Int32) < 3) (t := 12) (f := 66) (rest := []) rfl (fun h1 => ?_) (fun h1 => absurd (show nI j < nI 3 from nI_lt hjm (by omega)) h1)
      refine R_seg (φ := []) (pc' := 15) (L' := [.ref 18, .ref 10, .int (nI j), w3]) (st' := [.int 44, .ref 18]) (σ' := (mj_KS N, I, mj_PP c (10) (35))) 2 rfl trivial ?_
      refine R_ce (idx := 35) (mid := 25) (kind := 0) (N := N) (M' := mj_m_X2_takes) (As := [.ref 18, .int 44]) (rest := []) (I := I) (P := mj_PP c (10) (35)) (I' := (s_X2_takes (35) 44 I).2) (P' := mj_PP c (10) (35)) (v := some (.int ((s_X2_takes (35) 44 I).1))) rfl rfl rfl mj_mc25 mj_dc25 rfl rfl rfl rfl rfl rfl (x_X2_takes l b base D z N (35) 44 (by decide) I c (10) ) ?_
      refine R_seg (φ := []) (pc' := 18) (L' := [.ref 18, .ref 10, .int (nI j), w3]) (st' := [.int ((s_X2_takes (35) 44 I).1)]) (σ' := (mj_KS N, (s_X2_takes (35) 44 I).2, mj_PP c (10) (35))) 0 rfl trivial ?_
      refine R_br (q := ((s_X2_takes (35) 44 I).1 : Int32) = 0) (t := 66) (f := 21) (rest := []) rfl (fun h2 => ?_) (fun h2 => ?_)
      · skip
        refine R_seg (φ := []) (pc' := 70) (L' := [.ref 18, .ref 10, .int (nI j), w3]) (st' := [.int (((s_X2_takes (35) 44 I).2) 10 1)]) (σ' := (mj_KS N, (s_X2_takes (35) 44 I).2, mj_PP c (10) (35))) 2 rfl trivial ?_
        refine R_br (q := (0 : Int32) < ((s_X2_takes (35) 44 I).2) 10 1) (t := 73) (f := 77) (rest := []) rfl (fun h3 => ?_) (fun h3 => ?_)
        · skip
          refine R_seg (φ := []) (pc' := 78) (L' := [.ref 18, .ref 10, .int (nI j), w3]) (st' := [.int 1]) (σ' := (mj_KS N, (s_X2_takes (35) 44 I).2, mj_PP c (10) (35))) 2 rfl trivial ?_
          exact R_rb rfl rfl (Or.inr rfl) (mj_leaf (by simp only [s_X2_pl, if_pos h2, if_pos h3, Bool.false_eq_true, ↓reduceIte, Nat.reduceAdd, Nat.reduceMul, mj_tn0, mj_tn1, mj_tn2, mj_tn3]) (by simp only [s_X2_pl, if_pos h2, if_pos h3, Bool.false_eq_true, ↓reduceIte, Nat.reduceAdd, Nat.reduceMul, mj_tn0, mj_tn1, mj_tn2, mj_tn3]))
        · skip
          refine R_seg (φ := []) (pc' := 78) (L' := [.ref 18, .ref 10, .int (nI j), w3]) (st' := [.int 0]) (σ' := (mj_KS N, (s_X2_takes (35) 44 I).2, mj_PP c (10) (35))) 1 rfl trivial ?_
          exact R_rb rfl rfl (Or.inl rfl) (mj_leaf (by simp only [s_X2_pl, if_pos h2, if_neg h3, Bool.false_eq_true, ↓reduceIte, Nat.reduceAdd, Nat.reduceMul, mj_tn0, mj_tn1, mj_tn2, mj_tn3]) (by simp only [s_X2_pl, if_pos h2, if_neg h3, Bool.false_eq_true, ↓reduceIte, Nat.reduceAdd, Nat.reduceMul, mj_tn0, mj_tn1, mj_tn2, mj_tn3]))
      · skip
        refine R_seg (φ := []) (pc' := 22) (L' := [.ref 18, .ref 10, .int (nI j), w3]) (st' := [.ref 18]) (σ' := (mj_KS N, (s_X2_takes (35) 44 I).2, mj_PP c (10) (35))) 1 rfl trivial ?_
        refine R_ce (idx := 68) (mid := 23) (kind := 0) (N := N) (M' := mj_m_X2_takeKind) (As := [.ref 18]) (rest := []) (I := (s_X2_takes (35) 44 I).2) (P := mj_PP c (10) (35)) (I' := (s_X2_takeKind (35) ((s_X2_takes (35) 44 I).2)).2) (P' := mj_PP c (10) (35)) (v := some (.int ((s_X2_takeKind (35) ((s_X2_takes (35) 44 I).2)).1))) rfl rfl rfl mj_mc23 mj_dc23 rfl rfl rfl rfl rfl rfl (x_X2_takeKind l b base D z N (35) (by decide) ((s_X2_takes (35) 44 I).2) c (10) ) ?_
        generalize hg1 : s_X2_takeKind (35) ((s_X2_takes (35) 44 I).2) = g1
        refine R_seg (φ := []) (pc' := 27) (L' := [.ref 18, .ref 10, .int (nI j), .int (g1.1)]) (st' := [.int (g1.1)]) (σ' := (mj_KS N, g1.2, mj_PP c (10) (35))) 2 rfl trivial ?_
        refine R_br (q := (g1.1 : Int32) < 0) (t := 44) (f := 30) (rest := []) rfl (fun h4 => ?_) (fun h4 => ?_)
        · skip
          refine R_seg (φ := []) (pc' := 45) (L' := [.ref 18, .ref 10, .int (nI j), .int (g1.1)]) (st' := [.int 0]) (σ' := (mj_KS N, g1.2, mj_PP c (10) (35))) 1 rfl trivial ?_
          exact R_rb rfl rfl (Or.inl rfl) (mj_leaf (by simp only [s_X2_pl, hg1, if_neg h2, if_pos h4, Bool.false_eq_true, ↓reduceIte, Nat.reduceAdd, Nat.reduceMul, mj_tn0, mj_tn1, mj_tn2, mj_tn3]) (by simp only [s_X2_pl, hg1, if_neg h2, if_pos h4, Bool.false_eq_true, ↓reduceIte, Nat.reduceAdd, Nat.reduceMul, mj_tn0, mj_tn1, mj_tn2, mj_tn3]))
        · skip
          obtain rfl | rfl | rfl : j = 0 ∨ j = 1 ∨ j = 2 := by omega
          · skip
            refine R_seg (φ := [mj_in (nI 0) 3]) (pc' := 38) (L' := [.ref 18, .ref 10, .int (nI 0), .int (g1.1)]) (st' := [.int 3, .ref 15, .ref 18]) (σ' := (mj_KS N, g1.2, mj_PP c (10) (35))) 6 rfl ⟨mj_in_nI (by decide) (by decide), trivial⟩ ?_
            refine R_ce (idx := 54) (mid := 20) (kind := 0) (N := N) (M' := mj_m_X2_readsSeasons) (As := [.ref 18, .ref 15, .int 3]) (rest := []) (I := g1.2) (P := mj_PP c (10) (35)) (I' := (s_X2_readsSeasons (35) (15) 3 3 (g1.2)).2) (P' := mj_PP c (10) (35)) (v := some (.int ((s_X2_readsSeasons (35) (15) 3 3 (g1.2)).1))) rfl rfl rfl mj_mc20 mj_dc20 rfl rfl rfl rfl rfl rfl (x_X2_readsSeasons l b base D z N (35) (15) 3 3 (by decide) (by decide) (g1.2) c (10) (by decide) (by decide) (by decide)) ?_
            generalize hg0 : s_X2_readsSeasons (35) (15) 3 3 (g1.2) = g0
            refine R_seg (φ := []) (pc' := 41) (L' := [.ref 18, .ref 10, .int (nI 0), .int (g1.1)]) (st' := [.int (g0.1)]) (σ' := (mj_KS N, g0.2, mj_PP c (10) (35))) 0 rfl trivial ?_
            refine R_br (q := (g0.1 : Int32) = 0) (t := 44) (f := 46) (rest := []) rfl (fun h5 => ?_) (fun h5 => ?_)
            · skip
              refine R_seg (φ := []) (pc' := 45) (L' := [.ref 18, .ref 10, .int (nI 0), .int (g1.1)]) (st' := [.int 0]) (σ' := (mj_KS N, g0.2, mj_PP c (10) (35))) 1 rfl trivial ?_
              exact R_rb rfl rfl (Or.inl rfl) (mj_leaf (by simp only [s_X2_pl, hg1, hg0, if_neg h2, if_neg h4, if_pos h5, Bool.false_eq_true, ↓reduceIte, Nat.reduceAdd, Nat.reduceMul, mj_tn0, mj_tn1, mj_tn2, mj_tn3]) (by simp only [s_X2_pl, hg1, hg0, if_neg h2, if_neg h4, if_pos h5, Bool.false_eq_true, ↓reduceIte, Nat.reduceAdd, Nat.reduceMul, mj_tn0, mj_tn1, mj_tn2, mj_tn3]))
            · skip
              refine R_seg (φ := [mj_in (nI 0) 3]) (pc' := 7) (L' := [.ref 18, .ref 10, .int ((nI 0) + 1), .int (g1.1)]) (st' := []) (σ' := (mj_KS N, (mj_upI (mj_upI (g0.2) 13 (nI 0) (g1.1)) 10 1 ((nI 0) + 1)), mj_PP c (10) (35))) 12 rfl ⟨mj_in_nI (by decide) (by decide), trivial⟩ ?_
              rw [nI_1 0]
              rw [show s_X2_pl 10 35 (k + 1) 0  I = s_X2_pl 10 35 k (0 + 1)  (mj_upI (mj_upI (g0.2) 13 (nI 0) (g1.1)) 10 1 ((nI 0) + 1)) from by simp only [s_X2_pl, hg1, hg0, if_neg h2, if_neg h4, if_neg h5, Bool.false_eq_true, ↓reduceIte, Nat.reduceAdd, Nat.reduceMul, mj_tn0, mj_tn1, mj_tn2, mj_tn3]]
              exact ih (0 + 1)  (.int (g1.1)) (mj_upI (mj_upI (g0.2) 13 (nI 0) (g1.1)) 10 1 ((nI 0) + 1)) (by omega) (by omega) (by omega)
          · skip
            refine R_seg (φ := [mj_in (nI 1) 3]) (pc' := 38) (L' := [.ref 18, .ref 10, .int (nI 1), .int (g1.1)]) (st' := [.int 3, .ref 16, .ref 18]) (σ' := (mj_KS N, g1.2, mj_PP c (10) (35))) 6 rfl ⟨mj_in_nI (by decide) (by decide), trivial⟩ ?_
            refine R_ce (idx := 54) (mid := 20) (kind := 0) (N := N) (M' := mj_m_X2_readsSeasons) (As := [.ref 18, .ref 16, .int 3]) (rest := []) (I := g1.2) (P := mj_PP c (10) (35)) (I' := (s_X2_readsSeasons (35) (16) 3 3 (g1.2)).2) (P' := mj_PP c (10) (35)) (v := some (.int ((s_X2_readsSeasons (35) (16) 3 3 (g1.2)).1))) rfl rfl rfl mj_mc20 mj_dc20 rfl rfl rfl rfl rfl rfl (x_X2_readsSeasons l b base D z N (35) (16) 3 3 (by decide) (by decide) (g1.2) c (10) (by decide) (by decide) (by decide)) ?_
            generalize hg0 : s_X2_readsSeasons (35) (16) 3 3 (g1.2) = g0
            refine R_seg (φ := []) (pc' := 41) (L' := [.ref 18, .ref 10, .int (nI 1), .int (g1.1)]) (st' := [.int (g0.1)]) (σ' := (mj_KS N, g0.2, mj_PP c (10) (35))) 0 rfl trivial ?_
            refine R_br (q := (g0.1 : Int32) = 0) (t := 44) (f := 46) (rest := []) rfl (fun h5 => ?_) (fun h5 => ?_)
            · skip
              refine R_seg (φ := []) (pc' := 45) (L' := [.ref 18, .ref 10, .int (nI 1), .int (g1.1)]) (st' := [.int 0]) (σ' := (mj_KS N, g0.2, mj_PP c (10) (35))) 1 rfl trivial ?_
              exact R_rb rfl rfl (Or.inl rfl) (mj_leaf (by simp only [s_X2_pl, hg1, hg0, if_neg h2, if_neg h4, if_pos h5, Bool.false_eq_true, ↓reduceIte, Nat.reduceAdd, Nat.reduceMul, mj_tn0, mj_tn1, mj_tn2, mj_tn3]) (by simp only [s_X2_pl, hg1, hg0, if_neg h2, if_neg h4, if_pos h5, Bool.false_eq_true, ↓reduceIte, Nat.reduceAdd, Nat.reduceMul, mj_tn0, mj_tn1, mj_tn2, mj_tn3]))
            · skip
              refine R_seg (φ := [mj_in (nI 1) 3]) (pc' := 7) (L' := [.ref 18, .ref 10, .int ((nI 1) + 1), .int (g1.1)]) (st' := []) (σ' := (mj_KS N, (mj_upI (mj_upI (g0.2) 13 (nI 1) (g1.1)) 10 1 ((nI 1) + 1)), mj_PP c (10) (35))) 12 rfl ⟨mj_in_nI (by decide) (by decide), trivial⟩ ?_
              rw [nI_1 1]
              rw [show s_X2_pl 10 35 (k + 1) 1  I = s_X2_pl 10 35 k (1 + 1)  (mj_upI (mj_upI (g0.2) 13 (nI 1) (g1.1)) 10 1 ((nI 1) + 1)) from by simp only [s_X2_pl, hg1, hg0, if_neg h2, if_neg h4, if_neg h5, Bool.false_eq_true, ↓reduceIte, Nat.reduceAdd, Nat.reduceMul, mj_tn0, mj_tn1, mj_tn2, mj_tn3]]
              exact ih (1 + 1)  (.int (g1.1)) (mj_upI (mj_upI (g0.2) 13 (nI 1) (g1.1)) 10 1 ((nI 1) + 1)) (by omega) (by omega) (by omega)
          · skip
            refine R_seg (φ := [mj_in (nI 2) 3]) (pc' := 38) (L' := [.ref 18, .ref 10, .int (nI 2), .int (g1.1)]) (st' := [.int 3, .ref 17, .ref 18]) (σ' := (mj_KS N, g1.2, mj_PP c (10) (35))) 6 rfl ⟨mj_in_nI (by decide) (by decide), trivial⟩ ?_
            refine R_ce (idx := 54) (mid := 20) (kind := 0) (N := N) (M' := mj_m_X2_readsSeasons) (As := [.ref 18, .ref 17, .int 3]) (rest := []) (I := g1.2) (P := mj_PP c (10) (35)) (I' := (s_X2_readsSeasons (35) (17) 3 3 (g1.2)).2) (P' := mj_PP c (10) (35)) (v := some (.int ((s_X2_readsSeasons (35) (17) 3 3 (g1.2)).1))) rfl rfl rfl mj_mc20 mj_dc20 rfl rfl rfl rfl rfl rfl (x_X2_readsSeasons l b base D z N (35) (17) 3 3 (by decide) (by decide) (g1.2) c (10) (by decide) (by decide) (by decide)) ?_
            generalize hg0 : s_X2_readsSeasons (35) (17) 3 3 (g1.2) = g0
            refine R_seg (φ := []) (pc' := 41) (L' := [.ref 18, .ref 10, .int (nI 2), .int (g1.1)]) (st' := [.int (g0.1)]) (σ' := (mj_KS N, g0.2, mj_PP c (10) (35))) 0 rfl trivial ?_
            refine R_br (q := (g0.1 : Int32) = 0) (t := 44) (f := 46) (rest := []) rfl (fun h5 => ?_) (fun h5 => ?_)
            · skip
              refine R_seg (φ := []) (pc' := 45) (L' := [.ref 18, .ref 10, .int (nI 2), .int (g1.1)]) (st' := [.int 0]) (σ' := (mj_KS N, g0.2, mj_PP c (10) (35))) 1 rfl trivial ?_
              exact R_rb rfl rfl (Or.inl rfl) (mj_leaf (by simp only [s_X2_pl, hg1, hg0, if_neg h2, if_neg h4, if_pos h5, Bool.false_eq_true, ↓reduceIte, Nat.reduceAdd, Nat.reduceMul, mj_tn0, mj_tn1, mj_tn2, mj_tn3]) (by simp only [s_X2_pl, hg1, hg0, if_neg h2, if_neg h4, if_pos h5, Bool.false_eq_true, ↓reduceIte, Nat.reduceAdd, Nat.reduceMul, mj_tn0, mj_tn1, mj_tn2, mj_tn3]))
            · skip
              refine R_seg (φ := [mj_in (nI 2) 3]) (pc' := 7) (L' := [.ref 18, .ref 10, .int ((nI 2) + 1), .int (g1.1)]) (st' := []) (σ' := (mj_KS N, (mj_upI (mj_upI (g0.2) 13 (nI 2) (g1.1)) 10 1 ((nI 2) + 1)), mj_PP c (10) (35))) 12 rfl ⟨mj_in_nI (by decide) (by decide), trivial⟩ ?_
              rw [nI_1 2]
              rw [show s_X2_pl 10 35 (k + 1) 2  I = s_X2_pl 10 35 k (2 + 1)  (mj_upI (mj_upI (g0.2) 13 (nI 2) (g1.1)) 10 1 ((nI 2) + 1)) from by simp only [s_X2_pl, hg1, hg0, if_neg h2, if_neg h4, if_neg h5, Bool.false_eq_true, ↓reduceIte, Nat.reduceAdd, Nat.reduceMul, mj_tn0, mj_tn1, mj_tn2, mj_tn3]]
              exact ih (2 + 1)  (.int (g1.1)) (mj_upI (mj_upI (g0.2) 13 (nI 2) (g1.1)) 10 1 ((nI 2) + 1)) (by omega) (by omega) (by omega)
  · skip
    intro k
    induction k with
    | zero =>
      intro j w3 I hk hlo hj
      refine R_seg (φ := []) (pc' := 9) (L' := [.ref 18, .ref 10, .int (nI j), w3]) (st' := [.int 3, .int (nI j)]) (σ' := (mj_KS N, I, mj_PP c (10) (37))) 2 rfl trivial ?_
      refine R_br (q := (nI j : Int32) < 3) (t := 12) (f := 66) (rest := []) rfl (fun h1 => absurd h1 (show ¬ nI j < nI 3 from nI_nlt (by omega) (by omega))) (fun h1 => ?_)
      refine R_seg (φ := []) (pc' := 70) (L' := [.ref 18, .ref 10, .int (nI j), w3]) (st' := [.int (I 10 1)]) (σ' := (mj_KS N, I, mj_PP c (10) (37))) 2 rfl trivial ?_
      refine R_br (q := (0 : Int32) < I 10 1) (t := 73) (f := 77) (rest := []) rfl (fun h2 => ?_) (fun h2 => ?_)
      · skip
        refine R_seg (φ := []) (pc' := 78) (L' := [.ref 18, .ref 10, .int (nI j), w3]) (st' := [.int 1]) (σ' := (mj_KS N, I, mj_PP c (10) (37))) 2 rfl trivial ?_
        exact R_rb rfl rfl (Or.inr rfl) (mj_leaf (by simp only [s_X2_pl, if_pos h2, Bool.false_eq_true, ↓reduceIte, Nat.reduceAdd, Nat.reduceMul, mj_tn0, mj_tn1, mj_tn2, mj_tn3]) (by simp only [s_X2_pl, if_pos h2, Bool.false_eq_true, ↓reduceIte, Nat.reduceAdd, Nat.reduceMul, mj_tn0, mj_tn1, mj_tn2, mj_tn3]))
      · skip
        refine R_seg (φ := []) (pc' := 78) (L' := [.ref 18, .ref 10, .int (nI j), w3]) (st' := [.int 0]) (σ' := (mj_KS N, I, mj_PP c (10) (37))) 1 rfl trivial ?_
        exact R_rb rfl rfl (Or.inl rfl) (mj_leaf (by simp only [s_X2_pl, if_neg h2, Bool.false_eq_true, ↓reduceIte, Nat.reduceAdd, Nat.reduceMul, mj_tn0, mj_tn1, mj_tn2, mj_tn3]) (by simp only [s_X2_pl, if_neg h2, Bool.false_eq_true, ↓reduceIte, Nat.reduceAdd, Nat.reduceMul, mj_tn0, mj_tn1, mj_tn2, mj_tn3]))
    | succ k ih =>
      intro j w3 I hk hlo hj
      have hjm : j < 3 := by omega
      refine R_seg (φ := []) (pc' := 9) (L' := [.ref 18, .ref 10, .int (nI j), w3]) (st' := [.int 3, .int (nI j)]) (σ' := (mj_KS N, I, mj_PP c (10) (37))) 2 rfl trivial ?_
      refine R_br (q := (nI j : Int32) < 3) (t := 12) (f := 66) (rest := []) rfl (fun h1 => ?_) (fun h1 => absurd (show nI j < nI 3 from nI_lt hjm (by omega)) h1)
      refine R_seg (φ := []) (pc' := 15) (L' := [.ref 18, .ref 10, .int (nI j), w3]) (st' := [.int 44, .ref 18]) (σ' := (mj_KS N, I, mj_PP c (10) (37))) 2 rfl trivial ?_
      refine R_ce (idx := 35) (mid := 25) (kind := 0) (N := N) (M' := mj_m_X2_takes) (As := [.ref 18, .int 44]) (rest := []) (I := I) (P := mj_PP c (10) (37)) (I' := (s_X2_takes (37) 44 I).2) (P' := mj_PP c (10) (37)) (v := some (.int ((s_X2_takes (37) 44 I).1))) rfl rfl rfl mj_mc25 mj_dc25 rfl rfl rfl rfl rfl rfl (x_X2_takes l b base D z N (37) 44 (by decide) I c (10) ) ?_
      refine R_seg (φ := []) (pc' := 18) (L' := [.ref 18, .ref 10, .int (nI j), w3]) (st' := [.int ((s_X2_takes (37) 44 I).1)]) (σ' := (mj_KS N, (s_X2_takes (37) 44 I).2, mj_PP c (10) (37))) 0 rfl trivial ?_
      refine R_br (q := ((s_X2_takes (37) 44 I).1 : Int32) = 0) (t := 66) (f := 21) (rest := []) rfl (fun h2 => ?_) (fun h2 => ?_)
      · skip
        refine R_seg (φ := []) (pc' := 70) (L' := [.ref 18, .ref 10, .int (nI j), w3]) (st' := [.int (((s_X2_takes (37) 44 I).2) 10 1)]) (σ' := (mj_KS N, (s_X2_takes (37) 44 I).2, mj_PP c (10) (37))) 2 rfl trivial ?_
        refine R_br (q := (0 : Int32) < ((s_X2_takes (37) 44 I).2) 10 1) (t := 73) (f := 77) (rest := []) rfl (fun h3 => ?_) (fun h3 => ?_)
        · skip
          refine R_seg (φ := []) (pc' := 78) (L' := [.ref 18, .ref 10, .int (nI j), w3]) (st' := [.int 1]) (σ' := (mj_KS N, (s_X2_takes (37) 44 I).2, mj_PP c (10) (37))) 2 rfl trivial ?_
          exact R_rb rfl rfl (Or.inr rfl) (mj_leaf (by simp only [s_X2_pl, if_pos h2, if_pos h3, Bool.false_eq_true, ↓reduceIte, Nat.reduceAdd, Nat.reduceMul, mj_tn0, mj_tn1, mj_tn2, mj_tn3]) (by simp only [s_X2_pl, if_pos h2, if_pos h3, Bool.false_eq_true, ↓reduceIte, Nat.reduceAdd, Nat.reduceMul, mj_tn0, mj_tn1, mj_tn2, mj_tn3]))
        · skip
          refine R_seg (φ := []) (pc' := 78) (L' := [.ref 18, .ref 10, .int (nI j), w3]) (st' := [.int 0]) (σ' := (mj_KS N, (s_X2_takes (37) 44 I).2, mj_PP c (10) (37))) 1 rfl trivial ?_
          exact R_rb rfl rfl (Or.inl rfl) (mj_leaf (by simp only [s_X2_pl, if_pos h2, if_neg h3, Bool.false_eq_true, ↓reduceIte, Nat.reduceAdd, Nat.reduceMul, mj_tn0, mj_tn1, mj_tn2, mj_tn3]) (by simp only [s_X2_pl, if_pos h2, if_neg h3, Bool.false_eq_true, ↓reduceIte, Nat.reduceAdd, Nat.reduceMul, mj_tn0, mj_tn1, mj_tn2, mj_tn3]))
      · skip
        refine R_seg (φ := []) (pc' := 22) (L' := [.ref 18, .ref 10, .int (nI j), w3]) (st' := [.ref 18]) (σ' := (mj_KS N, (s_X2_takes (37) 44 I).2, mj_PP c (10) (37))) 1 rfl trivial ?_
        refine R_ce (idx := 68) (mid := 23) (kind := 0) (N := N) (M' := mj_m_X2_takeKind) (As := [.ref 18]) (rest := []) (I := (s_X2_takes (37) 44 I).2) (P := mj_PP c (10) (37)) (I' := (s_X2_takeKind (37) ((s_X2_takes (37) 44 I).2)).2) (P' := mj_PP c (10) (37)) (v := some (.int ((s_X2_takeKind (37) ((s_X2_takes (37) 44 I).2)).1))) rfl rfl rfl mj_mc23 mj_dc23 rfl rfl rfl rfl rfl rfl (x_X2_takeKind l b base D z N (37) (by decide) ((s_X2_takes (37) 44 I).2) c (10) ) ?_
        generalize hg1 : s_X2_takeKind (37) ((s_X2_takes (37) 44 I).2) = g1
        refine R_seg (φ := []) (pc' := 27) (L' := [.ref 18, .ref 10, .int (nI j), .int (g1.1)]) (st' := [.int (g1.1)]) (σ' := (mj_KS N, g1.2, mj_PP c (10) (37))) 2 rfl trivial ?_
        refine R_br (q := (g1.1 : Int32) < 0) (t := 44) (f := 30) (rest := []) rfl (fun h4 => ?_) (fun h4 => ?_)
        · skip
          refine R_seg (φ := []) (pc' := 45) (L' := [.ref 18, .ref 10, .int (nI j), .int (g1.1)]) (st' := [.int 0]) (σ' := (mj_KS N, g1.2, mj_PP c (10) (37))) 1 rfl trivial ?_
          exact R_rb rfl rfl (Or.inl rfl) (mj_leaf (by simp only [s_X2_pl, hg1, if_neg h2, if_pos h4, Bool.false_eq_true, ↓reduceIte, Nat.reduceAdd, Nat.reduceMul, mj_tn0, mj_tn1, mj_tn2, mj_tn3]) (by simp only [s_X2_pl, hg1, if_neg h2, if_pos h4, Bool.false_eq_true, ↓reduceIte, Nat.reduceAdd, Nat.reduceMul, mj_tn0, mj_tn1, mj_tn2, mj_tn3]))
        · skip
          obtain rfl | rfl | rfl : j = 0 ∨ j = 1 ∨ j = 2 := by omega
          · skip
            refine R_seg (φ := [mj_in (nI 0) 3]) (pc' := 38) (L' := [.ref 18, .ref 10, .int (nI 0), .int (g1.1)]) (st' := [.int 3, .ref 15, .ref 18]) (σ' := (mj_KS N, g1.2, mj_PP c (10) (37))) 6 rfl ⟨mj_in_nI (by decide) (by decide), trivial⟩ ?_
            refine R_ce (idx := 54) (mid := 20) (kind := 0) (N := N) (M' := mj_m_X2_readsSeasons) (As := [.ref 18, .ref 15, .int 3]) (rest := []) (I := g1.2) (P := mj_PP c (10) (37)) (I' := (s_X2_readsSeasons (37) (15) 3 3 (g1.2)).2) (P' := mj_PP c (10) (37)) (v := some (.int ((s_X2_readsSeasons (37) (15) 3 3 (g1.2)).1))) rfl rfl rfl mj_mc20 mj_dc20 rfl rfl rfl rfl rfl rfl (x_X2_readsSeasons l b base D z N (37) (15) 3 3 (by decide) (by decide) (g1.2) c (10) (by decide) (by decide) (by decide)) ?_
            generalize hg0 : s_X2_readsSeasons (37) (15) 3 3 (g1.2) = g0
            refine R_seg (φ := []) (pc' := 41) (L' := [.ref 18, .ref 10, .int (nI 0), .int (g1.1)]) (st' := [.int (g0.1)]) (σ' := (mj_KS N, g0.2, mj_PP c (10) (37))) 0 rfl trivial ?_
            refine R_br (q := (g0.1 : Int32) = 0) (t := 44) (f := 46) (rest := []) rfl (fun h5 => ?_) (fun h5 => ?_)
            · skip
              refine R_seg (φ := []) (pc' := 45) (L' := [.ref 18, .ref 10, .int (nI 0), .int (g1.1)]) (st' := [.int 0]) (σ' := (mj_KS N, g0.2, mj_PP c (10) (37))) 1 rfl trivial ?_
              exact R_rb rfl rfl (Or.inl rfl) (mj_leaf (by simp only [s_X2_pl, hg1, hg0, if_neg h2, if_neg h4, if_pos h5, Bool.false_eq_true, ↓reduceIte, Nat.reduceAdd, Nat.reduceMul, mj_tn0, mj_tn1, mj_tn2, mj_tn3]) (by simp only [s_X2_pl, hg1, hg0, if_neg h2, if_neg h4, if_pos h5, Bool.false_eq_true, ↓reduceIte, Nat.reduceAdd, Nat.reduceMul, mj_tn0, mj_tn1, mj_tn2, mj_tn3]))
            · skip
              refine R_seg (φ := [mj_in (nI 0) 3]) (pc' := 7) (L' := [.ref 18, .ref 10, .int ((nI 0) + 1), .int (g1.1)]) (st' := []) (σ' := (mj_KS N, (mj_upI (mj_upI (g0.2) 13 (nI 0) (g1.1)) 10 1 ((nI 0) + 1)), mj_PP c (10) (37))) 12 rfl ⟨mj_in_nI (by decide) (by decide), trivial⟩ ?_
              rw [nI_1 0]
              rw [show s_X2_pl 10 37 (k + 1) 0  I = s_X2_pl 10 37 k (0 + 1)  (mj_upI (mj_upI (g0.2) 13 (nI 0) (g1.1)) 10 1 ((nI 0) + 1)) from by simp only [s_X2_pl, hg1, hg0, if_neg h2, if_neg h4, if_neg h5, Bool.false_eq_true, ↓reduceIte, Nat.reduceAdd, Nat.reduceMul, mj_tn0, mj_tn1, mj_tn2, mj_tn3]]
              exact ih (0 + 1)  (.int (g1.1)) (mj_upI (mj_upI (g0.2) 13 (nI 0) (g1.1)) 10 1 ((nI 0) + 1)) (by omega) (by omega) (by omega)
          · skip
            refine R_seg (φ := [mj_in (nI 1) 3]) (pc' := 38) (L' := [.ref 18, .ref 10, .int (nI 1), .int (g1.1)]) (st' := [.int 3, .ref 16, .ref 18]) (σ' := (mj_KS N, g1.2, mj_PP c (10) (37))) 6 rfl ⟨mj_in_nI (by decide) (by decide), trivial⟩ ?_
            refine R_ce (idx := 54) (mid := 20) (kind := 0) (N := N) (M' := mj_m_X2_readsSeasons) (As := [.ref 18, .ref 16, .int 3]) (rest := []) (I := g1.2) (P := mj_PP c (10) (37)) (I' := (s_X2_readsSeasons (37) (16) 3 3 (g1.2)).2) (P' := mj_PP c (10) (37)) (v := some (.int ((s_X2_readsSeasons (37) (16) 3 3 (g1.2)).1))) rfl rfl rfl mj_mc20 mj_dc20 rfl rfl rfl rfl rfl rfl (x_X2_readsSeasons l b base D z N (37) (16) 3 3 (by decide) (by decide) (g1.2) c (10) (by decide) (by decide) (by decide)) ?_
            generalize hg0 : s_X2_readsSeasons (37) (16) 3 3 (g1.2) = g0
            refine R_seg (φ := []) (pc' := 41) (L' := [.ref 18, .ref 10, .int (nI 1), .int (g1.1)]) (st' := [.int (g0.1)]) (σ' := (mj_KS N, g0.2, mj_PP c (10) (37))) 0 rfl trivial ?_
            refine R_br (q := (g0.1 : Int32) = 0) (t := 44) (f := 46) (rest := []) rfl (fun h5 => ?_) (fun h5 => ?_)
            · skip
              refine R_seg (φ := []) (pc' := 45) (L' := [.ref 18, .ref 10, .int (nI 1), .int (g1.1)]) (st' := [.int 0]) (σ' := (mj_KS N, g0.2, mj_PP c (10) (37))) 1 rfl trivial ?_
              exact R_rb rfl rfl (Or.inl rfl) (mj_leaf (by simp only [s_X2_pl, hg1, hg0, if_neg h2, if_neg h4, if_pos h5, Bool.false_eq_true, ↓reduceIte, Nat.reduceAdd, Nat.reduceMul, mj_tn0, mj_tn1, mj_tn2, mj_tn3]) (by simp only [s_X2_pl, hg1, hg0, if_neg h2, if_neg h4, if_pos h5, Bool.false_eq_true, ↓reduceIte, Nat.reduceAdd, Nat.reduceMul, mj_tn0, mj_tn1, mj_tn2, mj_tn3]))
            · skip
              refine R_seg (φ := [mj_in (nI 1) 3]) (pc' := 7) (L' := [.ref 18, .ref 10, .int ((nI 1) + 1), .int (g1.1)]) (st' := []) (σ' := (mj_KS N, (mj_upI (mj_upI (g0.2) 13 (nI 1) (g1.1)) 10 1 ((nI 1) + 1)), mj_PP c (10) (37))) 12 rfl ⟨mj_in_nI (by decide) (by decide), trivial⟩ ?_
              rw [nI_1 1]
              rw [show s_X2_pl 10 37 (k + 1) 1  I = s_X2_pl 10 37 k (1 + 1)  (mj_upI (mj_upI (g0.2) 13 (nI 1) (g1.1)) 10 1 ((nI 1) + 1)) from by simp only [s_X2_pl, hg1, hg0, if_neg h2, if_neg h4, if_neg h5, Bool.false_eq_true, ↓reduceIte, Nat.reduceAdd, Nat.reduceMul, mj_tn0, mj_tn1, mj_tn2, mj_tn3]]
              exact ih (1 + 1)  (.int (g1.1)) (mj_upI (mj_upI (g0.2) 13 (nI 1) (g1.1)) 10 1 ((nI 1) + 1)) (by omega) (by omega) (by omega)
          · skip
            refine R_seg (φ := [mj_in (nI 2) 3]) (pc' := 38) (L' := [.ref 18, .ref 10, .int (nI 2), .int (g1.1)]) (st' := [.int 3, .ref 17, .ref 18]) (σ' := (mj_KS N, g1.2, mj_PP c (10) (37))) 6 rfl ⟨mj_in_nI (by decide) (by decide), trivial⟩ ?_
            refine R_ce (idx := 54) (mid := 20) (kind := 0) (N := N) (M' := mj_m_X2_readsSeasons) (As := [.ref 18, .ref 17, .int 3]) (rest := []) (I := g1.2) (P := mj_PP c (10) (37)) (I' := (s_X2_readsSeasons (37) (17) 3 3 (g1.2)).2) (P' := mj_PP c (10) (37)) (v := some (.int ((s_X2_readsSeasons (37) (17) 3 3 (g1.2)).1))) rfl rfl rfl mj_mc20 mj_dc20 rfl rfl rfl rfl rfl rfl (x_X2_readsSeasons l b base D z N (37) (17) 3 3 (by decide) (by decide) (g1.2) c (10) (by decide) (by decide) (by decide)) ?_
            generalize hg0 : s_X2_readsSeasons (37) (17) 3 3 (g1.2) = g0
            refine R_seg (φ := []) (pc' := 41) (L' := [.ref 18, .ref 10, .int (nI 2), .int (g1.1)]) (st' := [.int (g0.1)]) (σ' := (mj_KS N, g0.2, mj_PP c (10) (37))) 0 rfl trivial ?_
            refine R_br (q := (g0.1 : Int32) = 0) (t := 44) (f := 46) (rest := []) rfl (fun h5 => ?_) (fun h5 => ?_)
            · skip
              refine R_seg (φ := []) (pc' := 45) (L' := [.ref 18, .ref 10, .int (nI 2), .int (g1.1)]) (st' := [.int 0]) (σ' := (mj_KS N, g0.2, mj_PP c (10) (37))) 1 rfl trivial ?_
              exact R_rb rfl rfl (Or.inl rfl) (mj_leaf (by simp only [s_X2_pl, hg1, hg0, if_neg h2, if_neg h4, if_pos h5, Bool.false_eq_true, ↓reduceIte, Nat.reduceAdd, Nat.reduceMul, mj_tn0, mj_tn1, mj_tn2, mj_tn3]) (by simp only [s_X2_pl, hg1, hg0, if_neg h2, if_neg h4, if_pos h5, Bool.false_eq_true, ↓reduceIte, Nat.reduceAdd, Nat.reduceMul, mj_tn0, mj_tn1, mj_tn2, mj_tn3]))
            · skip
              refine R_seg (φ := [mj_in (nI 2) 3]) (pc' := 7) (L' := [.ref 18, .ref 10, .int ((nI 2) + 1), .int (g1.1)]) (st' := []) (σ' := (mj_KS N, (mj_upI (mj_upI (g0.2) 13 (nI 2) (g1.1)) 10 1 ((nI 2) + 1)), mj_PP c (10) (37))) 12 rfl ⟨mj_in_nI (by decide) (by decide), trivial⟩ ?_
              rw [nI_1 2]
              rw [show s_X2_pl 10 37 (k + 1) 2  I = s_X2_pl 10 37 k (2 + 1)  (mj_upI (mj_upI (g0.2) 13 (nI 2) (g1.1)) 10 1 ((nI 2) + 1)) from by simp only [s_X2_pl, hg1, hg0, if_neg h2, if_neg h4, if_neg h5, Bool.false_eq_true, ↓reduceIte, Nat.reduceAdd, Nat.reduceMul, mj_tn0, mj_tn1, mj_tn2, mj_tn3]]
              exact ih (2 + 1)  (.int (g1.1)) (mj_upI (mj_upI (g0.2) 13 (nI 2) (g1.1)) 10 1 ((nI 2) + 1)) (by omega) (by omega) (by omega)
  · skip
    intro k
    induction k with
    | zero =>
      intro j w3 I hk hlo hj
      refine R_seg (φ := []) (pc' := 9) (L' := [.ref 18, .ref 10, .int (nI j), w3]) (st' := [.int 3, .int (nI j)]) (σ' := (mj_KS N, I, mj_PP c (10) (39))) 2 rfl trivial ?_
      refine R_br (q := (nI j : Int32) < 3) (t := 12) (f := 66) (rest := []) rfl (fun h1 => absurd h1 (show ¬ nI j < nI 3 from nI_nlt (by omega) (by omega))) (fun h1 => ?_)
      refine R_seg (φ := []) (pc' := 70) (L' := [.ref 18, .ref 10, .int (nI j), w3]) (st' := [.int (I 10 1)]) (σ' := (mj_KS N, I, mj_PP c (10) (39))) 2 rfl trivial ?_
      refine R_br (q := (0 : Int32) < I 10 1) (t := 73) (f := 77) (rest := []) rfl (fun h2 => ?_) (fun h2 => ?_)
      · skip
        refine R_seg (φ := []) (pc' := 78) (L' := [.ref 18, .ref 10, .int (nI j), w3]) (st' := [.int 1]) (σ' := (mj_KS N, I, mj_PP c (10) (39))) 2 rfl trivial ?_
        exact R_rb rfl rfl (Or.inr rfl) (mj_leaf (by simp only [s_X2_pl, if_pos h2, Bool.false_eq_true, ↓reduceIte, Nat.reduceAdd, Nat.reduceMul, mj_tn0, mj_tn1, mj_tn2, mj_tn3]) (by simp only [s_X2_pl, if_pos h2, Bool.false_eq_true, ↓reduceIte, Nat.reduceAdd, Nat.reduceMul, mj_tn0, mj_tn1, mj_tn2, mj_tn3]))
      · skip
        refine R_seg (φ := []) (pc' := 78) (L' := [.ref 18, .ref 10, .int (nI j), w3]) (st' := [.int 0]) (σ' := (mj_KS N, I, mj_PP c (10) (39))) 1 rfl trivial ?_
        exact R_rb rfl rfl (Or.inl rfl) (mj_leaf (by simp only [s_X2_pl, if_neg h2, Bool.false_eq_true, ↓reduceIte, Nat.reduceAdd, Nat.reduceMul, mj_tn0, mj_tn1, mj_tn2, mj_tn3]) (by simp only [s_X2_pl, if_neg h2, Bool.false_eq_true, ↓reduceIte, Nat.reduceAdd, Nat.reduceMul, mj_tn0, mj_tn1, mj_tn2, mj_tn3]))
    | succ k ih =>
      intro j w3 I hk hlo hj
      have hjm : j < 3 := by omega
      refine R_seg (φ := []) (pc' := 9) (L' := [.ref 18, .ref 10, .int (nI j), w3]) (st' := [.int 3, .int (nI j)]) (σ' := (mj_KS N, I, mj_PP c (10) (39))) 2 rfl trivial ?_
      refine R_br (q := (nI j : Int32) < 3) (t := 12) (f := 66) (rest := []) rfl (fun h1 => ?_) (fun h1 => absurd (show nI j < nI 3 from nI_lt hjm (by omega)) h1)
      refine R_seg (φ := []) (pc' := 15) (L' := [.ref 18, .ref 10, .int (nI j), w3]) (st' := [.int 44, .ref 18]) (σ' := (mj_KS N, I, mj_PP c (10) (39))) 2 rfl trivial ?_
      refine R_ce (idx := 35) (mid := 25) (kind := 0) (N := N) (M' := mj_m_X2_takes) (As := [.ref 18, .int 44]) (rest := []) (I := I) (P := mj_PP c (10) (39)) (I' := (s_X2_takes (39) 44 I).2) (P' := mj_PP c (10) (39)) (v := some (.int ((s_X2_takes (39) 44 I).1))) rfl rfl rfl mj_mc25 mj_dc25 rfl rfl rfl rfl rfl rfl (x_X2_takes l b base D z N (39) 44 (by decide) I c (10) ) ?_
      refine R_seg (φ := []) (pc' := 18) (L' := [.ref 18, .ref 10, .int (nI j), w3]) (st' := [.int ((s_X2_takes (39) 44 I).1)]) (σ' := (mj_KS N, (s_X2_takes (39) 44 I).2, mj_PP c (10) (39))) 0 rfl trivial ?_
      refine R_br (q := ((s_X2_takes (39) 44 I).1 : Int32) = 0) (t := 66) (f := 21) (rest := []) rfl (fun h2 => ?_) (fun h2 => ?_)
      · skip
        refine R_seg (φ := []) (pc' := 70) (L' := [.ref 18, .ref 10, .int (nI j), w3]) (st' := [.int (((s_X2_takes (39) 44 I).2) 10 1)]) (σ' := (mj_KS N, (s_X2_takes (39) 44 I).2, mj_PP c (10) (39))) 2 rfl trivial ?_
        refine R_br (q := (0 : Int32) < ((s_X2_takes (39) 44 I).2) 10 1) (t := 73) (f := 77) (rest := []) rfl (fun h3 => ?_) (fun h3 => ?_)
        · skip
          refine R_seg (φ := []) (pc' := 78) (L' := [.ref 18, .ref 10, .int (nI j), w3]) (st' := [.int 1]) (σ' := (mj_KS N, (s_X2_takes (39) 44 I).2, mj_PP c (10) (39))) 2 rfl trivial ?_
          exact R_rb rfl rfl (Or.inr rfl) (mj_leaf (by simp only [s_X2_pl, if_pos h2, if_pos h3, Bool.false_eq_true, ↓reduceIte, Nat.reduceAdd, Nat.reduceMul, mj_tn0, mj_tn1, mj_tn2, mj_tn3]) (by simp only [s_X2_pl, if_pos h2, if_pos h3, Bool.false_eq_true, ↓reduceIte, Nat.reduceAdd, Nat.reduceMul, mj_tn0, mj_tn1, mj_tn2, mj_tn3]))
        · skip
          refine R_seg (φ := []) (pc' := 78) (L' := [.ref 18, .ref 10, .int (nI j), w3]) (st' := [.int 0]) (σ' := (mj_KS N, (s_X2_takes (39) 44 I).2, mj_PP c (10) (39))) 1 rfl trivial ?_
          exact R_rb rfl rfl (Or.inl rfl) (mj_leaf (by simp only [s_X2_pl, if_pos h2, if_neg h3, Bool.false_eq_true, ↓reduceIte, Nat.reduceAdd, Nat.reduceMul, mj_tn0, mj_tn1, mj_tn2, mj_tn3]) (by simp only [s_X2_pl, if_pos h2, if_neg h3, Bool.false_eq_true, ↓reduceIte, Nat.reduceAdd, Nat.reduceMul, mj_tn0, mj_tn1, mj_tn2, mj_tn3]))
      · skip
        refine R_seg (φ := []) (pc' := 22) (L' := [.ref 18, .ref 10, .int (nI j), w3]) (st' := [.ref 18]) (σ' := (mj_KS N, (s_X2_takes (39) 44 I).2, mj_PP c (10) (39))) 1 rfl trivial ?_
        refine R_ce (idx := 68) (mid := 23) (kind := 0) (N := N) (M' := mj_m_X2_takeKind) (As := [.ref 18]) (rest := []) (I := (s_X2_takes (39) 44 I).2) (P := mj_PP c (10) (39)) (I' := (s_X2_takeKind (39) ((s_X2_takes (39) 44 I).2)).2) (P' := mj_PP c (10) (39)) (v := some (.int ((s_X2_takeKind (39) ((s_X2_takes (39) 44 I).2)).1))) rfl rfl rfl mj_mc23 mj_dc23 rfl rfl rfl rfl rfl rfl (x_X2_takeKind l b base D z N (39) (by decide) ((s_X2_takes (39) 44 I).2) c (10) ) ?_
        generalize hg1 : s_X2_takeKind (39) ((s_X2_takes (39) 44 I).2) = g1
        refine R_seg (φ := []) (pc' := 27) (L' := [.ref 18, .ref 10, .int (nI j), .int (g1.1)]) (st' := [.int (g1.1)]) (σ' := (mj_KS N, g1.2, mj_PP c (10) (39))) 2 rfl trivial ?_
        refine R_br (q := (g1.1 : Int32) < 0) (t := 44) (f := 30) (rest := []) rfl (fun h4 => ?_) (fun h4 => ?_)
        · skip
          refine R_seg (φ := []) (pc' := 45) (L' := [.ref 18, .ref 10, .int (nI j), .int (g1.1)]) (st' := [.int 0]) (σ' := (mj_KS N, g1.2, mj_PP c (10) (39))) 1 rfl trivial ?_
          exact R_rb rfl rfl (Or.inl rfl) (mj_leaf (by simp only [s_X2_pl, hg1, if_neg h2, if_pos h4, Bool.false_eq_true, ↓reduceIte, Nat.reduceAdd, Nat.reduceMul, mj_tn0, mj_tn1, mj_tn2, mj_tn3]) (by simp only [s_X2_pl, hg1, if_neg h2, if_pos h4, Bool.false_eq_true, ↓reduceIte, Nat.reduceAdd, Nat.reduceMul, mj_tn0, mj_tn1, mj_tn2, mj_tn3]))
        · skip
          obtain rfl | rfl | rfl : j = 0 ∨ j = 1 ∨ j = 2 := by omega
          · skip
            refine R_seg (φ := [mj_in (nI 0) 3]) (pc' := 38) (L' := [.ref 18, .ref 10, .int (nI 0), .int (g1.1)]) (st' := [.int 3, .ref 15, .ref 18]) (σ' := (mj_KS N, g1.2, mj_PP c (10) (39))) 6 rfl ⟨mj_in_nI (by decide) (by decide), trivial⟩ ?_
            refine R_ce (idx := 54) (mid := 20) (kind := 0) (N := N) (M' := mj_m_X2_readsSeasons) (As := [.ref 18, .ref 15, .int 3]) (rest := []) (I := g1.2) (P := mj_PP c (10) (39)) (I' := (s_X2_readsSeasons (39) (15) 3 3 (g1.2)).2) (P' := mj_PP c (10) (39)) (v := some (.int ((s_X2_readsSeasons (39) (15) 3 3 (g1.2)).1))) rfl rfl rfl mj_mc20 mj_dc20 rfl rfl rfl rfl rfl rfl (x_X2_readsSeasons l b base D z N (39) (15) 3 3 (by decide) (by decide) (g1.2) c (10) (by decide) (by decide) (by decide)) ?_
            generalize hg0 : s_X2_readsSeasons (39) (15) 3 3 (g1.2) = g0
            refine R_seg (φ := []) (pc' := 41) (L' := [.ref 18, .ref 10, .int (nI 0), .int (g1.1)]) (st' := [.int (g0.1)]) (σ' := (mj_KS N, g0.2, mj_PP c (10) (39))) 0 rfl trivial ?_
            refine R_br (q := (g0.1 : Int32) = 0) (t := 44) (f := 46) (rest := []) rfl (fun h5 => ?_) (fun h5 => ?_)
            · skip
              refine R_seg (φ := []) (pc' := 45) (L' := [.ref 18, .ref 10, .int (nI 0), .int (g1.1)]) (st' := [.int 0]) (σ' := (mj_KS N, g0.2, mj_PP c (10) (39))) 1 rfl trivial ?_
              exact R_rb rfl rfl (Or.inl rfl) (mj_leaf (by simp only [s_X2_pl, hg1, hg0, if_neg h2, if_neg h4, if_pos h5, Bool.false_eq_true, ↓reduceIte, Nat.reduceAdd, Nat.reduceMul, mj_tn0, mj_tn1, mj_tn2, mj_tn3]) (by simp only [s_X2_pl, hg1, hg0, if_neg h2, if_neg h4, if_pos h5, Bool.false_eq_true, ↓reduceIte, Nat.reduceAdd, Nat.reduceMul, mj_tn0, mj_tn1, mj_tn2, mj_tn3]))
            · skip
              refine R_seg (φ := [mj_in (nI 0) 3]) (pc' := 7) (L' := [.ref 18, .ref 10, .int ((nI 0) + 1), .int (g1.1)]) (st' := []) (σ' := (mj_KS N, (mj_upI (mj_upI (g0.2) 13 (nI 0) (g1.1)) 10 1 ((nI 0) + 1)), mj_PP c (10) (39))) 12 rfl ⟨mj_in_nI (by decide) (by decide), trivial⟩ ?_
              rw [nI_1 0]
              rw [show s_X2_pl 10 39 (k + 1) 0  I = s_X2_pl 10 39 k (0 + 1)  (mj_upI (mj_upI (g0.2) 13 (nI 0) (g1.1)) 10 1 ((nI 0) + 1)) from by simp only [s_X2_pl, hg1, hg0, if_neg h2, if_neg h4, if_neg h5, Bool.false_eq_true, ↓reduceIte, Nat.reduceAdd, Nat.reduceMul, mj_tn0, mj_tn1, mj_tn2, mj_tn3]]
              exact ih (0 + 1)  (.int (g1.1)) (mj_upI (mj_upI (g0.2) 13 (nI 0) (g1.1)) 10 1 ((nI 0) + 1)) (by omega) (by omega) (by omega)
          · skip
            refine R_seg (φ := [mj_in (nI 1) 3]) (pc' := 38) (L' := [.ref 18, .ref 10, .int (nI 1), .int (g1.1)]) (st' := [.int 3, .ref 16, .ref 18]) (σ' := (mj_KS N, g1.2, mj_PP c (10) (39))) 6 rfl ⟨mj_in_nI (by decide) (by decide), trivial⟩ ?_
            refine R_ce (idx := 54) (mid := 20) (kind := 0) (N := N) (M' := mj_m_X2_readsSeasons) (As := [.ref 18, .ref 16, .int 3]) (rest := []) (I := g1.2) (P := mj_PP c (10) (39)) (I' := (s_X2_readsSeasons (39) (16) 3 3 (g1.2)).2) (P' := mj_PP c (10) (39)) (v := some (.int ((s_X2_readsSeasons (39) (16) 3 3 (g1.2)).1))) rfl rfl rfl mj_mc20 mj_dc20 rfl rfl rfl rfl rfl rfl (x_X2_readsSeasons l b base D z N (39) (16) 3 3 (by decide) (by decide) (g1.2) c (10) (by decide) (by decide) (by decide)) ?_
            generalize hg0 : s_X2_readsSeasons (39) (16) 3 3 (g1.2) = g0
            refine R_seg (φ := []) (pc' := 41) (L' := [.ref 18, .ref 10, .int (nI 1), .int (g1.1)]) (st' := [.int (g0.1)]) (σ' := (mj_KS N, g0.2, mj_PP c (10) (39))) 0 rfl trivial ?_
            refine R_br (q := (g0.1 : Int32) = 0) (t := 44) (f := 46) (rest := []) rfl (fun h5 => ?_) (fun h5 => ?_)
            · skip
              refine R_seg (φ := []) (pc' := 45) (L' := [.ref 18, .ref 10, .int (nI 1), .int (g1.1)]) (st' := [.int 0]) (σ' := (mj_KS N, g0.2, mj_PP c (10) (39))) 1 rfl trivial ?_
              exact R_rb rfl rfl (Or.inl rfl) (mj_leaf (by simp only [s_X2_pl, hg1, hg0, if_neg h2, if_neg h4, if_pos h5, Bool.false_eq_true, ↓reduceIte, Nat.reduceAdd, Nat.reduceMul, mj_tn0, mj_tn1, mj_tn2, mj_tn3]) (by simp only [s_X2_pl, hg1, hg0, if_neg h2, if_neg h4, if_pos h5, Bool.false_eq_true, ↓reduceIte, Nat.reduceAdd, Nat.reduceMul, mj_tn0, mj_tn1, mj_tn2, mj_tn3]))
            · skip
              refine R_seg (φ := [mj_in (nI 1) 3]) (pc' := 7) (L' := [.ref 18, .ref 10, .int ((nI 1) + 1), .int (g1.1)]) (st' := []) (σ' := (mj_KS N, (mj_upI (mj_upI (g0.2) 13 (nI 1) (g1.1)) 10 1 ((nI 1) + 1)), mj_PP c (10) (39))) 12 rfl ⟨mj_in_nI (by decide) (by decide), trivial⟩ ?_
              rw [nI_1 1]
              rw [show s_X2_pl 10 39 (k + 1) 1  I = s_X2_pl 10 39 k (1 + 1)  (mj_upI (mj_upI (g0.2) 13 (nI 1) (g1.1)) 10 1 ((nI 1) + 1)) from by simp only [s_X2_pl, hg1, hg0, if_neg h2, if_neg h4, if_neg h5, Bool.false_eq_true, ↓reduceIte, Nat.reduceAdd, Nat.reduceMul, mj_tn0, mj_tn1, mj_tn2, mj_tn3]]
              exact ih (1 + 1)  (.int (g1.1)) (mj_upI (mj_upI (g0.2) 13 (nI 1) (g1.1)) 10 1 ((nI 1) + 1)) (by omega) (by omega) (by omega)
          · skip
            refine R_seg (φ := [mj_in (nI 2) 3]) (pc' := 38) (L' := [.ref 18, .ref 10, .int (nI 2), .int (g1.1)]) (st' := [.int 3, .ref 17, .ref 18]) (σ' := (mj_KS N, g1.2, mj_PP c (10) (39))) 6 rfl ⟨mj_in_nI (by decide) (by decide), trivial⟩ ?_
            refine R_ce (idx := 54) (mid := 20) (kind := 0) (N := N) (M' := mj_m_X2_readsSeasons) (As := [.ref 18, .ref 17, .int 3]) (rest := []) (I := g1.2) (P := mj_PP c (10) (39)) (I' := (s_X2_readsSeasons (39) (17) 3 3 (g1.2)).2) (P' := mj_PP c (10) (39)) (v := some (.int ((s_X2_readsSeasons (39) (17) 3 3 (g1.2)).1))) rfl rfl rfl mj_mc20 mj_dc20 rfl rfl rfl rfl rfl rfl (x_X2_readsSeasons l b base D z N (39) (17) 3 3 (by decide) (by decide) (g1.2) c (10) (by decide) (by decide) (by decide)) ?_
            generalize hg0 : s_X2_readsSeasons (39) (17) 3 3 (g1.2) = g0
            refine R_seg (φ := []) (pc' := 41) (L' := [.ref 18, .ref 10, .int (nI 2), .int (g1.1)]) (st' := [.int (g0.1)]) (σ' := (mj_KS N, g0.2, mj_PP c (10) (39))) 0 rfl trivial ?_
            refine R_br (q := (g0.1 : Int32) = 0) (t := 44) (f := 46) (rest := []) rfl (fun h5 => ?_) (fun h5 => ?_)
            · skip
              refine R_seg (φ := []) (pc' := 45) (L' := [.ref 18, .ref 10, .int (nI 2), .int (g1.1)]) (st' := [.int 0]) (σ' := (mj_KS N, g0.2, mj_PP c (10) (39))) 1 rfl trivial ?_
              exact R_rb rfl rfl (Or.inl rfl) (mj_leaf (by simp only [s_X2_pl, hg1, hg0, if_neg h2, if_neg h4, if_pos h5, Bool.false_eq_true, ↓reduceIte, Nat.reduceAdd, Nat.reduceMul, mj_tn0, mj_tn1, mj_tn2, mj_tn3]) (by simp only [s_X2_pl, hg1, hg0, if_neg h2, if_neg h4, if_pos h5, Bool.false_eq_true, ↓reduceIte, Nat.reduceAdd, Nat.reduceMul, mj_tn0, mj_tn1, mj_tn2, mj_tn3]))
            · skip
              refine R_seg (φ := [mj_in (nI 2) 3]) (pc' := 7) (L' := [.ref 18, .ref 10, .int ((nI 2) + 1), .int (g1.1)]) (st' := []) (σ' := (mj_KS N, (mj_upI (mj_upI (g0.2) 13 (nI 2) (g1.1)) 10 1 ((nI 2) + 1)), mj_PP c (10) (39))) 12 rfl ⟨mj_in_nI (by decide) (by decide), trivial⟩ ?_
              rw [nI_1 2]
              rw [show s_X2_pl 10 39 (k + 1) 2  I = s_X2_pl 10 39 k (2 + 1)  (mj_upI (mj_upI (g0.2) 13 (nI 2) (g1.1)) 10 1 ((nI 2) + 1)) from by simp only [s_X2_pl, hg1, hg0, if_neg h2, if_neg h4, if_neg h5, Bool.false_eq_true, ↓reduceIte, Nat.reduceAdd, Nat.reduceMul, mj_tn0, mj_tn1, mj_tn2, mj_tn3]]
              exact ih (2 + 1)  (.int (g1.1)) (mj_upI (mj_upI (g0.2) 13 (nI 2) (g1.1)) 10 1 ((nI 2) + 1)) (by omega) (by omega) (by omega)
  · skip
    intro k
    induction k with
    | zero =>
      intro j w3 I hk hlo hj
      refine R_seg (φ := []) (pc' := 9) (L' := [.ref 18, .ref 10, .int (nI j), w3]) (st' := [.int 3, .int (nI j)]) (σ' := (mj_KS N, I, mj_PP c (10) (41))) 2 rfl trivial ?_
      refine R_br (q := (nI j : Int32) < 3) (t := 12) (f := 66) (rest := []) rfl (fun h1 => absurd h1 (show ¬ nI j < nI 3 from nI_nlt (by omega) (by omega))) (fun h1 => ?_)
      refine R_seg (φ := []) (pc' := 70) (L' := [.ref 18, .ref 10, .int (nI j), w3]) (st' := [.int (I 10 1)]) (σ' := (mj_KS N, I, mj_PP c (10) (41))) 2 rfl trivial ?_
      refine R_br (q := (0 : Int32) < I 10 1) (t := 73) (f := 77) (rest := []) rfl (fun h2 => ?_) (fun h2 => ?_)
      · skip
        refine R_seg (φ := []) (pc' := 78) (L' := [.ref 18, .ref 10, .int (nI j), w3]) (st' := [.int 1]) (σ' := (mj_KS N, I, mj_PP c (10) (41))) 2 rfl trivial ?_
        exact R_rb rfl rfl (Or.inr rfl) (mj_leaf (by simp only [s_X2_pl, if_pos h2, Bool.false_eq_true, ↓reduceIte, Nat.reduceAdd, Nat.reduceMul, mj_tn0, mj_tn1, mj_tn2, mj_tn3]) (by simp only [s_X2_pl, if_pos h2, Bool.false_eq_true, ↓reduceIte, Nat.reduceAdd, Nat.reduceMul, mj_tn0, mj_tn1, mj_tn2, mj_tn3]))
      · skip
        refine R_seg (φ := []) (pc' := 78) (L' := [.ref 18, .ref 10, .int (nI j), w3]) (st' := [.int 0]) (σ' := (mj_KS N, I, mj_PP c (10) (41))) 1 rfl trivial ?_
        exact R_rb rfl rfl (Or.inl rfl) (mj_leaf (by simp only [s_X2_pl, if_neg h2, Bool.false_eq_true, ↓reduceIte, Nat.reduceAdd, Nat.reduceMul, mj_tn0, mj_tn1, mj_tn2, mj_tn3]) (by simp only [s_X2_pl, if_neg h2, Bool.false_eq_true, ↓reduceIte, Nat.reduceAdd, Nat.reduceMul, mj_tn0, mj_tn1, mj_tn2, mj_tn3]))
    | succ k ih =>
      intro j w3 I hk hlo hj
      have hjm : j < 3 := by omega
      refine R_seg (φ := []) (pc' := 9) (L' := [.ref 18, .ref 10, .int (nI j), w3]) (st' := [.int 3, .int (nI j)]) (σ' := (mj_KS N, I, mj_PP c (10) (41))) 2 rfl trivial ?_
      refine R_br (q := (nI j : Int32) < 3) (t := 12) (f := 66) (rest := []) rfl (fun h1 => ?_) (fun h1 => absurd (show nI j < nI 3 from nI_lt hjm (by omega)) h1)
      refine R_seg (φ := []) (pc' := 15) (L' := [.ref 18, .ref 10, .int (nI j), w3]) (st' := [.int 44, .ref 18]) (σ' := (mj_KS N, I, mj_PP c (10) (41))) 2 rfl trivial ?_
      refine R_ce (idx := 35) (mid := 25) (kind := 0) (N := N) (M' := mj_m_X2_takes) (As := [.ref 18, .int 44]) (rest := []) (I := I) (P := mj_PP c (10) (41)) (I' := (s_X2_takes (41) 44 I).2) (P' := mj_PP c (10) (41)) (v := some (.int ((s_X2_takes (41) 44 I).1))) rfl rfl rfl mj_mc25 mj_dc25 rfl rfl rfl rfl rfl rfl (x_X2_takes l b base D z N (41) 44 (by decide) I c (10) ) ?_
      refine R_seg (φ := []) (pc' := 18) (L' := [.ref 18, .ref 10, .int (nI j), w3]) (st' := [.int ((s_X2_takes (41) 44 I).1)]) (σ' := (mj_KS N, (s_X2_takes (41) 44 I).2, mj_PP c (10) (41))) 0 rfl trivial ?_
      refine R_br (q := ((s_X2_takes (41) 44 I).1 : Int32) = 0) (t := 66) (f := 21) (rest := []) rfl (fun h2 => ?_) (fun h2 => ?_)
      · skip
        refine R_seg (φ := []) (pc' := 70) (L' := [.ref 18, .ref 10, .int (nI j), w3]) (st' := [.int (((s_X2_takes (41) 44 I).2) 10 1)]) (σ' := (mj_KS N, (s_X2_takes (41) 44 I).2, mj_PP c (10) (41))) 2 rfl trivial ?_
        refine R_br (q := (0 : Int32) < ((s_X2_takes (41) 44 I).2) 10 1) (t := 73) (f := 77) (rest := []) rfl (fun h3 => ?_) (fun h3 => ?_)
        · skip
          refine R_seg (φ := []) (pc' := 78) (L' := [.ref 18, .ref 10, .int (nI j), w3]) (st' := [.int 1]) (σ' := (mj_KS N, (s_X2_takes (41) 44 I).2, mj_PP c (10) (41))) 2 rfl trivial ?_
          exact R_rb rfl rfl (Or.inr rfl) (mj_leaf (by simp only [s_X2_pl, if_pos h2, if_pos h3, Bool.false_eq_true, ↓reduceIte, Nat.reduceAdd, Nat.reduceMul, mj_tn0, mj_tn1, mj_tn2, mj_tn3]) (by simp only [s_X2_pl, if_pos h2, if_pos h3, Bool.false_eq_true, ↓reduceIte, Nat.reduceAdd, Nat.reduceMul, mj_tn0, mj_tn1, mj_tn2, mj_tn3]))
        · skip
          refine R_seg (φ := []) (pc' := 78) (L' := [.ref 18, .ref 10, .int (nI j), w3]) (st' := [.int 0]) (σ' := (mj_KS N, (s_X2_takes (41) 44 I).2, mj_PP c (10) (41))) 1 rfl trivial ?_
          exact R_rb rfl rfl (Or.inl rfl) (mj_leaf (by simp only [s_X2_pl, if_pos h2, if_neg h3, Bool.false_eq_true, ↓reduceIte, Nat.reduceAdd, Nat.reduceMul, mj_tn0, mj_tn1, mj_tn2, mj_tn3]) (by simp only [s_X2_pl, if_pos h2, if_neg h3, Bool.false_eq_true, ↓reduceIte, Nat.reduceAdd, Nat.reduceMul, mj_tn0, mj_tn1, mj_tn2, mj_tn3]))
      · skip
        refine R_seg (φ := []) (pc' := 22) (L' := [.ref 18, .ref 10, .int (nI j), w3]) (st' := [.ref 18]) (σ' := (mj_KS N, (s_X2_takes (41) 44 I).2, mj_PP c (10) (41))) 1 rfl trivial ?_
        refine R_ce (idx := 68) (mid := 23) (kind := 0) (N := N) (M' := mj_m_X2_takeKind) (As := [.ref 18]) (rest := []) (I := (s_X2_takes (41) 44 I).2) (P := mj_PP c (10) (41)) (I' := (s_X2_takeKind (41) ((s_X2_takes (41) 44 I).2)).2) (P' := mj_PP c (10) (41)) (v := some (.int ((s_X2_takeKind (41) ((s_X2_takes (41) 44 I).2)).1))) rfl rfl rfl mj_mc23 mj_dc23 rfl rfl rfl rfl rfl rfl (x_X2_takeKind l b base D z N (41) (by decide) ((s_X2_takes (41) 44 I).2) c (10) ) ?_
        generalize hg1 : s_X2_takeKind (41) ((s_X2_takes (41) 44 I).2) = g1
        refine R_seg (φ := []) (pc' := 27) (L' := [.ref 18, .ref 10, .int (nI j), .int (g1.1)]) (st' := [.int (g1.1)]) (σ' := (mj_KS N, g1.2, mj_PP c (10) (41))) 2 rfl trivial ?_
        refine R_br (q := (g1.1 : Int32) < 0) (t := 44) (f := 30) (rest := []) rfl (fun h4 => ?_) (fun h4 => ?_)
        · skip
          refine R_seg (φ := []) (pc' := 45) (L' := [.ref 18, .ref 10, .int (nI j), .int (g1.1)]) (st' := [.int 0]) (σ' := (mj_KS N, g1.2, mj_PP c (10) (41))) 1 rfl trivial ?_
          exact R_rb rfl rfl (Or.inl rfl) (mj_leaf (by simp only [s_X2_pl, hg1, if_neg h2, if_pos h4, Bool.false_eq_true, ↓reduceIte, Nat.reduceAdd, Nat.reduceMul, mj_tn0, mj_tn1, mj_tn2, mj_tn3]) (by simp only [s_X2_pl, hg1, if_neg h2, if_pos h4, Bool.false_eq_true, ↓reduceIte, Nat.reduceAdd, Nat.reduceMul, mj_tn0, mj_tn1, mj_tn2, mj_tn3]))
        · skip
          obtain rfl | rfl | rfl : j = 0 ∨ j = 1 ∨ j = 2 := by omega
          · skip
            refine R_seg (φ := [mj_in (nI 0) 3]) (pc' := 38) (L' := [.ref 18, .ref 10, .int (nI 0), .int (g1.1)]) (st' := [.int 3, .ref 15, .ref 18]) (σ' := (mj_KS N, g1.2, mj_PP c (10) (41))) 6 rfl ⟨mj_in_nI (by decide) (by decide), trivial⟩ ?_
            refine R_ce (idx := 54) (mid := 20) (kind := 0) (N := N) (M' := mj_m_X2_readsSeasons) (As := [.ref 18, .ref 15, .int 3]) (rest := []) (I := g1.2) (P := mj_PP c (10) (41)) (I' := (s_X2_readsSeasons (41) (15) 3 3 (g1.2)).2) (P' := mj_PP c (10) (41)) (v := some (.int ((s_X2_readsSeasons (41) (15) 3 3 (g1.2)).1))) rfl rfl rfl mj_mc20 mj_dc20 rfl rfl rfl rfl rfl rfl (x_X2_readsSeasons l b base D z N (41) (15) 3 3 (by decide) (by decide) (g1.2) c (10) (by decide) (by decide) (by decide)) ?_
            generalize hg0 : s_X2_readsSeasons (41) (15) 3 3 (g1.2) = g0
            refine R_seg (φ := []) (pc' := 41) (L' := [.ref 18, .ref 10, .int (nI 0), .int (g1.1)]) (st' := [.int (g0.1)]) (σ' := (mj_KS N, g0.2, mj_PP c (10) (41))) 0 rfl trivial ?_
            refine R_br (q := (g0.1 : Int32) = 0) (t := 44) (f := 46) (rest := []) rfl (fun h5 => ?_) (fun h5 => ?_)
            · skip
              refine R_seg (φ := []) (pc' := 45) (L' := [.ref 18, .ref 10, .int (nI 0), .int (g1.1)]) (st' := [.int 0]) (σ' := (mj_KS N, g0.2, mj_PP c (10) (41))) 1 rfl trivial ?_
              exact R_rb rfl rfl (Or.inl rfl) (mj_leaf (by simp only [s_X2_pl, hg1, hg0, if_neg h2, if_neg h4, if_pos h5, Bool.false_eq_true, ↓reduceIte, Nat.reduceAdd, Nat.reduceMul, mj_tn0, mj_tn1, mj_tn2, mj_tn3]) (by simp only [s_X2_pl, hg1, hg0, if_neg h2, if_neg h4, if_pos h5, Bool.false_eq_true, ↓reduceIte, Nat.reduceAdd, Nat.reduceMul, mj_tn0, mj_tn1, mj_tn2, mj_tn3]))
            · skip
              refine R_seg (φ := [mj_in (nI 0) 3]) (pc' := 7) (L' := [.ref 18, .ref 10, .int ((nI 0) + 1), .int (g1.1)]) (st' := []) (σ' := (mj_KS N, (mj_upI (mj_upI (g0.2) 13 (nI 0) (g1.1)) 10 1 ((nI 0) + 1)), mj_PP c (10) (41))) 12 rfl ⟨mj_in_nI (by decide) (by decide), trivial⟩ ?_
              rw [nI_1 0]
              rw [show s_X2_pl 10 41 (k + 1) 0  I = s_X2_pl 10 41 k (0 + 1)  (mj_upI (mj_upI (g0.2) 13 (nI 0) (g1.1)) 10 1 ((nI 0) + 1)) from by simp only [s_X2_pl, hg1, hg0, if_neg h2, if_neg h4, if_neg h5, Bool.false_eq_true, ↓reduceIte, Nat.reduceAdd, Nat.reduceMul, mj_tn0, mj_tn1, mj_tn2, mj_tn3]]
              exact ih (0 + 1)  (.int (g1.1)) (mj_upI (mj_upI (g0.2) 13 (nI 0) (g1.1)) 10 1 ((nI 0) + 1)) (by omega) (by omega) (by omega)
          · skip
            refine R_seg (φ := [mj_in (nI 1) 3]) (pc' := 38) (L' := [.ref 18, .ref 10, .int (nI 1), .int (g1.1)]) (st' := [.int 3, .ref 16, .ref 18]) (σ' := (mj_KS N, g1.2, mj_PP c (10) (41))) 6 rfl ⟨mj_in_nI (by decide) (by decide), trivial⟩ ?_
            refine R_ce (idx := 54) (mid := 20) (kind := 0) (N := N) (M' := mj_m_X2_readsSeasons) (As := [.ref 18, .ref 16, .int 3]) (rest := []) (I := g1.2) (P := mj_PP c (10) (41)) (I' := (s_X2_readsSeasons (41) (16) 3 3 (g1.2)).2) (P' := mj_PP c (10) (41)) (v := some (.int ((s_X2_readsSeasons (41) (16) 3 3 (g1.2)).1))) rfl rfl rfl mj_mc20 mj_dc20 rfl rfl rfl rfl rfl rfl (x_X2_readsSeasons l b base D z N (41) (16) 3 3 (by decide) (by decide) (g1.2) c (10) (by decide) (by decide) (by decide)) ?_
            generalize hg0 : s_X2_readsSeasons (41) (16) 3 3 (g1.2) = g0
            refine R_seg (φ := []) (pc' := 41) (L' := [.ref 18, .ref 10, .int (nI 1), .int (g1.1)]) (st' := [.int (g0.1)]) (σ' := (mj_KS N, g0.2, mj_PP c (10) (41))) 0 rfl trivial ?_
            refine R_br (q := (g0.1 : Int32) = 0) (t := 44) (f := 46) (rest := []) rfl (fun h5 => ?_) (fun h5 => ?_)
            · skip
              refine R_seg (φ := []) (pc' := 45) (L' := [.ref 18, .ref 10, .int (nI 1), .int (g1.1)]) (st' := [.int 0]) (σ' := (mj_KS N, g0.2, mj_PP c (10) (41))) 1 rfl trivial ?_
              exact R_rb rfl rfl (Or.inl rfl) (mj_leaf (by simp only [s_X2_pl, hg1, hg0, if_neg h2, if_neg h4, if_pos h5, Bool.false_eq_true, ↓reduceIte, Nat.reduceAdd, Nat.reduceMul, mj_tn0, mj_tn1, mj_tn2, mj_tn3]) (by simp only [s_X2_pl, hg1, hg0, if_neg h2, if_neg h4, if_pos h5, Bool.false_eq_true, ↓reduceIte, Nat.reduceAdd, Nat.reduceMul, mj_tn0, mj_tn1, mj_tn2, mj_tn3]))
            · skip
              refine R_seg (φ := [mj_in (nI 1) 3]) (pc' := 7) (L' := [.ref 18, .ref 10, .int ((nI 1) + 1), .int (g1.1)]) (st' := []) (σ' := (mj_KS N, (mj_upI (mj_upI (g0.2) 13 (nI 1) (g1.1)) 10 1 ((nI 1) + 1)), mj_PP c (10) (41))) 12 rfl ⟨mj_in_nI (by decide) (by decide), trivial⟩ ?_
              rw [nI_1 1]
              rw [show s_X2_pl 10 41 (k + 1) 1  I = s_X2_pl 10 41 k (1 + 1)  (mj_upI (mj_upI (g0.2) 13 (nI 1) (g1.1)) 10 1 ((nI 1) + 1)) from by simp only [s_X2_pl, hg1, hg0, if_neg h2, if_neg h4, if_neg h5, Bool.false_eq_true, ↓reduceIte, Nat.reduceAdd, Nat.reduceMul, mj_tn0, mj_tn1, mj_tn2, mj_tn3]]
              exact ih (1 + 1)  (.int (g1.1)) (mj_upI (mj_upI (g0.2) 13 (nI 1) (g1.1)) 10 1 ((nI 1) + 1)) (by omega) (by omega) (by omega)
          · skip
            refine R_seg (φ := [mj_in (nI 2) 3]) (pc' := 38) (L' := [.ref 18, .ref 10, .int (nI 2), .int (g1.1)]) (st' := [.int 3, .ref 17, .ref 18]) (σ' := (mj_KS N, g1.2, mj_PP c (10) (41))) 6 rfl ⟨mj_in_nI (by decide) (by decide), trivial⟩ ?_
            refine R_ce (idx := 54) (mid := 20) (kind := 0) (N := N) (M' := mj_m_X2_readsSeasons) (As := [.ref 18, .ref 17, .int 3]) (rest := []) (I := g1.2) (P := mj_PP c (10) (41)) (I' := (s_X2_readsSeasons (41) (17) 3 3 (g1.2)).2) (P' := mj_PP c (10) (41)) (v := some (.int ((s_X2_readsSeasons (41) (17) 3 3 (g1.2)).1))) rfl rfl rfl mj_mc20 mj_dc20 rfl rfl rfl rfl rfl rfl (x_X2_readsSeasons l b base D z N (41) (17) 3 3 (by decide) (by decide) (g1.2) c (10) (by decide) (by decide) (by decide)) ?_
            generalize hg0 : s_X2_readsSeasons (41) (17) 3 3 (g1.2) = g0
            refine R_seg (φ := []) (pc' := 41) (L' := [.ref 18, .ref 10, .int (nI 2), .int (g1.1)]) (st' := [.int (g0.1)]) (σ' := (mj_KS N, g0.2, mj_PP c (10) (41))) 0 rfl trivial ?_
            refine R_br (q := (g0.1 : Int32) = 0) (t := 44) (f := 46) (rest := []) rfl (fun h5 => ?_) (fun h5 => ?_)
            · skip
              refine R_seg (φ := []) (pc' := 45) (L' := [.ref 18, .ref 10, .int (nI 2), .int (g1.1)]) (st' := [.int 0]) (σ' := (mj_KS N, g0.2, mj_PP c (10) (41))) 1 rfl trivial ?_
              exact R_rb rfl rfl (Or.inl rfl) (mj_leaf (by simp only [s_X2_pl, hg1, hg0, if_neg h2, if_neg h4, if_pos h5, Bool.false_eq_true, ↓reduceIte, Nat.reduceAdd, Nat.reduceMul, mj_tn0, mj_tn1, mj_tn2, mj_tn3]) (by simp only [s_X2_pl, hg1, hg0, if_neg h2, if_neg h4, if_pos h5, Bool.false_eq_true, ↓reduceIte, Nat.reduceAdd, Nat.reduceMul, mj_tn0, mj_tn1, mj_tn2, mj_tn3]))
            · skip
              refine R_seg (φ := [mj_in (nI 2) 3]) (pc' := 7) (L' := [.ref 18, .ref 10, .int ((nI 2) + 1), .int (g1.1)]) (st' := []) (σ' := (mj_KS N, (mj_upI (mj_upI (g0.2) 13 (nI 2) (g1.1)) 10 1 ((nI 2) + 1)), mj_PP c (10) (41))) 12 rfl ⟨mj_in_nI (by decide) (by decide), trivial⟩ ?_
              rw [nI_1 2]
              rw [show s_X2_pl 10 41 (k + 1) 2  I = s_X2_pl 10 41 k (2 + 1)  (mj_upI (mj_upI (g0.2) 13 (nI 2) (g1.1)) 10 1 ((nI 2) + 1)) from by simp only [s_X2_pl, hg1, hg0, if_neg h2, if_neg h4, if_neg h5, Bool.false_eq_true, ↓reduceIte, Nat.reduceAdd, Nat.reduceMul, mj_tn0, mj_tn1, mj_tn2, mj_tn3]]
              exact ih (2 + 1)  (.int (g1.1)) (mj_upI (mj_upI (g0.2) 13 (nI 2) (g1.1)) 10 1 ((nI 2) + 1)) (by omega) (by omega) (by omega)
