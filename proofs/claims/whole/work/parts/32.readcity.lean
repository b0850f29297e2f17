/-! the class: the reader, more -/
theorem mj_rs_l (rr x m : Nat) (e : Int32) : ∀ (k j : Nat) (I : mj_I), ((s_X2_rs rr x m e k j I).1 = 0 ∨ (s_X2_rs rr x m e k j I).1 = 1) ∧ ∀ y, y ≠ 18 → y ≠ x → (s_X2_rs rr x m e k j I).2 y = I y := by
  intro k
  induction k with
  | zero => intro j I; exact ⟨Or.inr rfl, fun _ _ _ => rfl⟩
  | succ k ih =>
    intro j I
    have hf := mj_td_fr rr 0 3 (by decide) I
    rw [s_X2_rs]
    repeat' split
    · exact ⟨Or.inl rfl, fun y h _ => hf y h⟩
    · refine ⟨(ih _ _).1, fun y h h2 => ?_⟩
      rw [(ih _ _).2 y h h2, mj_upI_ne h2, hf y h]
    · exact ⟨Or.inr rfl, fun _ _ _ => rfl⟩
theorem mj_rs_01 (rr x m : Nat) (e : Int32) (I : mj_I) : (s_X2_readsSeasons rr x m e I).1 = 0 ∨ (s_X2_readsSeasons rr x m e I).1 = 1 := (mj_rs_l rr x m e _ _ _).1
theorem mj_rs_fr (rr x m : Nat) (e : Int32) (I : mj_I) (y : Nat) (h : y ≠ 18) (h2 : y ≠ x) : (s_X2_readsSeasons rr x m e I).2 y = I y := (mj_rs_l rr x m e _ _ _).2 y h h2
theorem mj_td_le {rr t : Nat} {e : Int32} {I : mj_I} (h7 : e.toInt < 7) (h0 : -1 ≤ e.toInt) : (s_X2_takeDigit rr t e I).1.toInt ≤ e.toInt := by
  rcases mj_td_ok rr t e h7 I with q | ⟨u, h1, h2, h3⟩
  · rw [q]
    have e1 : ((-1) : Int32).toInt = -1 := by decide
    omega
  · rw [h3, nI_toInt (by omega)]
    exact h2
theorem x_X2_takeDigitG (l : Launch) (b base : Nat) (D : va_G) (z : mj_K × (Int32 → Int32)) (N : Nat) (rr : Nat) (t : Nat) (e : Int32) (hrr : rr = 35 ∨ rr = 37 ∨ rr = 39 ∨ rr = 41) (I : mj_I) (c d : Nat) (he : e.toInt < 7) (ht : t < 7) (g : Int32) (hg : g = nI t) : mj_Rn l b base D z mj_m_X2_takeDigit 0 [.ref 18, .int g, .int e, mj_mk] [] (mj_KS N, I, mj_PP c d rr) (mj_E N (some (.int (s_X2_takeDigit rr t e I).1)) (s_X2_takeDigit rr t e I).2 (mj_PP c d rr)) := by
  rw [hg]
  exact x_X2_takeDigit l b base D z N rr t e hrr I c d he ht
def s_X2_st (dd : Nat) (rr : Nat) (e : Int32) : Nat → Nat → mj_I → Int32 × mj_I
  | 0, j, I => ((s_X2_readsSeasons (rr) ((dd + 1)) 6 e I).1, (s_X2_readsSeasons (rr) ((dd + 1)) 6 e I).2)
  | k + 1, j, I => if (nI j : Int32) < e then (s_X2_st dd rr e k (j + 1)  (mj_upI I (dd + 2) (nI j) 0)) else ((s_X2_readsSeasons (rr) ((dd + 1)) 6 e I).1, (s_X2_readsSeasons (rr) ((dd + 1)) 6 e I).2)
set_option maxHeartbeats 8000000 in
theorem x_X2_st (l : Launch) (b base : Nat) (D : va_G) (z : mj_K × (Int32 → Int32)) (N : Nat) (dd : Nat) (rr : Nat) (e : Int32) (hdd : dd = 2 ∨ dd = 10) (hrr : rr = 35 ∨ rr = 37 ∨ rr = 39 ∨ rr = 41) (c : Nat) (he : e.toInt ≤ 6) : ∀ (k j : Nat) (I : mj_I), k = 6 - j → 0 ≤ j → j ≤ 6 + 1 → mj_Rn l b base D z mj_m_X2_readsStreets 32 [.ref 18, .ref dd, .int e, .int (nI j)] [] (mj_KS N, I, mj_PP c dd rr) (mj_E N (some (.int (s_X2_st dd rr e k j  I).1)) (s_X2_st dd rr e k j  I).2 (mj_PP c dd rr)) := by
  rcases hdd with rfl | rfl <;> rcases hrr with rfl | rfl | rfl | rfl
  · skip
    intro k
    induction k with
    | zero =>
      intro j I hk hlo hj
      refine R_seg (φ := []) (pc' := 34) (L' := [.ref 18, .ref 2, .int e, .int (nI j)]) (st' := [.int e, .int (nI j)]) (σ' := (mj_KS N, I, mj_PP c (2) (35))) 2 rfl trivial ?_
      refine R_br (q := (nI j : Int32) < e) (t := 37) (f := 50) (rest := []) rfl (fun h1 => absurd h1 (mj_eN (m := 6) he (by omega) hj (by decide))) (fun h1 => ?_)
      refine R_seg (φ := []) (pc' := 56) (L' := [.ref 18, .ref 2, .int e, .int (nI j)]) (st' := [.int e, .ref 3, .ref 18]) (σ' := (mj_KS N, I, mj_PP c (2) (35))) 4 rfl trivial ?_
      refine R_ce (idx := 54) (mid := 20) (kind := 0) (N := N) (M' := mj_m_X2_readsSeasons) (As := [.ref 18, .ref 3, .int e]) (rest := []) (I := I) (P := mj_PP c (2) (35)) (I' := (s_X2_readsSeasons (35) (3) 6 e I).2) (P' := mj_PP c (2) (35)) (v := some (.int ((s_X2_readsSeasons (35) (3) 6 e I).1))) rfl rfl rfl mj_mc20 mj_dc20 rfl rfl rfl rfl rfl rfl (x_X2_readsSeasons l b base D z N (35) (3) 6 e (by decide) (by decide) I c (2) (by decide) he (by decide)) ?_
      refine R_seg (φ := []) (pc' := 59) (L' := [.ref 18, .ref 2, .int e, .int (nI j)]) (st' := [.int ((s_X2_readsSeasons (35) (3) 6 e I).1)]) (σ' := (mj_KS N, (s_X2_readsSeasons (35) (3) 6 e I).2, mj_PP c (2) (35))) 0 rfl trivial ?_
      exact R_rb rfl rfl (mj_rs_01 _ _ _ _ _) (mj_leaf (by simp only [s_X2_st, Bool.false_eq_true, ↓reduceIte, Nat.reduceAdd, Nat.reduceMul, mj_tn0, mj_tn1, mj_tn2, mj_tn3]) (by simp only [s_X2_st, Bool.false_eq_true, ↓reduceIte, Nat.reduceAdd, Nat.reduceMul, mj_tn0, mj_tn1, mj_tn2, mj_tn3]))
    | succ k ih =>
      intro j I hk hlo hj
      have hjm : j < 6 := by omega
      refine R_seg (φ := []) (pc' := 34) (L' := [.ref 18, .ref 2, .int e, .int (nI j)]) (st' := [.int e, .int (nI j)]) (σ' := (mj_KS N, I, mj_PP c (2) (35))) 2 rfl trivial ?_
      refine R_br (q := (nI j : Int32) < e) (t := 37) (f := 50) (rest := []) rfl (fun h1 => ?_) (fun h1 => ?_)
      · skip
        refine R_seg (φ := [mj_in (nI j) 6]) (pc' := 32) (L' := [.ref 18, .ref 2, .int e, .int ((nI j) + 1)]) (st' := []) (σ' := (mj_KS N, (mj_upI I 4 (nI j) 0), mj_PP c (2) (35))) 7 rfl ⟨mj_in_nI hjm (by decide), trivial⟩ ?_
        rw [nI_1 j]
        rw [show s_X2_st 2 35 e (k + 1) j  I = s_X2_st 2 35 e k (j + 1)  (mj_upI I 4 (nI j) 0) from by simp only [s_X2_st, if_pos h1, Bool.false_eq_true, ↓reduceIte, Nat.reduceAdd, Nat.reduceMul, mj_tn0, mj_tn1, mj_tn2, mj_tn3]]
        exact ih (j + 1)  (mj_upI I 4 (nI j) 0) (by omega) (by omega) (by omega)
      · skip
        refine R_seg (φ := []) (pc' := 56) (L' := [.ref 18, .ref 2, .int e, .int (nI j)]) (st' := [.int e, .ref 3, .ref 18]) (σ' := (mj_KS N, I, mj_PP c (2) (35))) 4 rfl trivial ?_
        refine R_ce (idx := 54) (mid := 20) (kind := 0) (N := N) (M' := mj_m_X2_readsSeasons) (As := [.ref 18, .ref 3, .int e]) (rest := []) (I := I) (P := mj_PP c (2) (35)) (I' := (s_X2_readsSeasons (35) (3) 6 e I).2) (P' := mj_PP c (2) (35)) (v := some (.int ((s_X2_readsSeasons (35) (3) 6 e I).1))) rfl rfl rfl mj_mc20 mj_dc20 rfl rfl rfl rfl rfl rfl (x_X2_readsSeasons l b base D z N (35) (3) 6 e (by decide) (by decide) I c (2) (by decide) he (by decide)) ?_
        refine R_seg (φ := []) (pc' := 59) (L' := [.ref 18, .ref 2, .int e, .int (nI j)]) (st' := [.int ((s_X2_readsSeasons (35) (3) 6 e I).1)]) (σ' := (mj_KS N, (s_X2_readsSeasons (35) (3) 6 e I).2, mj_PP c (2) (35))) 0 rfl trivial ?_
        exact R_rb rfl rfl (mj_rs_01 _ _ _ _ _) (mj_leaf (by simp only [s_X2_st, if_neg h1, Bool.false_eq_true, ↓reduceIte, Nat.reduceAdd, Nat.reduceMul, mj_tn0, mj_tn1, mj_tn2, mj_tn3]) (by simp only [s_X2_st, if_neg h1, Bool.false_eq_true, ↓reduceIte, Nat.reduceAdd, Nat.reduceMul, mj_tn0, mj_tn1, mj_tn2, mj_tn3]))
  · skip
    intro k
    induction k with
    | zero =>
      intro j I hk hlo hj
      refine R_seg (φ := []) (pc' := 34) (L' := [.ref 18, .ref 2, .int e, .int (nI j)]) (st' := [.int e, .int (nI j)]) (σ' := (mj_KS N, I, mj_PP c (2) (37))) 2 rfl trivial ?_
      refine R_br (q := (nI j : Int32) < e) (t := 37) (f := 50) (rest := []) rfl (fun h1 => absurd h1 (mj_eN (m := 6) he (by omega) hj (by decide))) (fun h1 => ?_)
      refine R_seg (φ := []) (pc' := 56) (L' := [.ref 18, .ref 2, .int e, .int (nI j)]) (st' := [.int e, .ref 3, .ref 18]) (σ' := (mj_KS N, I, mj_PP c (2) (37))) 4 rfl trivial ?_
      refine R_ce (idx := 54) (mid := 20) (kind := 0) (N := N) (M' := mj_m_X2_readsSeasons) (As := [.ref 18, .ref 3, .int e]) (rest := []) (I := I) (P := mj_PP c (2) (37)) (I' := (s_X2_readsSeasons (37) (3) 6 e I).2) (P' := mj_PP c (2) (37)) (v := some (.int ((s_X2_readsSeasons (37) (3) 6 e I).1))) rfl rfl rfl mj_mc20 mj_dc20 rfl rfl rfl rfl rfl rfl (x_X2_readsSeasons l b base D z N (37) (3) 6 e (by decide) (by decide) I c (2) (by decide) he (by decide)) ?_
      refine R_seg (φ := []) (pc' := 59) (L' := [.ref 18, .ref 2, .int e, .int (nI j)]) (st' := [.int ((s_X2_readsSeasons (37) (3) 6 e I).1)]) (σ' := (mj_KS N, (s_X2_readsSeasons (37) (3) 6 e I).2, mj_PP c (2) (37))) 0 rfl trivial ?_
      exact R_rb rfl rfl (mj_rs_01 _ _ _ _ _) (mj_leaf (by simp only [s_X2_st, Bool.false_eq_true, ↓reduceIte, Nat.reduceAdd, Nat.reduceMul, mj_tn0, mj_tn1, mj_tn2, mj_tn3]) (by simp only [s_X2_st, Bool.false_eq_true, ↓reduceIte, Nat.reduceAdd, Nat.reduceMul, mj_tn0, mj_tn1, mj_tn2, mj_tn3]))
    | succ k ih =>
      intro j I hk hlo hj
      have hjm : j < 6 := by omega
      refine R_seg (φ := []) (pc' := 34) (L' := [.ref 18, .ref 2, .int e, .int (nI j)]) (st' := [.int e, .int (nI j)]) (σ' := (mj_KS N, I, mj_PP c (2) (37))) 2 rfl trivial ?_
      refine R_br (q := (nI j : Int32) < e) (t := 37) (f := 50) (rest := []) rfl (fun h1 => ?_) (fun h1 => ?_)
      · skip
        refine R_seg (φ := [mj_in (nI j) 6]) (pc' := 32) (L' := [.ref 18, .ref 2, .int e, .int ((nI j) + 1)]) (st' := []) (σ' := (mj_KS N, (mj_upI I 4 (nI j) 0), mj_PP c (2) (37))) 7 rfl ⟨mj_in_nI hjm (by decide), trivial⟩ ?_
        rw [nI_1 j]
        rw [show s_X2_st 2 37 e (k + 1) j  I = s_X2_st 2 37 e k (j + 1)  (mj_upI I 4 (nI j) 0) from by simp only [s_X2_st, if_pos h1, Bool.false_eq_true, ↓reduceIte, Nat.reduceAdd, Nat.reduceMul, mj_tn0, mj_tn1, mj_tn2, mj_tn3]]
        exact ih (j + 1)  (mj_upI I 4 (nI j) 0) (by omega) (by omega) (by omega)
      · skip
        refine R_seg (φ := []) (pc' := 56) (L' := [.ref 18, .ref 2, .int e, .int (nI j)]) (st' := [.int e, .ref 3, .ref 18]) (σ' := (mj_KS N, I, mj_PP c (2) (37))) 4 rfl trivial ?_
        refine R_ce (idx := 54) (mid := 20) (kind := 0) (N := N) (M' := mj_m_X2_readsSeasons) (As := [.ref 18, .ref 3, .int e]) (rest := []) (I := I) (P := mj_PP c (2) (37)) (I' := (s_X2_readsSeasons (37) (3) 6 e I).2) (P' := mj_PP c (2) (37)) (v := some (.int ((s_X2_readsSeasons (37) (3) 6 e I).1))) rfl rfl rfl mj_mc20 mj_dc20 rfl rfl rfl rfl rfl rfl (x_X2_readsSeasons l b base D z N (37) (3) 6 e (by decide) (by decide) I c (2) (by decide) he (by decide)) ?_
        refine R_seg (φ := []) (pc' := 59) (L' := [.ref 18, .ref 2, .int e, .int (nI j)]) (st' := [.int ((s_X2_readsSeasons (37) (3) 6 e I).1)]) (σ' := (mj_KS N, (s_X2_readsSeasons (37) (3) 6 e I).2, mj_PP c (2) (37))) 0 rfl trivial ?_
        exact R_rb rfl rfl (mj_rs_01 _ _ _ _ _) (mj_leaf (by simp only [s_X2_st, if_neg h1, Bool.false_eq_true, ↓reduceIte, Nat.reduceAdd, Nat.reduceMul, mj_tn0, mj_tn1, mj_tn2, mj_tn3]) (by simp only [s_X2_st, if_neg h1, Bool.false_eq_true, ↓reduceIte, Nat.reduceAdd, Nat.reduceMul, mj_tn0, mj_tn1, mj_tn2, mj_tn3]))
  · skip
    intro k
    induction k with
    | zero =>
      intro j I hk hlo hj
      refine R_seg (φ := []) (pc' := 34) (L' := [.ref 18, .ref 2, .int e, .int (nI j)]) (st' := [.int e, .int (nI j)]) (σ' := (mj_KS N, I, mj_PP c (2) (39))) 2 rfl trivial ?_
      refine R_br (q := (nI j : Int32) < e) (t := 37) (f := 50) (rest := []) rfl (fun h1 => absurd h1 (mj_eN (m := 6) he (by omega) hj (by decide))) (fun h1 => ?_)
      refine R_seg (φ := []) (pc' := 56) (L' := [.ref 18, .ref 2, .int e, .int (nI j)]) (st' := [.int e, .ref 3, .ref 18]) (σ' := (mj_KS N, I, mj_PP c (2) (39))) 4 rfl trivial ?_
      refine R_ce (idx := 54) (mid := 20) (kind := 0) (N := N) (M' := mj_m_X2_readsSeasons) (As := [.ref 18, .ref 3, .int e]) (rest := []) (I := I) (P := mj_PP c (2) (39)) (I' := (s_X2_readsSeasons (39) (3) 6 e I).2) (P' := mj_PP c (2) (39)) (v := some (.int ((s_X2_readsSeasons (39) (3) 6 e I).1))) rfl rfl rfl mj_mc20 mj_dc20 rfl rfl rfl rfl rfl rfl (x_X2_readsSeasons l b base D z N (39) (3) 6 e (by decide) (by decide) I c (2) (by decide) he (by decide)) ?_
      refine R_seg (φ := []) (pc' := 59) (L' := [.ref 18, .ref 2, .int e, .int (nI j)]) (st' := [.int ((s_X2_readsSeasons (39) (3) 6 e I).1)]) (σ' := (mj_KS N, (s_X2_readsSeasons (39) (3) 6 e I).2, mj_PP c (2) (39))) 0 rfl trivial ?_
      exact R_rb rfl rfl (mj_rs_01 _ _ _ _ _) (mj_leaf (by simp only [s_X2_st, Bool.false_eq_true, ↓reduceIte, Nat.reduceAdd, Nat.reduceMul, mj_tn0, mj_tn1, mj_tn2, mj_tn3]) (by simp only [s_X2_st, Bool.false_eq_true, ↓reduceIte, Nat.reduceAdd, Nat.reduceMul, mj_tn0, mj_tn1, mj_tn2, mj_tn3]))
    | succ k ih =>
      intro j I hk hlo hj
      have hjm : j < 6 := by omega
      refine R_seg (φ := []) (pc' := 34) (L' := [.ref 18, .ref 2, .int e, .int (nI j)]) (st' := [.int e, .int (nI j)]) (σ' := (mj_KS N, I, mj_PP c (2) (39))) 2 rfl trivial ?_
      refine R_br (q := (nI j : Int32) < e) (t := 37) (f := 50) (rest := []) rfl (fun h1 => ?_) (fun h1 => ?_)
      · skip
        refine R_seg (φ := [mj_in (nI j) 6]) (pc' := 32) (L' := [.ref 18, .ref 2, .int e, .int ((nI j) + 1)]) (st' := []) (σ' := (mj_KS N, (mj_upI I 4 (nI j) 0), mj_PP c (2) (39))) 7 rfl ⟨mj_in_nI hjm (by decide), trivial⟩ ?_
        rw [nI_1 j]
        rw [show s_X2_st 2 39 e (k + 1) j  I = s_X2_st 2 39 e k (j + 1)  (mj_upI I 4 (nI j) 0) from by simp only [s_X2_st, if_pos h1, Bool.false_eq_true, ↓reduceIte, Nat.reduceAdd, Nat.reduceMul, mj_tn0, mj_tn1, mj_tn2, mj_tn3]]
        exact ih (j + 1)  (mj_upI I 4 (nI j) 0) (by omega) (by omega) (by omega)
      · skip
        refine R_seg (φ := []) (pc' := 56) (L' := [.ref 18, .ref 2, .int e, .int (nI j)]) (st' := [.int e, .ref 3, .ref 18]) (σ' := (mj_KS N, I, mj_PP c (2) (39))) 4 rfl trivial ?_
        refine R_ce (idx := 54) (mid := 20) (kind := 0) (N := N) (M' := mj_m_X2_readsSeasons) (As := [.ref 18, .ref 3, .int e]) (rest := []) (I := I) (P := mj_PP c (2) (39)) (I' := (s_X2_readsSeasons (39) (3) 6 e I).2) (P' := mj_PP c (2) (39)) (v := some (.int ((s_X2_readsSeasons (39) (3) 6 e I).1))) rfl rfl rfl mj_mc20 mj_dc20 rfl rfl rfl rfl rfl rfl (x_X2_readsSeasons l b base D z N (39) (3) 6 e (by decide) (by decide) I c (2) (by decide) he (by decide)) ?_
        refine R_seg (φ := []) (pc' := 59) (L' := [.ref 18, .ref 2, .int e, .int (nI j)]) (st' := [.int ((s_X2_readsSeasons (39) (3) 6 e I).1)]) (σ' := (mj_KS N, (s_X2_readsSeasons (39) (3) 6 e I).2, mj_PP c (2) (39))) 0 rfl trivial ?_
        exact R_rb rfl rfl (mj_rs_01 _ _ _ _ _) (mj_leaf (by simp only [s_X2_st, if_neg h1, Bool.false_eq_true, ↓reduceIte, Nat.reduceAdd, Nat.reduceMul, mj_tn0, mj_tn1, mj_tn2, mj_tn3]) (by simp only [s_X2_st, if_neg h1, Bool.false_eq_true, ↓reduceIte, Nat.reduceAdd, Nat.reduceMul, mj_tn0, mj_tn1, mj_tn2, mj_tn3]))
  · skip
    intro k
    induction k with
    | zero =>
      intro j I hk hlo hj
      refine R_seg (φ := []) (pc' := 34) (L' := [.ref 18, .ref 2, .int e, .int (nI j)]) (st' := [.int e, .int (nI j)]) (σ' := (mj_KS N, I, mj_PP c (2) (41))) 2 rfl trivial ?_
      refine R_br (q := (nI j : Int32) < e) (t := 37) (f := 50) (rest := []) rfl (fun h1 => absurd h1 (mj_eN (m := 6) he (by omega) hj (by decide))) (fun h1 => ?_)
      refine R_seg (φ := []) (pc' := 56) (L' := [.ref 18, .ref 2, .int e, .int (nI j)]) (st' := [.int e, .ref 3, .ref 18]) (σ' := (mj_KS N, I, mj_PP c (2) (41))) 4 rfl trivial ?_
      refine R_ce (idx := 54) (mid := 20) (kind := 0) (N := N) (M' := mj_m_X2_readsSeasons) (As := [.ref 18, .ref 3, .int e]) (rest := []) (I := I) (P := mj_PP c (2) (41)) (I' := (s_X2_readsSeasons (41) (3) 6 e I).2) (P' := mj_PP c (2) (41)) (v := some (.int ((s_X2_readsSeasons (41) (3) 6 e I).1))) rfl rfl rfl mj_mc20 mj_dc20 rfl rfl rfl rfl rfl rfl (x_X2_readsSeasons l b base D z N (41) (3) 6 e (by decide) (by decide) I c (2) (by decide) he (by decide)) ?_
      refine R_seg (φ := []) (pc' := 59) (L' := [.ref 18, .ref 2, .int e, .int (nI j)]) (st' := [.int ((s_X2_readsSeasons (41) (3) 6 e I).1)]) (σ' := (mj_KS N, (s_X2_readsSeasons (41) (3) 6 e I).2, mj_PP c (2) (41))) 0 rfl trivial ?_
      exact R_rb rfl rfl (mj_rs_01 _ _ _ _ _) (mj_leaf (by simp only [s_X2_st, Bool.false_eq_true, ↓reduceIte, Nat.reduceAdd, Nat.reduceMul, mj_tn0, mj_tn1, mj_tn2, mj_tn3]) (by simp only [s_X2_st, Bool.false_eq_true, ↓reduceIte, Nat.reduceAdd, Nat.reduceMul, mj_tn0, mj_tn1, mj_tn2, mj_tn3]))
    | succ k ih =>
      intro j I hk hlo hj
      have hjm : j < 6 := by omega
      refine R_seg (φ := []) (pc' := 34) (L' := [.ref 18, .ref 2, .int e, .int (nI j)]) (st' := [.int e, .int (nI j)]) (σ' := (mj_KS N, I, mj_PP c (2) (41))) 2 rfl trivial ?_
      refine R_br (q := (nI j : Int32) < e) (t := 37) (f := 50) (rest := []) rfl (fun h1 => ?_) (fun h1 => ?_)
      · skip
        refine R_seg (φ := [mj_in (nI j) 6]) (pc' := 32) (L' := [.ref 18, .ref 2, .int e, .int ((nI j) + 1)]) (st' := []) (σ' := (mj_KS N, (mj_upI I 4 (nI j) 0), mj_PP c (2) (41))) 7 rfl ⟨mj_in_nI hjm (by decide), trivial⟩ ?_
        rw [nI_1 j]
        rw [show s_X2_st 2 41 e (k + 1) j  I = s_X2_st 2 41 e k (j + 1)  (mj_upI I 4 (nI j) 0) from by simp only [s_X2_st, if_pos h1, Bool.false_eq_true, ↓reduceIte, Nat.reduceAdd, Nat.reduceMul, mj_tn0, mj_tn1, mj_tn2, mj_tn3]]
        exact ih (j + 1)  (mj_upI I 4 (nI j) 0) (by omega) (by omega) (by omega)
      · skip
        refine R_seg (φ := []) (pc' := 56) (L' := [.ref 18, .ref 2, .int e, .int (nI j)]) (st' := [.int e, .ref 3, .ref 18]) (σ' := (mj_KS N, I, mj_PP c (2) (41))) 4 rfl trivial ?_
        refine R_ce (idx := 54) (mid := 20) (kind := 0) (N := N) (M' := mj_m_X2_readsSeasons) (As := [.ref 18, .ref 3, .int e]) (rest := []) (I := I) (P := mj_PP c (2) (41)) (I' := (s_X2_readsSeasons (41) (3) 6 e I).2) (P' := mj_PP c (2) (41)) (v := some (.int ((s_X2_readsSeasons (41) (3) 6 e I).1))) rfl rfl rfl mj_mc20 mj_dc20 rfl rfl rfl rfl rfl rfl (x_X2_readsSeasons l b base D z N (41) (3) 6 e (by decide) (by decide) I c (2) (by decide) he (by decide)) ?_
        refine R_seg (φ := []) (pc' := 59) (L' := [.ref 18, .ref 2, .int e, .int (nI j)]) (st' := [.int ((s_X2_readsSeasons (41) (3) 6 e I).1)]) (σ' := (mj_KS N, (s_X2_readsSeasons (41) (3) 6 e I).2, mj_PP c (2) (41))) 0 rfl trivial ?_
        exact R_rb rfl rfl (mj_rs_01 _ _ _ _ _) (mj_leaf (by simp only [s_X2_st, if_neg h1, Bool.false_eq_true, ↓reduceIte, Nat.reduceAdd, Nat.reduceMul, mj_tn0, mj_tn1, mj_tn2, mj_tn3]) (by simp only [s_X2_st, if_neg h1, Bool.false_eq_true, ↓reduceIte, Nat.reduceAdd, Nat.reduceMul, mj_tn0, mj_tn1, mj_tn2, mj_tn3]))
  · skip
    intro k
    induction k with
    | zero =>
      intro j I hk hlo hj
      refine R_seg (φ := []) (pc' := 34) (L' := [.ref 18, .ref 10, .int e, .int (nI j)]) (st' := [.int e, .int (nI j)]) (σ' := (mj_KS N, I, mj_PP c (10) (35))) 2 rfl trivial ?_
      refine R_br (q := (nI j : Int32) < e) (t := 37) (f := 50) (rest := []) rfl (fun h1 => absurd h1 (mj_eN (m := 6) he (by omega) hj (by decide))) (fun h1 => ?_)
      refine R_seg (φ := []) (pc' := 56) (L' := [.ref 18, .ref 10, .int e, .int (nI j)]) (st' := [.int e, .ref 11, .ref 18]) (σ' := (mj_KS N, I, mj_PP c (10) (35))) 4 rfl trivial ?_
      refine R_ce (idx := 54) (mid := 20) (kind := 0) (N := N) (M' := mj_m_X2_readsSeasons) (As := [.ref 18, .ref 11, .int e]) (rest := []) (I := I) (P := mj_PP c (10) (35)) (I' := (s_X2_readsSeasons (35) (11) 6 e I).2) (P' := mj_PP c (10) (35)) (v := some (.int ((s_X2_readsSeasons (35) (11) 6 e I).1))) rfl rfl rfl mj_mc20 mj_dc20 rfl rfl rfl rfl rfl rfl (x_X2_readsSeasons l b base D z N (35) (11) 6 e (by decide) (by decide) I c (10) (by decide) he (by decide)) ?_
      refine R_seg (φ := []) (pc' := 59) (L' := [.ref 18, .ref 10, .int e, .int (nI j)]) (st' := [.int ((s_X2_readsSeasons (35) (11) 6 e I).1)]) (σ' := (mj_KS N, (s_X2_readsSeasons (35) (11) 6 e I).2, mj_PP c (10) (35))) 0 rfl trivial ?_
      exact R_rb rfl rfl (mj_rs_01 _ _ _ _ _) (mj_leaf (by simp only [s_X2_st, Bool.false_eq_true, ↓reduceIte, Nat.reduceAdd, Nat.reduceMul, mj_tn0, mj_tn1, mj_tn2, mj_tn3]) (by simp only [s_X2_st, Bool.false_eq_true, ↓reduceIte, Nat.reduceAdd, Nat.reduceMul, mj_tn0, mj_tn1, mj_tn2, mj_tn3]))
    | succ k ih =>
      intro j I hk hlo hj
      have hjm : j < 6 := by omega
      refine R_seg (φ := []) (pc' := 34) (L' := [.ref 18, .ref 10, .int e, .int (nI j)]) (st' := [.int e, .int (nI j)]) (σ' := (mj_KS N, I, mj_PP c (10) (35))) 2 rfl trivial ?_
      refine R_br (q := (nI j : Int32) < e) (t := 37) (f := 50) (rest := []) rfl (fun h1 => ?_) (fun h1 => ?_)
      · skip
        refine R_seg (φ := [mj_in (nI j) 6]) (pc' := 32) (L' := [.ref 18, .ref 10, .int e, .int ((nI j) + 1)]) (st' := []) (σ' := (mj_KS N, (mj_upI I 12 (nI j) 0), mj_PP c (10) (35))) 7 rfl ⟨mj_in_nI hjm (by decide), trivial⟩ ?_
        rw [nI_1 j]
        rw [show s_X2_st 10 35 e (k + 1) j  I = s_X2_st 10 35 e k (j + 1)  (mj_upI I 12 (nI j) 0) from by simp only [s_X2_st, if_pos h1, Bool.false_eq_true, ↓reduceIte, Nat.reduceAdd, Nat.reduceMul, mj_tn0, mj_tn1, mj_tn2, mj_tn3]]
        exact ih (j + 1)  (mj_upI I 12 (nI j) 0) (by omega) (by omega) (by omega)
      · skip
        refine R_seg (φ := []) (pc' := 56) (L' := [.ref 18, .ref 10, .int e, .int (nI j)]) (st' := [.int e, .ref 11, .ref 18]) (σ' := (mj_KS N, I, mj_PP c (10) (35))) 4 rfl trivial ?_
        refine R_ce (idx := 54) (mid := 20) (kind := 0) (N := N) (M' := mj_m_X2_readsSeasons) (As := [.ref 18, .ref 11, .int e]) (rest := []) (I := I) (P := mj_PP c (10) (35)) (I' := (s_X2_readsSeasons (35) (11) 6 e I).2) (P' := mj_PP c (10) (35)) (v := some (.int ((s_X2_readsSeasons (35) (11) 6 e I).1))) rfl rfl rfl mj_mc20 mj_dc20 rfl rfl rfl rfl rfl rfl (x_X2_readsSeasons l b base D z N (35) (11) 6 e (by decide) (by decide) I c (10) (by decide) he (by decide)) ?_
        refine R_seg (φ := []) (pc' := 59) (L' := [.ref 18, .ref 10, .int e, .int (nI j)]) (st' := [.int ((s_X2_readsSeasons (35) (11) 6 e I).1)]) (σ' := (mj_KS N, (s_X2_readsSeasons (35) (11) 6 e I).2, mj_PP c (10) (35))) 0 rfl trivial ?_
        exact R_rb rfl rfl (mj_rs_01 _ _ _ _ _) (mj_leaf (by simp only [s_X2_st, if_neg h1, Bool.false_eq_true, ↓reduceIte, Nat.reduceAdd, Nat.reduceMul, mj_tn0, mj_tn1, mj_tn2, mj_tn3]) (by simp only [s_X2_st, if_neg h1, Bool.false_eq_true, ↓reduceIte, Nat.reduceAdd, Nat.reduceMul, mj_tn0, mj_tn1, mj_tn2, mj_tn3]))
  · skip
    intro k
    induction k with
    | zero =>
      intro j I hk hlo hj
      refine R_seg (φ := []) (pc' := 34) (L' := [.ref 18, .ref 10, .int e, .int (nI j)]) (st' := [.int e, .int (nI j)]) (σ' := (mj_KS N, I, mj_PP c (10) (37))) 2 rfl trivial ?_
      refine R_br (q := (nI j : Int32) < e) (t := 37) (f := 50) (rest := []) rfl (fun h1 => absurd h1 (mj_eN (m := 6) he (by omega) hj (by decide))) (fun h1 => ?_)
      refine R_seg (φ := []) (pc' := 56) (L' := [.ref 18, .ref 10, .int e, .int (nI j)]) (st' := [.int e, .ref 11, .ref 18]) (σ' := (mj_KS N, I, mj_PP c (10) (37))) 4 rfl trivial ?_
      refine R_ce (idx := 54) (mid := 20) (kind := 0) (N := N) (M' := mj_m_X2_readsSeasons) (As := [.ref 18, .ref 11, .int e]) (rest := []) (I := I) (P := mj_PP c (10) (37)) (I' := (s_X2_readsSeasons (37) (11) 6 e I).2) (P' := mj_PP c (10) (37)) (v := some (.int ((s_X2_readsSeasons (37) (11) 6 e I).1))) rfl rfl rfl mj_mc20 mj_dc20 rfl rfl rfl rfl rfl rfl (x_X2_readsSeasons l b base D z N (37) (11) 6 e (by decide) (by decide) I c (10) (by decide) he (by decide)) ?_
      refine R_seg (φ := []) (pc' := 59) (L' := [.ref 18, .ref 10, .int e, .int (nI j)]) (st' := [.int ((s_X2_readsSeasons (37) (11) 6 e I).1)]) (σ' := (mj_KS N, (s_X2_readsSeasons (37) (11) 6 e I).2, mj_PP c (10) (37))) 0 rfl trivial ?_
      exact R_rb rfl rfl (mj_rs_01 _ _ _ _ _) (mj_leaf (by simp only [s_X2_st, Bool.false_eq_true, ↓reduceIte, Nat.reduceAdd, Nat.reduceMul, mj_tn0, mj_tn1, mj_tn2, mj_tn3]) (by simp only [s_X2_st, Bool.false_eq_true, ↓reduceIte, Nat.reduceAdd, Nat.reduceMul, mj_tn0, mj_tn1, mj_tn2, mj_tn3]))
    | succ k ih =>
      intro j I hk hlo hj
      have hjm : j < 6 := by omega
      refine R_seg (φ := []) (pc' := 34) (L' := [.ref 18, .ref 10, .int e, .int (nI j)]) (st' := [.int e, .int (nI j)]) (σ' := (mj_KS N, I, mj_PP c (10) (37))) 2 rfl trivial ?_
      refine R_br (q := (nI j : Int32) < e) (t := 37) (f := 50) (rest := []) rfl (fun h1 => ?_) (fun h1 => ?_)
      · skip
        refine R_seg (φ := [mj_in (nI j) 6]) (pc' := 32) (L' := [.ref 18, .ref 10, .int e, .int ((nI j) + 1)]) (st' := []) (σ' := (mj_KS N, (mj_upI I 12 (nI j) 0), mj_PP c (10) (37))) 7 rfl ⟨mj_in_nI hjm (by decide), trivial⟩ ?_
        rw [nI_1 j]
        rw [show s_X2_st 10 37 e (k + 1) j  I = s_X2_st 10 37 e k (j + 1)  (mj_upI I 12 (nI j) 0) from by simp only [s_X2_st, if_pos h1, Bool.false_eq_true, ↓reduceIte, Nat.reduceAdd, Nat.reduceMul, mj_tn0, mj_tn1, mj_tn2, mj_tn3]]
        exact ih (j + 1)  (mj_upI I 12 (nI j) 0) (by omega) (by omega) (by omega)
      · skip
        refine R_seg (φ := []) (pc' := 56) (L' := [.ref 18, .ref 10, .int e, .int (nI j)]) (st' := [.int e, .ref 11, .ref 18]) (σ' := (mj_KS N, I, mj_PP c (10) (37))) 4 rfl trivial ?_
        refine R_ce (idx := 54) (mid := 20) (kind := 0) (N := N) (M' := mj_m_X2_readsSeasons) (As := [.ref 18, .ref 11, .int e]) (rest := []) (I := I) (P := mj_PP c (10) (37)) (I' := (s_X2_readsSeasons (37) (11) 6 e I).2) (P' := mj_PP c (10) (37)) (v := some (.int ((s_X2_readsSeasons (37) (11) 6 e I).1))) rfl rfl rfl mj_mc20 mj_dc20 rfl rfl rfl rfl rfl rfl (x_X2_readsSeasons l b base D z N (37) (11) 6 e (by decide) (by decide) I c (10) (by decide) he (by decide)) ?_
        refine R_seg (φ := []) (pc' := 59) (L' := [.ref 18, .ref 10, .int e, .int (nI j)]) (st' := [.int ((s_X2_readsSeasons (37) (11) 6 e I).1)]) (σ' := (mj_KS N, (s_X2_readsSeasons (37) (11) 6 e I).2, mj_PP c (10) (37))) 0 rfl trivial ?_
        exact R_rb rfl rfl (mj_rs_01 _ _ _ _ _) (mj_leaf (by simp only [s_X2_st, if_neg h1, Bool.false_eq_true, ↓reduceIte, Nat.reduceAdd, Nat.reduceMul, mj_tn0, mj_tn1, mj_tn2, mj_tn3]) (by simp only [s_X2_st, if_neg h1, Bool.false_eq_true, ↓reduceIte, Nat.reduceAdd, Nat.reduceMul, mj_tn0, mj_tn1, mj_tn2, mj_tn3]))
  · skip
    intro k
    induction k with
    | zero =>
      intro j I hk hlo hj
      refine R_seg (φ := []) (pc' := 34) (L' := [.ref 18, .ref 10, .int e, .int (nI j)]) (st' := [.int e, .int (nI j)]) (σ' := (mj_KS N, I, mj_PP c (10) (39))) 2 rfl trivial ?_
      refine R_br (q := (nI j : Int32) < e) (t := 37) (f := 50) (rest := []) rfl (fun h1 => absurd h1 (mj_eN (m := 6) he (by omega) hj (by decide))) (fun h1 => ?_)
      refine R_seg (φ := []) (pc' := 56) (L' := [.ref 18, .ref 10, .int e, .int (nI j)]) (st' := [.int e, .ref 11, .ref 18]) (σ' := (mj_KS N, I, mj_PP c (10) (39))) 4 rfl trivial ?_
      refine R_ce (idx := 54) (mid := 20) (kind := 0) (N := N) (M' := mj_m_X2_readsSeasons) (As := [.ref 18, .ref 11, .int e]) (rest := []) (I := I) (P := mj_PP c (10) (39)) (I' := (s_X2_readsSeasons (39) (11) 6 e I).2) (P' := mj_PP c (10) (39)) (v := some (.int ((s_X2_readsSeasons (39) (11) 6 e I).1))) rfl rfl rfl mj_mc20 mj_dc20 rfl rfl rfl rfl rfl rfl (x_X2_readsSeasons l b base D z N (39) (11) 6 e (by decide) (by decide) I c (10) (by decide) he (by decide)) ?_
      refine R_seg (φ := []) (pc' := 59) (L' := [.ref 18, .ref 10, .int e, .int (nI j)]) (st' := [.int ((s_X2_readsSeasons (39) (11) 6 e I).1)]) (σ' := (mj_KS N, (s_X2_readsSeasons (39) (11) 6 e I).2, mj_PP c (10) (39))) 0 rfl trivial ?_
      exact R_rb rfl rfl (mj_rs_01 _ _ _ _ _) (mj_leaf (by simp only [s_X2_st, Bool.false_eq_true, ↓reduceIte, Nat.reduceAdd, Nat.reduceMul, mj_tn0, mj_tn1, mj_tn2, mj_tn3]) (by simp only [s_X2_st, Bool.false_eq_true, ↓reduceIte, Nat.reduceAdd, Nat.reduceMul, mj_tn0, mj_tn1, mj_tn2, mj_tn3]))
    | succ k ih =>
      intro j I hk hlo hj
      have hjm : j < 6 := by omega
      refine R_seg (φ := []) (pc' := 34) (L' := [.ref 18, .ref 10, .int e, .int (nI j)]) (st' := [.int e, .int (nI j)]) (σ' := (mj_KS N, I, mj_PP c (10) (39))) 2 rfl trivial ?_
      refine R_br (q := (nI j : Int32) < e) (t := 37) (f := 50) (rest := []) rfl (fun h1 => ?_) (fun h1 => ?_)
      · skip
        refine R_seg (φ := [mj_in (nI j) 6]) (pc' := 32) (L' := [.ref 18, .ref 10, .int e, .int ((nI j) + 1)]) (st' := []) (σ' := (mj_KS N, (mj_upI I 12 (nI j) 0), mj_PP c (10) (39))) 7 rfl ⟨mj_in_nI hjm (by decide), trivial⟩ ?_
        rw [nI_1 j]
        rw [show s_X2_st 10 39 e (k + 1) j  I = s_X2_st 10 39 e k (j + 1)  (mj_upI I 12 (nI j) 0) from by simp only [s_X2_st, if_pos h1, Bool.false_eq_true, ↓reduceIte, Nat.reduceAdd, Nat.reduceMul, mj_tn0, mj_tn1, mj_tn2, mj_tn3]]
        exact ih (j + 1)  (mj_upI I 12 (nI j) 0) (by omega) (by omega) (by omega)
      · skip
        refine R_seg (φ := []) (pc' := 56) (L' := [.ref 18, .ref 10, .int e, .int (nI j)]) (st' := [.int e, .ref 11, .ref 18]) (σ' := (mj_KS N, I, mj_PP c (10) (39))) 4 rfl trivial ?_
        refine R_ce (idx := 54) (mid := 20) (kind := 0) (N := N) (M' := mj_m_X2_readsSeasons) (As := [.ref 18, .ref 11, .int e]) (rest := []) (I := I) (P := mj_PP c (10) (39)) (I' := (s_X2_readsSeasons (39) (11) 6 e I).2) (P' := mj_PP c (10) (39)) (v := some (.int ((s_X2_readsSeasons (39) (11) 6 e I).1))) rfl rfl rfl mj_mc20 mj_dc20 rfl rfl rfl rfl rfl rfl (x_X2_readsSeasons l b base D z N (39) (11) 6 e (by decide) (by decide) I c (10) (by decide) he (by decide)) ?_
        refine R_seg (φ := []) (pc' := 59) (L' := [.ref 18, .ref 10, .int e, .int (nI j)]) (st' := [.int ((s_X2_readsSeasons (39) (11) 6 e I).1)]) (σ' := (mj_KS N, (s_X2_readsSeasons (39) (11) 6 e I).2, mj_PP c (10) (39))) 0 rfl trivial ?_
        exact R_rb rfl rfl (mj_rs_01 _ _ _ _ _) (mj_leaf (by simp only [s_X2_st, if_neg h1, Bool.false_eq_true, ↓reduceIte, Nat.reduceAdd, Nat.reduceMul, mj_tn0, mj_tn1, mj_tn2, mj_tn3]) (by simp only [s_X2_st, if_neg h1, Bool.false_eq_true, ↓reduceIte, Nat.reduceAdd, Nat.reduceMul, mj_tn0, mj_tn1, mj_tn2, mj_tn3]))
  · skip
    intro k
    induction k with
    | zero =>
      intro j I hk hlo hj
      refine R_seg (φ := []) (pc' := 34) (L' := [.ref 18, .ref 10, .int e, .int (nI j)]) (st' := [.int e, .int (nI j)]) (σ' := (mj_KS N, I, mj_PP c (10) (41))) 2 rfl trivial ?_
      refine R_br (q := (nI j : Int32) < e) (t := 37) (f := 50) (rest := []) rfl (fun h1 => absurd h1 (mj_eN (m := 6) he (by omega) hj (by decide))) (fun h1 => ?_)
      refine R_seg (φ := []) (pc' := 56) (L' := [.ref 18, .ref 10, .int e, .int (nI j)]) (st' := [.int e, .ref 11, .ref 18]) (σ' := (mj_KS N, I, mj_PP c (10) (41))) 4 rfl trivial ?_
      refine R_ce (idx := 54) (mid := 20) (kind := 0) (N := N) (M' := mj_m_X2_readsSeasons) (As := [.ref 18, .ref 11, .int e]) (rest := []) (I := I) (P := mj_PP c (10) (41)) (I' := (s_X2_readsSeasons (41) (11) 6 e I).2) (P' := mj_PP c (10) (41)) (v := some (.int ((s_X2_readsSeasons (41) (11) 6 e I).1))) rfl rfl rfl mj_mc20 mj_dc20 rfl rfl rfl rfl rfl rfl (x_X2_readsSeasons l b base D z N (41) (11) 6 e (by decide) (by decide) I c (10) (by decide) he (by decide)) ?_
      refine R_seg (φ := []) (pc' := 59) (L' := [.ref 18, .ref 10, .int e, .int (nI j)]) (st' := [.int ((s_X2_readsSeasons (41) (11) 6 e I).1)]) (σ' := (mj_KS N, (s_X2_readsSeasons (41) (11) 6 e I).2, mj_PP c (10) (41))) 0 rfl trivial ?_
      exact R_rb rfl rfl (mj_rs_01 _ _ _ _ _) (mj_leaf (by simp only [s_X2_st, Bool.false_eq_true, ↓reduceIte, Nat.reduceAdd, Nat.reduceMul, mj_tn0, mj_tn1, mj_tn2, mj_tn3]) (by simp only [s_X2_st, Bool.false_eq_true, ↓reduceIte, Nat.reduceAdd, Nat.reduceMul, mj_tn0, mj_tn1, mj_tn2, mj_tn3]))
    | succ k ih =>
      intro j I hk hlo hj
      have hjm : j < 6 := by omega
      refine R_seg (φ := []) (pc' := 34) (L' := [.ref 18, .ref 10, .int e, .int (nI j)]) (st' := [.int e, .int (nI j)]) (σ' := (mj_KS N, I, mj_PP c (10) (41))) 2 rfl trivial ?_
      refine R_br (q := (nI j : Int32) < e) (t := 37) (f := 50) (rest := []) rfl (fun h1 => ?_) (fun h1 => ?_)
      · skip
        refine R_seg (φ := [mj_in (nI j) 6]) (pc' := 32) (L' := [.ref 18, .ref 10, .int e, .int ((nI j) + 1)]) (st' := []) (σ' := (mj_KS N, (mj_upI I 12 (nI j) 0), mj_PP c (10) (41))) 7 rfl ⟨mj_in_nI hjm (by decide), trivial⟩ ?_
        rw [nI_1 j]
        rw [show s_X2_st 10 41 e (k + 1) j  I = s_X2_st 10 41 e k (j + 1)  (mj_upI I 12 (nI j) 0) from by simp only [s_X2_st, if_pos h1, Bool.false_eq_true, ↓reduceIte, Nat.reduceAdd, Nat.reduceMul, mj_tn0, mj_tn1, mj_tn2, mj_tn3]]
        exact ih (j + 1)  (mj_upI I 12 (nI j) 0) (by omega) (by omega) (by omega)
      · skip
        refine R_seg (φ := []) (pc' := 56) (L' := [.ref 18, .ref 10, .int e, .int (nI j)]) (st' := [.int e, .ref 11, .ref 18]) (σ' := (mj_KS N, I, mj_PP c (10) (41))) 4 rfl trivial ?_
        refine R_ce (idx := 54) (mid := 20) (kind := 0) (N := N) (M' := mj_m_X2_readsSeasons) (As := [.ref 18, .ref 11, .int e]) (rest := []) (I := I) (P := mj_PP c (10) (41)) (I' := (s_X2_readsSeasons (41) (11) 6 e I).2) (P' := mj_PP c (10) (41)) (v := some (.int ((s_X2_readsSeasons (41) (11) 6 e I).1))) rfl rfl rfl mj_mc20 mj_dc20 rfl rfl rfl rfl rfl rfl (x_X2_readsSeasons l b base D z N (41) (11) 6 e (by decide) (by decide) I c (10) (by decide) he (by decide)) ?_
        refine R_seg (φ := []) (pc' := 59) (L' := [.ref 18, .ref 10, .int e, .int (nI j)]) (st' := [.int ((s_X2_readsSeasons (41) (11) 6 e I).1)]) (σ' := (mj_KS N, (s_X2_readsSeasons (41) (11) 6 e I).2, mj_PP c (10) (41))) 0 rfl trivial ?_
        exact R_rb rfl rfl (mj_rs_01 _ _ _ _ _) (mj_leaf (by simp only [s_X2_st, if_neg h1, Bool.false_eq_true, ↓reduceIte, Nat.reduceAdd, Nat.reduceMul, mj_tn0, mj_tn1, mj_tn2, mj_tn3]) (by simp only [s_X2_st, if_neg h1, Bool.false_eq_true, ↓reduceIte, Nat.reduceAdd, Nat.reduceMul, mj_tn0, mj_tn1, mj_tn2, mj_tn3]))
def s_X2_readsStreets (dd : Nat) (rr : Nat) (I : mj_I) : Int32 × mj_I := if ((s_X2_takes (rr) 121 I).1 : Int32) = 0 then (0, (s_X2_takes (rr) 121 I).2) else (if (((s_X2_takeDigit (rr) 2 6 ((s_X2_takes (rr) 121 I).2)).1) : Int32) < 0 then (0, ((s_X2_takeDigit (rr) 2 6 ((s_X2_takes (rr) 121 I).2)).2)) else ((s_X2_st (dd) (rr) (((s_X2_takeDigit (rr) 2 6 ((s_X2_takes (rr) 121 I).2)).1)) 6 0  (mj_upI (((s_X2_takeDigit (rr) 2 6 ((s_X2_takes (rr) 121 I).2)).2)) dd 0 (((s_X2_takeDigit (rr) 2 6 ((s_X2_takes (rr) 121 I).2)).1)))).1, (s_X2_st (dd) (rr) (((s_X2_takeDigit (rr) 2 6 ((s_X2_takes (rr) 121 I).2)).1)) 6 0  (mj_upI (((s_X2_takeDigit (rr) 2 6 ((s_X2_takes (rr) 121 I).2)).2)) dd 0 (((s_X2_takeDigit (rr) 2 6 ((s_X2_takes (rr) 121 I).2)).1)))).2))
set_option maxHeartbeats 8000000 in
theorem x_X2_readsStreets (l : Launch) (b base : Nat) (D : va_G) (z : mj_K × (Int32 → Int32)) (N : Nat) (dd : Nat) (rr : Nat) (hdd : dd = 2 ∨ dd = 10) (hrr : rr = 35 ∨ rr = 37 ∨ rr = 39 ∨ rr = 41) (I : mj_I) (c : Nat) : mj_Rn l b base D z mj_m_X2_readsStreets 0 [.ref 18, .ref dd, mj_mk, mj_mk] [] (mj_KS N, I, mj_PP c dd rr) (mj_E N (some (.int (s_X2_readsStreets dd rr I).1)) (s_X2_readsStreets dd rr I).2 (mj_PP c dd rr)) := by
  rcases hdd with rfl | rfl <;> rcases hrr with rfl | rfl | rfl | rfl
  · skip
    refine R_seg (φ := []) (pc' := 3) (L' := [.ref 18, .ref 2, mj_mk, mj_mk]) (st' := [.int 121, .ref 18]) (σ' := (mj_KS N, I, mj_PP c (2) (35))) 2 rfl trivial ?_
    refine R_ce (idx := 35) (mid := 25) (kind := 0) (N := N) (M' := mj_m_X2_takes) (As := [.ref 18, .int 121]) (rest := []) (I := I) (P := mj_PP c (2) (35)) (I' := (s_X2_takes (35) 121 I).2) (P' := mj_PP c (2) (35)) (v := some (.int ((s_X2_takes (35) 121 I).1))) rfl rfl rfl mj_mc25 mj_dc25 rfl rfl rfl rfl rfl rfl (x_X2_takes l b base D z N (35) 121 (by decide) I c (2) ) ?_
    refine R_seg (φ := []) (pc' := 6) (L' := [.ref 18, .ref 2, mj_mk, mj_mk]) (st' := [.int ((s_X2_takes (35) 121 I).1)]) (σ' := (mj_KS N, (s_X2_takes (35) 121 I).2, mj_PP c (2) (35))) 0 rfl trivial ?_
    refine R_br (q := ((s_X2_takes (35) 121 I).1 : Int32) = 0) (t := 9) (f := 11) (rest := []) rfl (fun h1 => ?_) (fun h1 => ?_)
    · skip
      refine R_seg (φ := []) (pc' := 10) (L' := [.ref 18, .ref 2, mj_mk, mj_mk]) (st' := [.int 0]) (σ' := (mj_KS N, (s_X2_takes (35) 121 I).2, mj_PP c (2) (35))) 1 rfl trivial ?_
      exact R_rb rfl rfl (Or.inl rfl) (mj_leaf (by simp only [s_X2_readsStreets, if_pos h1, Bool.false_eq_true, ↓reduceIte, Nat.reduceAdd, Nat.reduceMul, mj_tn0, mj_tn1, mj_tn2, mj_tn3]) (by simp only [s_X2_readsStreets, if_pos h1, Bool.false_eq_true, ↓reduceIte, Nat.reduceAdd, Nat.reduceMul, mj_tn0, mj_tn1, mj_tn2, mj_tn3]))
    · skip
      refine R_seg (φ := []) (pc' := 15) (L' := [.ref 18, .ref 2, mj_mk, mj_mk]) (st' := [.int 6, .int 2, .ref 18]) (σ' := (mj_KS N, (s_X2_takes (35) 121 I).2, mj_PP c (2) (35))) 3 rfl trivial ?_
      refine R_ce (idx := 39) (mid := 26) (kind := 0) (N := N) (M' := mj_m_X2_takeDigit) (As := [.ref 18, .int 2, .int 6]) (rest := []) (I := (s_X2_takes (35) 121 I).2) (P := mj_PP c (2) (35)) (I' := (s_X2_takeDigit (35) 2 6 ((s_X2_takes (35) 121 I).2)).2) (P' := mj_PP c (2) (35)) (v := some (.int ((s_X2_takeDigit (35) 2 6 ((s_X2_takes (35) 121 I).2)).1))) rfl rfl rfl mj_mc26 mj_dc26 rfl rfl rfl rfl rfl rfl (x_X2_takeDigitG l b base D z N (35) 2 6 (by decide) ((s_X2_takes (35) 121 I).2) c (2) (by decide) (by decide) 2 (by decide)) ?_
      have f0 : (s_X2_takeDigit (35) 2 6 ((s_X2_takes (35) 121 I).2)).1.toInt ≤ 6 := mj_td_le (by decide) (by decide)
      generalize hg0 : s_X2_takeDigit (35) 2 6 ((s_X2_takes (35) 121 I).2) = g0 at f0 ⊢
      refine R_seg (φ := []) (pc' := 20) (L' := [.ref 18, .ref 2, .int (g0.1), mj_mk]) (st' := [.int (g0.1)]) (σ' := (mj_KS N, g0.2, mj_PP c (2) (35))) 2 rfl trivial ?_
      refine R_br (q := (g0.1 : Int32) < 0) (t := 23) (f := 25) (rest := []) rfl (fun h2 => ?_) (fun h2 => ?_)
      · skip
        refine R_seg (φ := []) (pc' := 24) (L' := [.ref 18, .ref 2, .int (g0.1), mj_mk]) (st' := [.int 0]) (σ' := (mj_KS N, g0.2, mj_PP c (2) (35))) 1 rfl trivial ?_
        exact R_rb rfl rfl (Or.inl rfl) (mj_leaf (by simp only [s_X2_readsStreets, hg0, if_neg h1, if_pos h2, Bool.false_eq_true, ↓reduceIte, Nat.reduceAdd, Nat.reduceMul, mj_tn0, mj_tn1, mj_tn2, mj_tn3]) (by simp only [s_X2_readsStreets, hg0, if_neg h1, if_pos h2, Bool.false_eq_true, ↓reduceIte, Nat.reduceAdd, Nat.reduceMul, mj_tn0, mj_tn1, mj_tn2, mj_tn3]))
      · skip
        refine R_seg (φ := []) (pc' := 32) (L' := [.ref 18, .ref 2, .int (g0.1), .int 0]) (st' := []) (σ' := (mj_KS N, (mj_upI (g0.2) 2 0 (g0.1)), mj_PP c (2) (35))) 5 rfl trivial ?_
        simp only [s_X2_readsStreets, hg0, if_neg h1, if_neg h2, Bool.false_eq_true, ↓reduceIte, Nat.reduceAdd, Nat.reduceMul, mj_tn0, mj_tn1, mj_tn2, mj_tn3]
        exact x_X2_st l b base D z N (2) (35) (g0.1) (by decide) (by decide) c f0 6 0  (mj_upI (g0.2) 2 0 (g0.1)) (by omega) (by omega) (by omega)
  · skip
    refine R_seg (φ := []) (pc' := 3) (L' := [.ref 18, .ref 2, mj_mk, mj_mk]) (st' := [.int 121, .ref 18]) (σ' := (mj_KS N, I, mj_PP c (2) (37))) 2 rfl trivial ?_
    refine R_ce (idx := 35) (mid := 25) (kind := 0) (N := N) (M' := mj_m_X2_takes) (As := [.ref 18, .int 121]) (rest := []) (I := I) (P := mj_PP c (2) (37)) (I' := (s_X2_takes (37) 121 I).2) (P' := mj_PP c (2) (37)) (v := some (.int ((s_X2_takes (37) 121 I).1))) rfl rfl rfl mj_mc25 mj_dc25 rfl rfl rfl rfl rfl rfl (x_X2_takes l b base D z N (37) 121 (by decide) I c (2) ) ?_
    refine R_seg (φ := []) (pc' := 6) (L' := [.ref 18, .ref 2, mj_mk, mj_mk]) (st' := [.int ((s_X2_takes (37) 121 I).1)]) (σ' := (mj_KS N, (s_X2_takes (37) 121 I).2, mj_PP c (2) (37))) 0 rfl trivial ?_
    refine R_br (q := ((s_X2_takes (37) 121 I).1 : Int32) = 0) (t := 9) (f := 11) (rest := []) rfl (fun h1 => ?_) (fun h1 => ?_)
    · skip
      refine R_seg (φ := []) (pc' := 10) (L' := [.ref 18, .ref 2, mj_mk, mj_mk]) (st' := [.int 0]) (σ' := (mj_KS N, (s_X2_takes (37) 121 I).2, mj_PP c (2) (37))) 1 rfl trivial ?_
      exact R_rb rfl rfl (Or.inl rfl) (mj_leaf (by simp only [s_X2_readsStreets, if_pos h1, Bool.false_eq_true, ↓reduceIte, Nat.reduceAdd, Nat.reduceMul, mj_tn0, mj_tn1, mj_tn2, mj_tn3]) (by simp only [s_X2_readsStreets, if_pos h1, Bool.false_eq_true, ↓reduceIte, Nat.reduceAdd, Nat.reduceMul, mj_tn0, mj_tn1, mj_tn2, mj_tn3]))
    · skip
      refine R_seg (φ := []) (pc' := 15) (L' := [.ref 18, .ref 2, mj_mk, mj_mk]) (st' := [.int 6, .int 2, .ref 18]) (σ' := (mj_KS N, (s_X2_takes (37) 121 I).2, mj_PP c (2) (37))) 3 rfl trivial ?_
      refine R_ce (idx := 39) (mid := 26) (kind := 0) (N := N) (M' := mj_m_X2_takeDigit) (As := [.ref 18, .int 2, .int 6]) (rest := []) (I := (s_X2_takes (37) 121 I).2) (P := mj_PP c (2) (37)) (I' := (s_X2_takeDigit (37) 2 6 ((s_X2_takes (37) 121 I).2)).2) (P' := mj_PP c (2) (37)) (v := some (.int ((s_X2_takeDigit (37) 2 6 ((s_X2_takes (37) 121 I).2)).1))) rfl rfl rfl mj_mc26 mj_dc26 rfl rfl rfl rfl rfl rfl (x_X2_takeDigitG l b base D z N (37) 2 6 (by decide) ((s_X2_takes (37) 121 I).2) c (2) (by decide) (by decide) 2 (by decide)) ?_
      have f0 : (s_X2_takeDigit (37) 2 6 ((s_X2_takes (37) 121 I).2)).1.toInt ≤ 6 := mj_td_le (by decide) (by decide)
      generalize hg0 : s_X2_takeDigit (37) 2 6 ((s_X2_takes (37) 121 I).2) = g0 at f0 ⊢
      refine R_seg (φ := []) (pc' := 20) (L' := [.ref 18, .ref 2, .int (g0.1), mj_mk]) (st' := [.int (g0.1)]) (σ' := (mj_KS N, g0.2, mj_PP c (2) (37))) 2 rfl trivial ?_
      refine R_br (q := (g0.1 : Int32) < 0) (t := 23) (f := 25) (rest := []) rfl (fun h2 => ?_) (fun h2 => ?_)
      · skip
        refine R_seg (φ := []) (pc' := 24) (L' := [.ref 18, .ref 2, .int (g0.1), mj_mk]) (st' := [.int 0]) (σ' := (mj_KS N, g0.2, mj_PP c (2) (37))) 1 rfl trivial ?_
        exact R_rb rfl rfl (Or.inl rfl) (mj_leaf (by simp only [s_X2_readsStreets, hg0, if_neg h1, if_pos h2, Bool.false_eq_true, ↓reduceIte, Nat.reduceAdd, Nat.reduceMul, mj_tn0, mj_tn1, mj_tn2, mj_tn3]) (by simp only [s_X2_readsStreets, hg0, if_neg h1, if_pos h2, Bool.false_eq_true, ↓reduceIte, Nat.reduceAdd, Nat.reduceMul, mj_tn0, mj_tn1, mj_tn2, mj_tn3]))
      · skip
        refine R_seg (φ := []) (pc' := 32) (L' := [.ref 18, .ref 2, .int (g0.1), .int 0]) (st' := []) (σ' := (mj_KS N, (mj_upI (g0.2) 2 0 (g0.1)), mj_PP c (2) (37))) 5 rfl trivial ?_
        simp only [s_X2_readsStreets, hg0, if_neg h1, if_neg h2, Bool.false_eq_true, ↓reduceIte, Nat.reduceAdd, Nat.reduceMul, mj_tn0, mj_tn1, mj_tn2, mj_tn3]
        exact x_X2_st l b base D z N (2) (37) (g0.1) (by decide) (by decide) c f0 6 0  (mj_upI (g0.2) 2 0 (g0.1)) (by omega) (by omega) (by omega)
  · skip
    refine R_seg (φ := []) (pc' := 3) (L' := [.ref 18, .ref 2, mj_mk, mj_mk]) (st' := [.int 121, .ref 18]) (σ' := (mj_KS N, I, mj_PP c (2) (39))) 2 rfl trivial ?_
    refine R_ce (idx := 35) (mid := 25) (kind := 0) (N := N) (M' := mj_m_X2_takes) (As := [.ref 18, .int 121]) (rest := []) (I := I) (P := mj_PP c (2) (39)) (I' := (s_X2_takes (39) 121 I).2) (P' := mj_PP c (2) (39)) (v := some (.int ((s_X2_takes (39) 121 I).1))) rfl rfl rfl mj_mc25 mj_dc25 rfl rfl rfl rfl rfl rfl (x_X2_takes l b base D z N (39) 121 (by decide) I c (2) ) ?_
    refine R_seg (φ := []) (pc' := 6) (L' := [.ref 18, .ref 2, mj_mk, mj_mk]) (st' := [.int ((s_X2_takes (39) 121 I).1)]) (σ' := (mj_KS N, (s_X2_takes (39) 121 I).2, mj_PP c (2) (39))) 0 rfl trivial ?_
    refine R_br (q := ((s_X2_takes (39) 121 I).1 : Int32) = 0) (t := 9) (f := 11) (rest := []) rfl (fun h1 => ?_) (fun h1 => ?_)
    · skip
      refine R_seg (φ := []) (pc' := 10) (L' := [.ref 18, .ref 2, mj_mk, mj_mk]) (st' := [.int 0]) (σ' := (mj_KS N, (s_X2_takes (39) 121 I).2, mj_PP c (2) (39))) 1 rfl trivial ?_
      exact R_rb rfl rfl (Or.inl rfl) (mj_leaf (by simp only [s_X2_readsStreets, if_pos h1, Bool.false_eq_true, ↓reduceIte, Nat.reduceAdd, Nat.reduceMul, mj_tn0, mj_tn1, mj_tn2, mj_tn3]) (by simp only [s_X2_readsStreets, if_pos h1, Bool.false_eq_true, ↓reduceIte, Nat.reduceAdd, Nat.reduceMul, mj_tn0, mj_tn1, mj_tn2, mj_tn3]))
    · skip
      refine R_seg (φ := []) (pc' := 15) (L' := [.ref 18, .ref 2, mj_mk, mj_mk]) (st' := [.int 6, .int 2, .ref 18]) (σ' := (mj_KS N, (s_X2_takes (39) 121 I).2, mj_PP c (2) (39))) 3 rfl trivial ?_
      refine R_ce (idx := 39) (mid := 26) (kind := 0) (N := N) (M' := mj_m_X2_takeDigit) (As := [.ref 18, .int 2, .int 6]) (rest := []) (I := (s_X2_takes (39) 121 I).2) (P := mj_PP c (2) (39)) (I' := (s_X2_takeDigit (39) 2 6 ((s_X2_takes (39) 121 I).2)).2) (P' := mj_PP c (2) (39)) (v := some (.int ((s_X2_takeDigit (39) 2 6 ((s_X2_takes (39) 121 I).2)).1))) rfl rfl rfl mj_mc26 mj_dc26 rfl rfl rfl rfl rfl rfl (x_X2_takeDigitG l b base D z N (39) 2 6 (by decide) ((s_X2_takes (39) 121 I).2) c (2) (by decide) (by decide) 2 (by decide)) ?_
      have f0 : (s_X2_takeDigit (39) 2 6 ((s_X2_takes (39) 121 I).2)).1.toInt ≤ 6 := mj_td_le (by decide) (by decide)
      generalize hg0 : s_X2_takeDigit (39) 2 6 ((s_X2_takes (39) 121 I).2) = g0 at f0 ⊢
      refine R_seg (φ := []) (pc' := 20) (L' := [.ref 18, .ref 2, .int (g0.1), mj_mk]) (st' := [.int (g0.1)]) (σ' := (mj_KS N, g0.2, mj_PP c (2) (39))) 2 rfl trivial ?_
      refine R_br (q := (g0.1 : Int32) < 0) (t := 23) (f := 25) (rest := []) rfl (fun h2 => ?_) (fun h2 => ?_)
      · skip
        refine R_seg (φ := []) (pc' := 24) (L' := [.ref 18, .ref 2, .int (g0.1), mj_mk]) (st' := [.int 0]) (σ' := (mj_KS N, g0.2, mj_PP c (2) (39))) 1 rfl trivial ?_
        exact R_rb rfl rfl (Or.inl rfl) (mj_leaf (by simp only [s_X2_readsStreets, hg0, if_neg h1, if_pos h2, Bool.false_eq_true, ↓reduceIte, Nat.reduceAdd, Nat.reduceMul, mj_tn0, mj_tn1, mj_tn2, mj_tn3]) (by simp only [s_X2_readsStreets, hg0, if_neg h1, if_pos h2, Bool.false_eq_true, ↓reduceIte, Nat.reduceAdd, Nat.reduceMul, mj_tn0, mj_tn1, mj_tn2, mj_tn3]))
      · skip
        refine R_seg (φ := []) (pc' := 32) (L' := [.ref 18, .ref 2, .int (g0.1), .int 0]) (st' := []) (σ' := (mj_KS N, (mj_upI (g0.2) 2 0 (g0.1)), mj_PP c (2) (39))) 5 rfl trivial ?_
        simp only [s_X2_readsStreets, hg0, if_neg h1, if_neg h2, Bool.false_eq_true, ↓reduceIte, Nat.reduceAdd, Nat.reduceMul, mj_tn0, mj_tn1, mj_tn2, mj_tn3]
        exact x_X2_st l b base D z N (2) (39) (g0.1) (by decide) (by decide) c f0 6 0  (mj_upI (g0.2) 2 0 (g0.1)) (by omega) (by omega) (by omega)
  · skip
    refine R_seg (φ := []) (pc' := 3) (L' := [.ref 18, .ref 2, mj_mk, mj_mk]) (st' := [.int 121, .ref 18]) (σ' := (mj_KS N, I, mj_PP c (2) (41))) 2 rfl trivial ?_
    refine R_ce (idx := 35) (mid := 25) (kind := 0) (N := N) (M' := mj_m_X2_takes) (As := [.ref 18, .int 121]) (rest := []) (I := I) (P := mj_PP c (2) (41)) (I' := (s_X2_takes (41) 121 I).2) (P' := mj_PP c (2) (41)) (v := some (.int ((s_X2_takes (41) 121 I).1))) rfl rfl rfl mj_mc25 mj_dc25 rfl rfl rfl rfl rfl rfl (x_X2_takes l b base D z N (41) 121 (by decide) I c (2) ) ?_
    refine R_seg (φ := []) (pc' := 6) (L' := [.ref 18, .ref 2, mj_mk, mj_mk]) (st' := [.int ((s_X2_takes (41) 121 I).1)]) (σ' := (mj_KS N, (s_X2_takes (41) 121 I).2, mj_PP c (2) (41))) 0 rfl trivial ?_
    refine R_br (q := ((s_X2_takes (41) 121 I).1 : Int32) = 0) (t := 9) (f := 11) (rest := []) rfl (fun h1 => ?_) (fun h1 => ?_)
    · skip
      refine R_seg (φ := []) (pc' := 10) (L' := [.ref 18, .ref 2, mj_mk, mj_mk]) (st' := [.int 0]) (σ' := (mj_KS N, (s_X2_takes (41) 121 I).2, mj_PP c (2) (41))) 1 rfl trivial ?_
      exact R_rb rfl rfl (Or.inl rfl) (mj_leaf (by simp only [s_X2_readsStreets, if_pos h1, Bool.false_eq_true, ↓reduceIte, Nat.reduceAdd, Nat.reduceMul, mj_tn0, mj_tn1, mj_tn2, mj_tn3]) (by simp only [s_X2_readsStreets, if_pos h1, Bool.false_eq_true, ↓reduceIte, Nat.reduceAdd, Nat.reduceMul, mj_tn0, mj_tn1, mj_tn2, mj_tn3]))
    · skip
      refine R_seg (φ := []) (pc' := 15) (L' := [.ref 18, .ref 2, mj_mk, mj_mk]) (st' := [.int 6, .int 2, .ref 18]) (σ' := (mj_KS N, (s_X2_takes (41) 121 I).2, mj_PP c (2) (41))) 3 rfl trivial ?_
      refine R_ce (idx := 39) (mid := 26) (kind := 0) (N := N) (M' := mj_m_X2_takeDigit) (As := [.ref 18, .int 2, .int 6]) (rest := []) (I := (s_X2_takes (41) 121 I).2) (P := mj_PP c (2) (41)) (I' := (s_X2_takeDigit (41) 2 6 ((s_X2_takes (41) 121 I).2)).2) (P' := mj_PP c (2) (41)) (v := some (.int ((s_X2_takeDigit (41) 2 6 ((s_X2_takes (41) 121 I).2)).1))) rfl rfl rfl mj_mc26 mj_dc26 rfl rfl rfl rfl rfl rfl (x_X2_takeDigitG l b base D z N (41) 2 6 (by decide) ((s_X2_takes (41) 121 I).2) c (2) (by decide) (by decide) 2 (by decide)) ?_
      have f0 : (s_X2_takeDigit (41) 2 6 ((s_X2_takes (41) 121 I).2)).1.toInt ≤ 6 := mj_td_le (by decide) (by decide)
      generalize hg0 : s_X2_takeDigit (41) 2 6 ((s_X2_takes (41) 121 I).2) = g0 at f0 ⊢
      refine R_seg (φ := []) (pc' := 20) (L' := [.ref 18, .ref 2, .int (g0.1), mj_mk]) (st' := [.int (g0.1)]) (σ' := (mj_KS N, g0.2, mj_PP c (2) (41))) 2 rfl trivial ?_
      refine R_br (q := (g0.1 : Int32) < 0) (t := 23) (f := 25) (rest := []) rfl (fun h2 => ?_) (fun h2 => ?_)
      · skip
        refine R_seg (φ := []) (pc' := 24) (L' := [.ref 18, .ref 2, .int (g0.1), mj_mk]) (st' := [.int 0]) (σ' := (mj_KS N, g0.2, mj_PP c (2) (41))) 1 rfl trivial ?_
        exact R_rb rfl rfl (Or.inl rfl) (mj_leaf (by simp only [s_X2_readsStreets, hg0, if_neg h1, if_pos h2, Bool.false_eq_true, ↓reduceIte, Nat.reduceAdd, Nat.reduceMul, mj_tn0, mj_tn1, mj_tn2, mj_tn3]) (by simp only [s_X2_readsStreets, hg0, if_neg h1, if_pos h2, Bool.false_eq_true, ↓reduceIte, Nat.reduceAdd, Nat.reduceMul, mj_tn0, mj_tn1, mj_tn2, mj_tn3]))
      · skip
        refine R_seg (φ := []) (pc' := 32) (L' := [.ref 18, .ref 2, .int (g0.1), .int 0]) (st' := []) (σ' := (mj_KS N, (mj_upI (g0.2) 2 0 (g0.1)), mj_PP c (2) (41))) 5 rfl trivial ?_
        simp only [s_X2_readsStreets, hg0, if_neg h1, if_neg h2, Bool.false_eq_true, ↓reduceIte, Nat.reduceAdd, Nat.reduceMul, mj_tn0, mj_tn1, mj_tn2, mj_tn3]
        exact x_X2_st l b base D z N (2) (41) (g0.1) (by decide) (by decide) c f0 6 0  (mj_upI (g0.2) 2 0 (g0.1)) (by omega) (by omega) (by omega)
  · skip
    refine R_seg (φ := []) (pc' := 3) (L' := [.ref 18, .ref 10, mj_mk, mj_mk]) (st' := [.int 121, .ref 18]) (σ' := (mj_KS N, I, mj_PP c (10) (35))) 2 rfl trivial ?_
    refine R_ce (idx := 35) (mid := 25) (kind := 0) (N := N) (M' := mj_m_X2_takes) (As := [.ref 18, .int 121]) (rest := []) (I := I) (P := mj_PP c (10) (35)) (I' := (s_X2_takes (35) 121 I).2) (P' := mj_PP c (10) (35)) (v := some (.int ((s_X2_takes (35) 121 I).1))) rfl rfl rfl mj_mc25 mj_dc25 rfl rfl rfl rfl rfl rfl (x_X2_takes l b base D z N (35) 121 (by decide) I c (10) ) ?_
    refine R_seg (φ := []) (pc' := 6) (L' := [.ref 18, .ref 10, mj_mk, mj_mk]) (st' := [.int ((s_X2_takes (35) 121 I).1)]) (σ' := (mj_KS N, (s_X2_takes (35) 121 I).2, mj_PP c (10) (35))) 0 rfl trivial ?_
    refine R_br (q := ((s_X2_takes (35) 121 I).1 : Int32) = 0) (t := 9) (f := 11) (rest := []) rfl (fun h1 => ?_) (fun h1 => ?_)
    · skip
      refine R_seg (φ := []) (pc' := 10) (L' := [.ref 18, .ref 10, mj_mk, mj_mk]) (st' := [.int 0]) (σ' := (mj_KS N, (s_X2_takes (35) 121 I).2, mj_PP c (10) (35))) 1 rfl trivial ?_
      exact R_rb rfl rfl (Or.inl rfl) (mj_leaf (by simp only [s_X2_readsStreets, if_pos h1, Bool.false_eq_true, ↓reduceIte, Nat.reduceAdd, Nat.reduceMul, mj_tn0, mj_tn1, mj_tn2, mj_tn3]) (by simp only [s_X2_readsStreets, if_pos h1, Bool.false_eq_true, ↓reduceIte, Nat.reduceAdd, Nat.reduceMul, mj_tn0, mj_tn1, mj_tn2, mj_tn3]))
    · skip
      refine R_seg (φ := []) (pc' := 15) (L' := [.ref 18, .ref 10, mj_mk, mj_mk]) (st' := [.int 6, .int 2, .ref 18]) (σ' := (mj_KS N, (s_X2_takes (35) 121 I).2, mj_PP c (10) (35))) 3 rfl trivial ?_
      refine R_ce (idx := 39) (mid := 26) (kind := 0) (N := N) (M' := mj_m_X2_takeDigit) (As := [.ref 18, .int 2, .int 6]) (rest := []) (I := (s_X2_takes (35) 121 I).2) (P := mj_PP c (10) (35)) (I' := (s_X2_takeDigit (35) 2 6 ((s_X2_takes (35) 121 I).2)).2) (P' := mj_PP c (10) (35)) (v := some (.int ((s_X2_takeDigit (35) 2 6 ((s_X2_takes (35) 121 I).2)).1))) rfl rfl rfl mj_mc26 mj_dc26 rfl rfl rfl rfl rfl rfl (x_X2_takeDigitG l b base D z N (35) 2 6 (by decide) ((s_X2_takes (35) 121 I).2) c (10) (by decide) (by decide) 2 (by decide)) ?_
      have f0 : (s_X2_takeDigit (35) 2 6 ((s_X2_takes (35) 121 I).2)).1.toInt ≤ 6 := mj_td_le (by decide) (by decide)
      generalize hg0 : s_X2_takeDigit (35) 2 6 ((s_X2_takes (35) 121 I).2) = g0 at f0 ⊢
      refine R_seg (φ := []) (pc' := 20) (L' := [.ref 18, .ref 10, .int (g0.1), mj_mk]) (st' := [.int (g0.1)]) (σ' := (mj_KS N, g0.2, mj_PP c (10) (35))) 2 rfl trivial ?_
      refine R_br (q := (g0.1 : Int32) < 0) (t := 23) (f := 25) (rest := []) rfl (fun h2 => ?_) (fun h2 => ?_)
      · skip
        refine R_seg (φ := []) (pc' := 24) (L' := [.ref 18, .ref 10, .int (g0.1), mj_mk]) (st' := [.int 0]) (σ' := (mj_KS N, g0.2, mj_PP c (10) (35))) 1 rfl trivial ?_
        exact R_rb rfl rfl (Or.inl rfl) (mj_leaf (by simp only [s_X2_readsStreets, hg0, if_neg h1, if_pos h2, Bool.false_eq_true, ↓reduceIte, Nat.reduceAdd, Nat.reduceMul, mj_tn0, mj_tn1, mj_tn2, mj_tn3]) (by simp only [s_X2_readsStreets, hg0, if_neg h1, if_pos h2, Bool.false_eq_true, ↓reduceIte, Nat.reduceAdd, Nat.reduceMul, mj_tn0, mj_tn1, mj_tn2, mj_tn3]))
      · skip
        refine R_seg (φ := []) (pc' := 32) (L' := [.ref 18, .ref 10, .int (g0.1), .int 0]) (st' := []) (σ' := (mj_KS N, (mj_upI (g0.2) 10 0 (g0.1)), mj_PP c (10) (35))) 5 rfl trivial ?_
        simp only [s_X2_readsStreets, hg0, if_neg h1, if_neg h2, Bool.false_eq_true, ↓reduceIte, Nat.reduceAdd, Nat.reduceMul, mj_tn0, mj_tn1, mj_tn2, mj_tn3]
        exact x_X2_st l b base D z N (10) (35) (g0.1) (by decide) (by decide) c f0 6 0  (mj_upI (g0.2) 10 0 (g0.1)) (by omega) (by omega) (by omega)
  · skip
    refine R_seg (φ := []) (pc' := 3) (L' := [.ref 18, .ref 10, mj_mk, mj_mk]) (st' := [.int 121, .ref 18]) (σ' := (mj_KS N, I, mj_PP c (10) (37))) 2 rfl trivial ?_
    refine R_ce (idx := 35) (mid := 25) (kind := 0) (N := N) (M' := mj_m_X2_takes) (As := [.ref 18, .int 121]) (rest := []) (I := I) (P := mj_PP c (10) (37)) (I' := (s_X2_takes (37) 121 I).2) (P' := mj_PP c (10) (37)) (v := some (.int ((s_X2_takes (37) 121 I).1))) rfl rfl rfl mj_mc25 mj_dc25 rfl rfl rfl rfl rfl rfl (x_X2_takes l b base D z N (37) 121 (by decide) I c (10) ) ?_
    refine R_seg (φ := []) (pc' := 6) (L' := [.ref 18, .ref 10, mj_mk, mj_mk]) (st' := [.int ((s_X2_takes (37) 121 I).1)]) (σ' := (mj_KS N, (s_X2_takes (37) 121 I).2, mj_PP c (10) (37))) 0 rfl trivial ?_
    refine R_br (q := ((s_X2_takes (37) 121 I).1 : Int32) = 0) (t := 9) (f := 11) (rest := []) rfl (fun h1 => ?_) (fun h1 => ?_)
    · skip
      refine R_seg (φ := []) (pc' := 10) (L' := [.ref 18, .ref 10, mj_mk, mj_mk]) (st' := [.int 0]) (σ' := (mj_KS N, (s_X2_takes (37) 121 I).2, mj_PP c (10) (37))) 1 rfl trivial ?_
      exact R_rb rfl rfl (Or.inl rfl) (mj_leaf (by simp only [s_X2_readsStreets, if_pos h1, Bool.false_eq_true, ↓reduceIte, Nat.reduceAdd, Nat.reduceMul, mj_tn0, mj_tn1, mj_tn2, mj_tn3]) (by simp only [s_X2_readsStreets, if_pos h1, Bool.false_eq_true, ↓reduceIte, Nat.reduceAdd, Nat.reduceMul, mj_tn0, mj_tn1, mj_tn2, mj_tn3]))
    · skip
      refine R_seg (φ := []) (pc' := 15) (L' := [.ref 18, .ref 10, mj_mk, mj_mk]) (st' := [.int 6, .int 2, .ref 18]) (σ' := (mj_KS N, (s_X2_takes (37) 121 I).2, mj_PP c (10) (37))) 3 rfl trivial ?_
      refine R_ce (idx := 39) (mid := 26) (kind := 0) (N := N) (M' := mj_m_X2_takeDigit) (As := [.ref 18, .int 2, .int 6]) (rest := []) (I := (s_X2_takes (37) 121 I).2) (P := mj_PP c (10) (37)) (I' := (s_X2_takeDigit (37) 2 6 ((s_X2_takes (37) 121 I).2)).2) (P' := mj_PP c (10) (37)) (v := some (.int ((s_X2_takeDigit (37) 2 6 ((s_X2_takes (37) 121 I).2)).1))) rfl rfl rfl mj_mc26 mj_dc26 rfl rfl rfl rfl rfl rfl (x_X2_takeDigitG l b base D z N (37) 2 6 (by decide) ((s_X2_takes (37) 121 I).2) c (10) (by decide) (by decide) 2 (by decide)) ?_
      have f0 : (s_X2_takeDigit (37) 2 6 ((s_X2_takes (37) 121 I).2)).1.toInt ≤ 6 := mj_td_le (by decide) (by decide)
      generalize hg0 : s_X2_takeDigit (37) 2 6 ((s_X2_takes (37) 121 I).2) = g0 at f0 ⊢
      refine R_seg (φ := []) (pc' := 20) (L' := [.ref 18, .ref 10, .int (g0.1), mj_mk]) (st' := [.int (g0.1)]) (σ' := (mj_KS N, g0.2, mj_PP c (10) (37))) 2 rfl trivial ?_
      refine R_br (q := (g0.1 : Int32) < 0) (t := 23) (f := 25) (rest := []) rfl (fun h2 => ?_) (fun h2 => ?_)
      · skip
        refine R_seg (φ := []) (pc' := 24) (L' := [.ref 18, .ref 10, .int (g0.1), mj_mk]) (st' := [.int 0]) (σ' := (mj_KS N, g0.2, mj_PP c (10) (37))) 1 rfl trivial ?_
        exact R_rb rfl rfl (Or.inl rfl) (mj_leaf (by simp only [s_X2_readsStreets, hg0, if_neg h1, if_pos h2, Bool.false_eq_true, ↓reduceIte, Nat.reduceAdd, Nat.reduceMul, mj_tn0, mj_tn1, mj_tn2, mj_tn3]) (by simp only [s_X2_readsStreets, hg0, if_neg h1, if_pos h2, Bool.false_eq_true, ↓reduceIte, Nat.reduceAdd, Nat.reduceMul, mj_tn0, mj_tn1, mj_tn2, mj_tn3]))
      · skip
        refine R_seg (φ := []) (pc' := 32) (L' := [.ref 18, .ref 10, .int (g0.1), .int 0]) (st' := []) (σ' := (mj_KS N, (mj_upI (g0.2) 10 0 (g0.1)), mj_PP c (10) (37))) 5 rfl trivial ?_
        simp only [s_X2_readsStreets, hg0, if_neg h1, if_neg h2, Bool.false_eq_true, ↓reduceIte, Nat.reduceAdd, Nat.reduceMul, mj_tn0, mj_tn1, mj_tn2, mj_tn3]
        exact x_X2_st l b base D z N (10) (37) (g0.1) (by decide) (by decide) c f0 6 0  (mj_upI (g0.2) 10 0 (g0.1)) (by omega) (by omega) (by omega)
  · skip
    refine R_seg (φ := []) (pc' := 3) (L' := [.ref 18, .ref 10, mj_mk, mj_mk]) (st' := [.int 121, .ref 18]) (σ' := (mj_KS N, I, mj_PP c (10) (39))) 2 rfl trivial ?_
    refine R_ce (idx := 35) (mid := 25) (kind := 0) (N := N) (M' := mj_m_X2_takes) (As := [.ref 18, .int 121]) (rest := []) (I := I) (P := mj_PP c (10) (39)) (I' := (s_X2_takes (39) 121 I).2) (P' := mj_PP c (10) (39)) (v := some (.int ((s_X2_takes (39) 121 I).1))) rfl rfl rfl mj_mc25 mj_dc25 rfl rfl rfl rfl rfl rfl (x_X2_takes l b base D z N (39) 121 (by decide) I c (10) ) ?_
    refine R_seg (φ := []) (pc' := 6) (L' := [.ref 18, .ref 10, mj_mk, mj_mk]) (st' := [.int ((s_X2_takes (39) 121 I).1)]) (σ' := (mj_KS N, (s_X2_takes (39) 121 I).2, mj_PP c (10) (39))) 0 rfl trivial ?_
    refine R_br (q := ((s_X2_takes (39) 121 I).1 : Int32) = 0) (t := 9) (f := 11) (rest := []) rfl (fun h1 => ?_) (fun h1 => ?_)
    · skip
      refine R_seg (φ := []) (pc' := 10) (L' := [.ref 18, .ref 10, mj_mk, mj_mk]) (st' := [.int 0]) (σ' := (mj_KS N, (s_X2_takes (39) 121 I).2, mj_PP c (10) (39))) 1 rfl trivial ?_
      exact R_rb rfl rfl (Or.inl rfl) (mj_leaf (by simp only [s_X2_readsStreets, if_pos h1, Bool.false_eq_true, ↓reduceIte, Nat.reduceAdd, Nat.reduceMul, mj_tn0, mj_tn1, mj_tn2, mj_tn3]) (by simp only [s_X2_readsStreets, if_pos h1, Bool.false_eq_true, ↓reduceIte, Nat.reduceAdd, Nat.reduceMul, mj_tn0, mj_tn1, mj_tn2, mj_tn3]))
    · skip
      refine R_seg (φ := []) (pc' := 15) (L' := [.ref 18, .ref 10, mj_mk, mj_mk]) (st' := [.int 6, .int 2, .ref 18]) (σ' := (mj_KS N, (s_X2_takes (39) 121 I).2, mj_PP c (10) (39))) 3 rfl trivial ?_
      refine R_ce (idx := 39) (mid := 26) (kind := 0) (N := N) (M' := mj_m_X2_takeDigit) (As := [.ref 18, .int 2, .int 6]) (rest := []) (I := (s_X2_takes (39) 121 I).2) (P := mj_PP c (10) (39)) (I' := (s_X2_takeDigit (39) 2 6 ((s_X2_takes (39) 121 I).2)).2) (P' := mj_PP c (10) (39)) (v := some (.int ((s_X2_takeDigit (39) 2 6 ((s_X2_takes (39) 121 I).2)).1))) rfl rfl rfl mj_mc26 mj_dc26 rfl rfl rfl rfl rfl rfl (x_X2_takeDigitG l b base D z N (39) 2 6 (by decide) ((s_X2_takes (39) 121 I).2) c (10) (by decide) (by decide) 2 (by decide)) ?_
      have f0 : (s_X2_takeDigit (39) 2 6 ((s_X2_takes (39) 121 I).2)).1.toInt ≤ 6 := mj_td_le (by decide) (by decide)
      generalize hg0 : s_X2_takeDigit (39) 2 6 ((s_X2_takes (39) 121 I).2) = g0 at f0 ⊢
      refine R_seg (φ := []) (pc' := 20) (L' := [.ref 18, .ref 10, .int (g0.1), mj_mk]) (st' := [.int (g0.1)]) (σ' := (mj_KS N, g0.2, mj_PP c (10) (39))) 2 rfl trivial ?_
      refine R_br (q := (g0.1 : Int32) < 0) (t := 23) (f := 25) (rest := []) rfl (fun h2 => ?_) (fun h2 => ?_)
      · skip
        refine R_seg (φ := []) (pc' := 24) (L' := [.ref 18, .ref 10, .int (g0.1), mj_mk]) (st' := [.int 0]) (σ' := (mj_KS N, g0.2, mj_PP c (10) (39))) 1 rfl trivial ?_
        exact R_rb rfl rfl (Or.inl rfl) (mj_leaf (by simp only [s_X2_readsStreets, hg0, if_neg h1, if_pos h2, Bool.false_eq_true, ↓reduceIte, Nat.reduceAdd, Nat.reduceMul, mj_tn0, mj_tn1, mj_tn2, mj_tn3]) (by simp only [s_X2_readsStreets, hg0, if_neg h1, if_pos h2, Bool.false_eq_true, ↓reduceIte, Nat.reduceAdd, Nat.reduceMul, mj_tn0, mj_tn1, mj_tn2, mj_tn3]))
      · skip
        refine R_seg (φ := []) (pc' := 32) (L' := [.ref 18, .ref 10, .int (g0.1), .int 0]) (st' := []) (σ' := (mj_KS N, (mj_upI (g0.2) 10 0 (g0.1)), mj_PP c (10) (39))) 5 rfl trivial ?_
        simp only [s_X2_readsStreets, hg0, if_neg h1, if_neg h2, Bool.false_eq_true, ↓reduceIte, Nat.reduceAdd, Nat.reduceMul, mj_tn0, mj_tn1, mj_tn2, mj_tn3]
        exact x_X2_st l b base D z N (10) (39) (g0.1) (by decide) (by decide) c f0 6 0  (mj_upI (g0.2) 10 0 (g0.1)) (by omega) (by omega) (by omega)
  · skip
    refine R_seg (φ := []) (pc' := 3) (L' := [.ref 18, .ref 10, mj_mk, mj_mk]) (st' := [.int 121, .ref 18]) (σ' := (mj_KS N, I, mj_PP c (10) (41))) 2 rfl trivial ?_
    refine R_ce (idx := 35) (mid := 25) (kind := 0) (N := N) (M' := mj_m_X2_takes) (As := [.ref 18, .int 121]) (rest := []) (I := I) (P := mj_PP c (10) (41)) (I' := (s_X2_takes (41) 121 I).2) (P' := mj_PP c (10) (41)) (v := some (.int ((s_X2_takes (41) 121 I).1))) rfl rfl rfl mj_mc25 mj_dc25 rfl rfl rfl rfl rfl rfl (x_X2_takes l b base D z N (41) 121 (by decide) I c (10) ) ?_
    refine R_seg (φ := []) (pc' := 6) (L' := [.ref 18, .ref 10, mj_mk, mj_mk]) (st' := [.int ((s_X2_takes (41) 121 I).1)]) (σ' := (mj_KS N, (s_X2_takes (41) 121 I).2, mj_PP c (10) (41))) 0 rfl trivial ?_
    refine R_br (q := ((s_X2_takes (41) 121 I).1 : Int32) = 0) (t := 9) (f := 11) (rest := []) rfl (fun h1 => ?_) (fun h1 => ?_)
    · skip
      refine R_seg (φ := []) (pc' := 10) (L' := [.ref 18, .ref 10, mj_mk, mj_mk]) (st' := [.int 0]) (σ' := (mj_KS N, (s_X2_takes (41) 121 I).2, mj_PP c (10) (41))) 1 rfl trivial ?_
      exact R_rb rfl rfl (Or.inl rfl) (mj_leaf (by simp only [s_X2_readsStreets, if_pos h1, Bool.false_eq_true, ↓reduceIte, Nat.reduceAdd, Nat.reduceMul, mj_tn0, mj_tn1, mj_tn2, mj_tn3]) (by simp only [s_X2_readsStreets, if_pos h1, Bool.false_eq_true, ↓reduceIte, Nat.reduceAdd, Nat.reduceMul, mj_tn0, mj_tn1, mj_tn2, mj_tn3]))
    · skip
      refine R_seg (φ := []) (pc' := 15) (L' := [.ref 18, .ref 10, mj_mk, mj_mk]) (st' := [.int 6, .int 2, .ref 18]) (σ' := (mj_KS N, (s_X2_takes (41) 121 I).2, mj_PP c (10) (41))) 3 rfl trivial ?_
      refine R_ce (idx := 39) (mid := 26) (kind := 0) (N := N) (M' := mj_m_X2_takeDigit) (As := [.ref 18, .int 2, .int 6]) (rest := []) (I := (s_X2_takes (41) 121 I).2) (P := mj_PP c (10) (41)) (I' := (s_X2_takeDigit (41) 2 6 ((s_X2_takes (41) 121 I).2)).2) (P' := mj_PP c (10) (41)) (v := some (.int ((s_X2_takeDigit (41) 2 6 ((s_X2_takes (41) 121 I).2)).1))) rfl rfl rfl mj_mc26 mj_dc26 rfl rfl rfl rfl rfl rfl (x_X2_takeDigitG l b base D z N (41) 2 6 (by decide) ((s_X2_takes (41) 121 I).2) c (10) (by decide) (by decide) 2 (by decide)) ?_
      have f0 : (s_X2_takeDigit (41) 2 6 ((s_X2_takes (41) 121 I).2)).1.toInt ≤ 6 := mj_td_le (by decide) (by decide)
      generalize hg0 : s_X2_takeDigit (41) 2 6 ((s_X2_takes (41) 121 I).2) = g0 at f0 ⊢
      refine R_seg (φ := []) (pc' := 20) (L' := [.ref 18, .ref 10, .int (g0.1), mj_mk]) (st' := [.int (g0.1)]) (σ' := (mj_KS N, g0.2, mj_PP c (10) (41))) 2 rfl trivial ?_
      refine R_br (q := (g0.1 : Int32) < 0) (t := 23) (f := 25) (rest := []) rfl (fun h2 => ?_) (fun h2 => ?_)
      · skip
        refine R_seg (φ := []) (pc' := 24) (L' := [.ref 18, .ref 10, .int (g0.1), mj_mk]) (st' := [.int 0]) (σ' := (mj_KS N, g0.2, mj_PP c (10) (41))) 1 rfl trivial ?_
        exact R_rb rfl rfl (Or.inl rfl) (mj_leaf (by simp only [s_X2_readsStreets, hg0, if_neg h1, if_pos h2, Bool.false_eq_true, ↓reduceIte, Nat.reduceAdd, Nat.reduceMul, mj_tn0, mj_tn1, mj_tn2, mj_tn3]) (by simp only [s_X2_readsStreets, hg0, if_neg h1, if_pos h2, Bool.false_eq_true, ↓reduceIte, Nat.reduceAdd, Nat.reduceMul, mj_tn0, mj_tn1, mj_tn2, mj_tn3]))
      · skip
        refine R_seg (φ := []) (pc' := 32) (L' := [.ref 18, .ref 10, .int (g0.1), .int 0]) (st' := []) (σ' := (mj_KS N, (mj_upI (g0.2) 10 0 (g0.1)), mj_PP c (10) (41))) 5 rfl trivial ?_
        simp only [s_X2_readsStreets, hg0, if_neg h1, if_neg h2, Bool.false_eq_true, ↓reduceIte, Nat.reduceAdd, Nat.reduceMul, mj_tn0, mj_tn1, mj_tn2, mj_tn3]
        exact x_X2_st l b base D z N (10) (41) (g0.1) (by decide) (by decide) c f0 6 0  (mj_upI (g0.2) 10 0 (g0.1)) (by omega) (by omega) (by omega)
theorem mj_st_l (dd rr : Nat) (e : Int32) (y : Nat) (h : y ≠ 18) (h1 : y ≠ dd + 1) (h2 : y ≠ dd + 2) : ∀ (k j : Nat) (I : mj_I), (s_X2_st dd rr e k j I).2 y = I y := by
  intro k
  induction k with
  | zero =>
    intro j I
    rw [s_X2_st]
    exact mj_rs_fr rr (dd + 1) 6 e I y h h1
  | succ k ih =>
    intro j I
    rw [s_X2_st]
    split
    · rw [ih, mj_upI_ne h2]
    · exact mj_rs_fr rr (dd + 1) 6 e I y h h1
theorem mj_st_ok {dd rr : Nat} {I : mj_I} (hd : dd = 2 ∨ dd = 10) (h : ¬ (s_X2_readsStreets dd rr I).1 = 0) : 2 ≤ ((s_X2_readsStreets dd rr I).2 dd 0).toInt ∧ ((s_X2_readsStreets dd rr I).2 dd 0).toInt ≤ 6 := by
  have c : dd ≠ 18 := by omega
  by_cases h1 : (s_X2_takes rr 121 I).1 = 0
  · exact absurd (by rw [s_X2_readsStreets, if_pos h1]) h
  · by_cases h2 : (s_X2_takeDigit rr 2 6 (s_X2_takes rr 121 I).2).1 < 0
    · exact absurd (by rw [s_X2_readsStreets, if_neg h1, if_pos h2]) h
    · have e2 : (s_X2_readsStreets dd rr I).2 = (s_X2_st dd rr (s_X2_takeDigit rr 2 6 (s_X2_takes rr 121 I).2).1 6 0 (mj_upI (s_X2_takeDigit rr 2 6 (s_X2_takes rr 121 I).2).2 dd 0 (s_X2_takeDigit rr 2 6 (s_X2_takes rr 121 I).2).1)).2 := by
        rw [s_X2_readsStreets, if_neg h1, if_neg h2]
      rw [e2, mj_st_l dd rr _ dd c (by omega) (by omega), mj_upI_eq, if_pos rfl]
      rcases mj_td_ok rr 2 6 (by decide) (s_X2_takes rr 121 I).2 with q | ⟨u, h3, h4, h5⟩
      · rw [q] at h2; exact absurd (show (-1 : Int32) < 0 by decide) h2
      · have e6 : (6 : Int32).toInt = 6 := by decide
        rw [h5, nI_toInt (by omega)]
        omega
