/-! the class: readings -/
def mj_J (cc m p R : Nat) (I : mj_I) : Prop := m ≤ 24 ∧ (∀ j : Nat, j < m → mj_in (I 29 (nI j)) 6) ∧ I cc 1 = nI p ∧ p ≤ 3 ∧ I 1 11 = nI R ∧ R ≤ 8 ∧ ∀ j : Nat, j < R → mj_in (I 32 (nI j)) 3
theorem mj_J_eq {cc m p R : Nat} {I I' : mj_I} (h29 : ∀ y, I' 29 y = I 29 y) (h32 : ∀ y, I' 32 y = I 32 y) (h1 : I' 1 11 = I 1 11) (hcc : I' cc 1 = I cc 1) (h : mj_J cc m p R I) : mj_J cc m p R I' := by
  obtain ⟨a, b, c, d, e, f, g⟩ := h
  exact ⟨a, fun j hj => by rw [h29]; exact b j hj, by rw [hcc]; exact c, d, by rw [h1]; exact e, f, fun j hj => by rw [h32]; exact g j hj⟩
theorem mj_J_up {cc m p R x : Nat} {I : mj_I} {y v : Int32} (h1 : 29 ≠ x) (h2 : 32 ≠ x) (h3 : 1 ≠ x) (h4 : cc ≠ x) (h : mj_J cc m p R I) : mj_J cc m p R (mj_upI I x y v) :=
  mj_J_eq (fun _ => congrFun (mj_upI_ne h1) _) (fun _ => congrFun (mj_upI_ne h2) _) (congrFun (mj_upI_ne h3) _) (congrFun (mj_upI_ne h4) _) h
theorem mj_J_fr {cc m p R : Nat} {I I' : mj_I} (hc : cc ≠ 30) (hf : ∀ (x : Nat) (y : Int32), x ≠ 30 → I' x y = I x y) (h : mj_J cc m p R I) : mj_J cc m p R I' :=
  mj_J_eq (fun y => hf 29 y (by decide)) (fun y => hf 32 y (by decide)) (hf 1 11 (by decide)) (hf cc 1 hc) h
def s_X5_r2 (cc : Nat) (m : Nat) (R : Nat) (I : mj_I) : Nat → Nat → Int32
  | 0, j => 1
  | k + 1, j => if (I 30 (I 32 (nI j)) : Int32) = I 33 (nI j) then (s_X5_r2 cc m R I k (j + 1) ) else 0
set_option maxHeartbeats 8000000 in
theorem x_X5_r2 (l : Launch) (b base : Nat) (D : va_G) (z : mj_K × (Int32 → Int32)) (N : Nat) (cc : Nat) (m : Nat) (R : Nat) (hcc : cc = 2 ∨ cc = 10) (I : mj_I) (d r : Nat) (hr : I 1 11 = nI R) (hR : R ≤ 8) (hq2 : ∀ j : Nat, j < R → mj_in (I 32 (nI j)) 3) : ∀ (k j : Nat), k = R - j → 0 ≤ j → j ≤ R + 1 → mj_Rn l b base D z mj_m_X5_readingsAreSo 33 [.ref 1, .int (nI m), .int (nI j)] [] (mj_KS N, I, mj_PP cc d r) (mj_E N (some (.int (s_X5_r2 cc m R I k j ))) I (mj_PP cc d r)) := by
  rcases hcc with rfl | rfl
  · skip
    intro k
    induction k with
    | zero =>
      intro j hk hlo hj
      refine R_seg (φ := []) (pc' := 38) (L' := [.ref 1, .int (nI m), .int (nI j)]) (st' := [.int (I 1 11), .int (nI j)]) (σ' := (mj_KS N, I, mj_PP (2) d r)) 3 rfl trivial ?_
      refine R_br (q := (nI j : Int32) < I 1 11) (t := 41) (f := 69) (rest := []) rfl (fun h1 => absurd h1 (by rw [hr]; exact nI_nlt (by omega) (by omega))) (fun h1 => ?_)
      refine R_seg (φ := []) (pc' := 70) (L' := [.ref 1, .int (nI m), .int (nI j)]) (st' := [.int 1]) (σ' := (mj_KS N, I, mj_PP (2) d r)) 1 rfl trivial ?_
      exact R_rb rfl rfl (Or.inr rfl) (mj_leaf (by simp only [s_X5_r2, Bool.false_eq_true, ↓reduceIte, Nat.reduceAdd, Nat.reduceMul, mj_tn0, mj_tn1, mj_tn2, mj_tn3]) (by simp only [s_X5_r2, Bool.false_eq_true, ↓reduceIte, Nat.reduceAdd, Nat.reduceMul, mj_tn0, mj_tn1, mj_tn2, mj_tn3]))
    | succ k ih =>
      intro j hk hlo hj
      have hjm : j < R := by omega
      have hin : mj_in (nI j) 8 := mj_in_nI (by omega) (by omega)
      have hin3 := hq2 j hjm
      refine R_seg (φ := []) (pc' := 38) (L' := [.ref 1, .int (nI m), .int (nI j)]) (st' := [.int (I 1 11), .int (nI j)]) (σ' := (mj_KS N, I, mj_PP (2) d r)) 3 rfl trivial ?_
      refine R_br (q := (nI j : Int32) < I 1 11) (t := 41) (f := 69) (rest := []) rfl (fun h1 => ?_) (fun h1 => absurd (by rw [hr]; exact nI_lt hjm (by omega)) h1)
      refine R_seg (φ := [mj_in (nI j) 8, mj_in (I 32 (nI j)) 3, mj_in (nI j) 8]) (pc' := 58) (L' := [.ref 1, .int (nI m), .int (nI j)]) (st' := [.int (I 33 (nI j)), .int (I 30 (I 32 (nI j)))]) (σ' := (mj_KS N, I, mj_PP (2) d r)) 11 rfl ⟨hin, hin3, hin, trivial⟩ ?_
      refine R_br (q := (I 30 (I 32 (nI j)) : Int32) = I 33 (nI j)) (t := 63) (f := 61) (rest := []) rfl (fun h2 => ?_) (fun h2 => ?_)
      · skip
        refine R_seg (φ := []) (pc' := 33) (L' := [.ref 1, .int (nI m), .int ((nI j) + 1)]) (st' := []) (σ' := (mj_KS N, I, mj_PP (2) d r)) 2 rfl trivial ?_
        rw [nI_1 j]
        rw [show s_X5_r2 2 m R I (k + 1) j  = s_X5_r2 2 m R I k (j + 1)  from by simp only [s_X5_r2, if_pos h2, Bool.false_eq_true, ↓reduceIte, Nat.reduceAdd, Nat.reduceMul, mj_tn0, mj_tn1, mj_tn2, mj_tn3]]
        exact ih (j + 1)  (by omega) (by omega) (by omega)
      · skip
        refine R_seg (φ := []) (pc' := 62) (L' := [.ref 1, .int (nI m), .int (nI j)]) (st' := [.int 0]) (σ' := (mj_KS N, I, mj_PP (2) d r)) 1 rfl trivial ?_
        exact R_rb rfl rfl (Or.inl rfl) (mj_leaf (by simp only [s_X5_r2, if_neg h2, Bool.false_eq_true, ↓reduceIte, Nat.reduceAdd, Nat.reduceMul, mj_tn0, mj_tn1, mj_tn2, mj_tn3]) (by simp only [s_X5_r2, if_neg h2, Bool.false_eq_true, ↓reduceIte, Nat.reduceAdd, Nat.reduceMul, mj_tn0, mj_tn1, mj_tn2, mj_tn3]))
  · skip
    intro k
    induction k with
    | zero =>
      intro j hk hlo hj
      refine R_seg (φ := []) (pc' := 38) (L' := [.ref 1, .int (nI m), .int (nI j)]) (st' := [.int (I 1 11), .int (nI j)]) (σ' := (mj_KS N, I, mj_PP (10) d r)) 3 rfl trivial ?_
      refine R_br (q := (nI j : Int32) < I 1 11) (t := 41) (f := 69) (rest := []) rfl (fun h1 => absurd h1 (by rw [hr]; exact nI_nlt (by omega) (by omega))) (fun h1 => ?_)
      refine R_seg (φ := []) (pc' := 70) (L' := [.ref 1, .int (nI m), .int (nI j)]) (st' := [.int 1]) (σ' := (mj_KS N, I, mj_PP (10) d r)) 1 rfl trivial ?_
      exact R_rb rfl rfl (Or.inr rfl) (mj_leaf (by simp only [s_X5_r2, Bool.false_eq_true, ↓reduceIte, Nat.reduceAdd, Nat.reduceMul, mj_tn0, mj_tn1, mj_tn2, mj_tn3]) (by simp only [s_X5_r2, Bool.false_eq_true, ↓reduceIte, Nat.reduceAdd, Nat.reduceMul, mj_tn0, mj_tn1, mj_tn2, mj_tn3]))
    | succ k ih =>
      intro j hk hlo hj
      have hjm : j < R := by omega
      have hin : mj_in (nI j) 8 := mj_in_nI (by omega) (by omega)
      have hin3 := hq2 j hjm
      refine R_seg (φ := []) (pc' := 38) (L' := [.ref 1, .int (nI m), .int (nI j)]) (st' := [.int (I 1 11), .int (nI j)]) (σ' := (mj_KS N, I, mj_PP (10) d r)) 3 rfl trivial ?_
      refine R_br (q := (nI j : Int32) < I 1 11) (t := 41) (f := 69) (rest := []) rfl (fun h1 => ?_) (fun h1 => absurd (by rw [hr]; exact nI_lt hjm (by omega)) h1)
      refine R_seg (φ := [mj_in (nI j) 8, mj_in (I 32 (nI j)) 3, mj_in (nI j) 8]) (pc' := 58) (L' := [.ref 1, .int (nI m), .int (nI j)]) (st' := [.int (I 33 (nI j)), .int (I 30 (I 32 (nI j)))]) (σ' := (mj_KS N, I, mj_PP (10) d r)) 11 rfl ⟨hin, hin3, hin, trivial⟩ ?_
      refine R_br (q := (I 30 (I 32 (nI j)) : Int32) = I 33 (nI j)) (t := 63) (f := 61) (rest := []) rfl (fun h2 => ?_) (fun h2 => ?_)
      · skip
        refine R_seg (φ := []) (pc' := 33) (L' := [.ref 1, .int (nI m), .int ((nI j) + 1)]) (st' := []) (σ' := (mj_KS N, I, mj_PP (10) d r)) 2 rfl trivial ?_
        rw [nI_1 j]
        rw [show s_X5_r2 10 m R I (k + 1) j  = s_X5_r2 10 m R I k (j + 1)  from by simp only [s_X5_r2, if_pos h2, Bool.false_eq_true, ↓reduceIte, Nat.reduceAdd, Nat.reduceMul, mj_tn0, mj_tn1, mj_tn2, mj_tn3]]
        exact ih (j + 1)  (by omega) (by omega) (by omega)
      · skip
        refine R_seg (φ := []) (pc' := 62) (L' := [.ref 1, .int (nI m), .int (nI j)]) (st' := [.int 0]) (σ' := (mj_KS N, I, mj_PP (10) d r)) 1 rfl trivial ?_
        exact R_rb rfl rfl (Or.inl rfl) (mj_leaf (by simp only [s_X5_r2, if_neg h2, Bool.false_eq_true, ↓reduceIte, Nat.reduceAdd, Nat.reduceMul, mj_tn0, mj_tn1, mj_tn2, mj_tn3]) (by simp only [s_X5_r2, if_neg h2, Bool.false_eq_true, ↓reduceIte, Nat.reduceAdd, Nat.reduceMul, mj_tn0, mj_tn1, mj_tn2, mj_tn3]))
def s_X5_r1 (cc : Nat) (m : Nat) (p : Nat) (R : Nat) : Nat → Nat → mj_I → Int32 × mj_I
  | 0, j, I => (s_X5_r2 (cc) m R I R 0 , I)
  | k + 1, j, I => s_X5_r1 cc m p R k (j + 1)  (mj_upI I 30 (nI j) (s_X5_ripeDay (cc) m (nI j) I))
set_option maxHeartbeats 8000000 in
theorem x_X5_r1 (l : Launch) (b base : Nat) (D : va_G) (z : mj_K × (Int32 → Int32)) (N : Nat) (cc : Nat) (m : Nat) (p : Nat) (R : Nat) (hcc : cc = 2 ∨ cc = 10) (d r : Nat) : ∀ (k j : Nat) (I : mj_I), k = p - j → 0 ≤ j → j ≤ p + 1 → mj_J cc m p R I → mj_Rn l b base D z mj_m_X5_readingsAreSo 2 [.ref 1, .int (nI m), .int (nI j)] [] (mj_KS N, I, mj_PP cc d r) (mj_E N (some (.int (s_X5_r1 cc m p R k j  I).1)) (s_X5_r1 cc m p R k j  I).2 (mj_PP cc d r)) := by
  rcases hcc with rfl | rfl
  · skip
    intro k
    induction k with
    | zero =>
      intro j I hk hlo hj hJ
      obtain ⟨hm, hw, hp, hp3, hr, hR, hq2⟩ := hJ
      refine R_seg (φ := []) (pc' := 10) (L' := [.ref 1, .int (nI m), .int (nI j)]) (st' := [.int (I 2 1), .int (nI j)]) (σ' := (mj_KS N, I, mj_PP (2) d r)) 4 rfl trivial ?_
      refine R_br (q := (nI j : Int32) < I 2 1) (t := 13) (f := 31) (rest := []) rfl (fun h1 => absurd h1 (by rw [hp]; exact nI_nlt (by omega) (by omega))) (fun h1 => ?_)
      refine R_seg (φ := []) (pc' := 33) (L' := [.ref 1, .int (nI m), .int 0]) (st' := []) (σ' := (mj_KS N, I, mj_PP (2) d r)) 2 rfl trivial ?_
      exact x_X5_r2 l b base D z N (2) m R (by decide) I d r hr hR hq2 R 0  (by omega) (by omega) (by omega)
    | succ k ih =>
      intro j I hk hlo hj hJ
      have hjm : j < p := by omega
      have hJ2 := hJ
      obtain ⟨hm, hw, hp, hp3, hr, hR, hq2⟩ := hJ2
      have hq := mj_q3 hjm hp3
      have hin : mj_in (nI j) 3 := mj_in_nI (by omega) (by omega)
      refine R_seg (φ := []) (pc' := 10) (L' := [.ref 1, .int (nI m), .int (nI j)]) (st' := [.int (I 2 1), .int (nI j)]) (σ' := (mj_KS N, I, mj_PP (2) d r)) 4 rfl trivial ?_
      refine R_br (q := (nI j : Int32) < I 2 1) (t := 13) (f := 31) (rest := []) rfl (fun h1 => ?_) (fun h1 => absurd (by rw [hp]; exact nI_lt hjm (by omega)) h1)
      refine R_seg (φ := []) (pc' := 21) (L' := [.ref 1, .int (nI m), .int (nI j)]) (st' := [.int (nI m), .int (nI j), .ref 1, .int (nI j), .ref 30]) (σ' := (mj_KS N, I, mj_PP (2) d r)) 6 rfl trivial ?_
      refine R_ce (idx := 163) (mid := 54) (kind := 0) (N := N) (M' := mj_m_X5_ripeDay) (As := [.ref 1, .int (nI j), .int (nI m)]) (rest := [.int (nI j), .ref 30]) (I := I) (P := mj_PP (2) d r) (I' := I) (P' := mj_PP (2) d r) (v := some (.int (s_X5_ripeDay (2) m (nI j) I))) rfl rfl rfl mj_mc54 mj_dc54 rfl rfl rfl rfl rfl rfl (x_X5_ripeDay l b base D z N (2) m (nI j) (by decide) I d r hm hw hq) ?_
      refine R_seg (φ := [mj_in (nI j) 3]) (pc' := 2) (L' := [.ref 1, .int (nI m), .int ((nI j) + 1)]) (st' := []) (σ' := (mj_KS N, (mj_upI I 30 (nI j) (s_X5_ripeDay (2) m (nI j) I)), mj_PP (2) d r)) 3 rfl ⟨hin, trivial⟩ ?_
      rw [nI_1 j]
      rw [show s_X5_r1 2 m p R (k + 1) j  I = s_X5_r1 2 m p R k (j + 1)  (mj_upI I 30 (nI j) (s_X5_ripeDay (2) m (nI j) I)) from by simp only [s_X5_r1, Bool.false_eq_true, ↓reduceIte, Nat.reduceAdd, Nat.reduceMul, mj_tn0, mj_tn1, mj_tn2, mj_tn3]]
      exact ih (j + 1)  (mj_upI I 30 (nI j) (s_X5_ripeDay (2) m (nI j) I)) (by omega) (by omega) (by omega) (mj_J_up (by decide) (by decide) (by decide) (by decide) hJ)
  · skip
    intro k
    induction k with
    | zero =>
      intro j I hk hlo hj hJ
      obtain ⟨hm, hw, hp, hp3, hr, hR, hq2⟩ := hJ
      refine R_seg (φ := []) (pc' := 10) (L' := [.ref 1, .int (nI m), .int (nI j)]) (st' := [.int (I 10 1), .int (nI j)]) (σ' := (mj_KS N, I, mj_PP (10) d r)) 4 rfl trivial ?_
      refine R_br (q := (nI j : Int32) < I 10 1) (t := 13) (f := 31) (rest := []) rfl (fun h1 => absurd h1 (by rw [hp]; exact nI_nlt (by omega) (by omega))) (fun h1 => ?_)
      refine R_seg (φ := []) (pc' := 33) (L' := [.ref 1, .int (nI m), .int 0]) (st' := []) (σ' := (mj_KS N, I, mj_PP (10) d r)) 2 rfl trivial ?_
      exact x_X5_r2 l b base D z N (10) m R (by decide) I d r hr hR hq2 R 0  (by omega) (by omega) (by omega)
    | succ k ih =>
      intro j I hk hlo hj hJ
      have hjm : j < p := by omega
      have hJ2 := hJ
      obtain ⟨hm, hw, hp, hp3, hr, hR, hq2⟩ := hJ2
      have hq := mj_q3 hjm hp3
      have hin : mj_in (nI j) 3 := mj_in_nI (by omega) (by omega)
      refine R_seg (φ := []) (pc' := 10) (L' := [.ref 1, .int (nI m), .int (nI j)]) (st' := [.int (I 10 1), .int (nI j)]) (σ' := (mj_KS N, I, mj_PP (10) d r)) 4 rfl trivial ?_
      refine R_br (q := (nI j : Int32) < I 10 1) (t := 13) (f := 31) (rest := []) rfl (fun h1 => ?_) (fun h1 => absurd (by rw [hp]; exact nI_lt hjm (by omega)) h1)
      refine R_seg (φ := []) (pc' := 21) (L' := [.ref 1, .int (nI m), .int (nI j)]) (st' := [.int (nI m), .int (nI j), .ref 1, .int (nI j), .ref 30]) (σ' := (mj_KS N, I, mj_PP (10) d r)) 6 rfl trivial ?_
      refine R_ce (idx := 163) (mid := 54) (kind := 0) (N := N) (M' := mj_m_X5_ripeDay) (As := [.ref 1, .int (nI j), .int (nI m)]) (rest := [.int (nI j), .ref 30]) (I := I) (P := mj_PP (10) d r) (I' := I) (P' := mj_PP (10) d r) (v := some (.int (s_X5_ripeDay (10) m (nI j) I))) rfl rfl rfl mj_mc54 mj_dc54 rfl rfl rfl rfl rfl rfl (x_X5_ripeDay l b base D z N (10) m (nI j) (by decide) I d r hm hw hq) ?_
      refine R_seg (φ := [mj_in (nI j) 3]) (pc' := 2) (L' := [.ref 1, .int (nI m), .int ((nI j) + 1)]) (st' := []) (σ' := (mj_KS N, (mj_upI I 30 (nI j) (s_X5_ripeDay (10) m (nI j) I)), mj_PP (10) d r)) 3 rfl ⟨hin, trivial⟩ ?_
      rw [nI_1 j]
      rw [show s_X5_r1 10 m p R (k + 1) j  I = s_X5_r1 10 m p R k (j + 1)  (mj_upI I 30 (nI j) (s_X5_ripeDay (10) m (nI j) I)) from by simp only [s_X5_r1, Bool.false_eq_true, ↓reduceIte, Nat.reduceAdd, Nat.reduceMul, mj_tn0, mj_tn1, mj_tn2, mj_tn3]]
      exact ih (j + 1)  (mj_upI I 30 (nI j) (s_X5_ripeDay (10) m (nI j) I)) (by omega) (by omega) (by omega) (mj_J_up (by decide) (by decide) (by decide) (by decide) hJ)
def s_X5_readingsAreSo (cc : Nat) (m : Nat) (p : Nat) (R : Nat) (I : mj_I) : Int32 × mj_I := ((s_X5_r1 (cc) m p R p 0  I).1, (s_X5_r1 (cc) m p R p 0  I).2)
set_option maxHeartbeats 8000000 in
theorem x_X5_readingsAreSo (l : Launch) (b base : Nat) (D : va_G) (z : mj_K × (Int32 → Int32)) (N : Nat) (cc : Nat) (m : Nat) (p : Nat) (R : Nat) (hcc : cc = 2 ∨ cc = 10) (I : mj_I) (d r : Nat) (hJ : mj_J cc m p R I) : mj_Rn l b base D z mj_m_X5_readingsAreSo 0 [.ref 1, .int (nI m), mj_mk] [] (mj_KS N, I, mj_PP cc d r) (mj_E N (some (.int (s_X5_readingsAreSo cc m p R I).1)) (s_X5_readingsAreSo cc m p R I).2 (mj_PP cc d r)) := by
  rcases hcc with rfl | rfl
  · skip
    refine R_seg (φ := []) (pc' := 2) (L' := [.ref 1, .int (nI m), .int 0]) (st' := []) (σ' := (mj_KS N, I, mj_PP (2) d r)) 2 rfl trivial ?_
    exact x_X5_r1 l b base D z N (2) m p R (by decide) d r  p 0  I (by omega) (by omega) (by omega) hJ
  · skip
    refine R_seg (φ := []) (pc' := 2) (L' := [.ref 1, .int (nI m), .int 0]) (st' := []) (σ' := (mj_KS N, I, mj_PP (10) d r)) 2 rfl trivial ?_
    exact x_X5_r1 l b base D z N (10) m p R (by decide) d r  p 0  I (by omega) (by omega) (by omega) hJ
theorem mj_r1_fr (cc m p R : Nat) : ∀ (k j : Nat) (I : mj_I) (x : Nat) (y : Int32), x ≠ 30 → (s_X5_r1 cc m p R k j I).2 x y = I x y := by
  intro k
  induction k with
  | zero => intro j I x y _; rfl
  | succ k ih =>
    intro j I x y hx
    rw [s_X5_r1, ih _ _ x y hx, mj_upI_ne hx]
theorem mj_ras_fr (cc m p R : Nat) (I : mj_I) (x : Nat) (y : Int32) (hx : x ≠ 30) : (s_X5_readingsAreSo cc m p R I).2 x y = I x y := mj_r1_fr cc m p R p 0 I x y hx
def s_X5_fi (cc : Nat) (y : Nat) (q : Int32) (m : Nat) (p : Nat) (R : Nat) (e : Nat) (was : Int32) : Nat → Nat → Int32 → mj_I → Int32 × mj_I
  | 0, j, g, I => (g, (mj_upI I (cc + y) q was))
  | k + 1, j, g, I => if ((s_X5_readingsAreSo (cc) m p R (mj_upI I (cc + y) q (nI j))).1 : Int32) = 0 then (s_X5_fi cc y q m p R e was k (j + 1) g ((s_X5_readingsAreSo (cc) m p R (mj_upI I (cc + y) q (nI j))).2)) else (s_X5_fi cc y q m p R e was k (j + 1) (g ||| (1 <<< ((nI j) &&& 31))) ((s_X5_readingsAreSo (cc) m p R (mj_upI I (cc + y) q (nI j))).2))
set_option maxHeartbeats 8000000 in
theorem x_X5_fi (l : Launch) (b base : Nat) (D : va_G) (z : mj_K × (Int32 → Int32)) (N : Nat) (cc : Nat) (y : Nat) (q : Int32) (m : Nat) (p : Nat) (R : Nat) (e : Nat) (was : Int32) (hcc : cc = 2 ∨ cc = 10) (hy : y = 1 ∨ y = 3 ∨ y = 5 ∨ y = 6 ∨ y = 7) (d r : Nat) (he : e ≤ 4) (hq : mj_in q (if y = 1 then 6 else 3)) : ∀ (k j : Nat) (g : Int32) (I : mj_I), k = e - j → 0 ≤ j → j ≤ e + 1 → mj_J cc m p R I → mj_Rn l b base D z mj_m_X5_fitting 11 [.ref 1, .ref (cc + y), .int q, .int (nI e), .int (nI m), .int was, .int g, .int (nI j)] [] (mj_KS N, I, mj_PP cc d r) (mj_E N (some (.int (s_X5_fi cc y q m p R e was k j g I).1)) (s_X5_fi cc y q m p R e was k j g I).2 (mj_PP cc d r)) := by
  rcases hcc with rfl | rfl <;> rcases hy with rfl | rfl | rfl | rfl | rfl
  · skip
    intro k
    induction k with
    | zero =>
      intro j g I hk hlo hj hJ
      refine R_seg (φ := []) (pc' := 14) (L' := [.ref 1, .ref 3, .int q, .int (nI e), .int (nI m), .int was, .int g, .int (nI j)]) (st' := [.int (nI e), .int (nI j)]) (σ' := (mj_KS N, I, mj_PP (2) d r)) 2 rfl trivial ?_
      refine R_br (q := (nI j : Int32) < nI e) (t := 17) (f := 46) (rest := []) rfl (fun h1 => absurd h1 (by exact nI_nlt (by omega) (by omega))) (fun h1 => ?_)
      refine R_seg (φ := [mj_in q 6]) (pc' := 53) (L' := [.ref 1, .ref 3, .int q, .int (nI e), .int (nI m), .int was, .int g, .int (nI j)]) (st' := [.int g]) (σ' := (mj_KS N, (mj_upI I 3 q was), mj_PP (2) d r)) 5 rfl ⟨hq, trivial⟩ ?_
      exact R_ri rfl rfl (mj_leaf (by simp only [s_X5_fi, Bool.false_eq_true, ↓reduceIte, Nat.reduceAdd, Nat.reduceMul, mj_tn0, mj_tn1, mj_tn2, mj_tn3]) (by simp only [s_X5_fi, Bool.false_eq_true, ↓reduceIte, Nat.reduceAdd, Nat.reduceMul, mj_tn0, mj_tn1, mj_tn2, mj_tn3]))
    | succ k ih =>
      intro j g I hk hlo hj hJ
      have hjm : j < e := by omega
      refine R_seg (φ := []) (pc' := 14) (L' := [.ref 1, .ref 3, .int q, .int (nI e), .int (nI m), .int was, .int g, .int (nI j)]) (st' := [.int (nI e), .int (nI j)]) (σ' := (mj_KS N, I, mj_PP (2) d r)) 2 rfl trivial ?_
      refine R_br (q := (nI j : Int32) < nI e) (t := 17) (f := 46) (rest := []) rfl (fun h1 => ?_) (fun h1 => absurd (by exact nI_lt hjm (by omega)) h1)
      refine R_seg (φ := [mj_in q 6]) (pc' := 25) (L' := [.ref 1, .ref 3, .int q, .int (nI e), .int (nI m), .int was, .int g, .int (nI j)]) (st' := [.int (nI m), .ref 1]) (σ' := (mj_KS N, (mj_upI I 3 q (nI j)), mj_PP (2) d r)) 6 rfl ⟨hq, trivial⟩ ?_
      refine R_ce (idx := 231) (mid := 69) (kind := 0) (N := N) (M' := mj_m_X5_readingsAreSo) (As := [.ref 1, .int (nI m)]) (rest := []) (I := (mj_upI I 3 q (nI j))) (P := mj_PP (2) d r) (I' := (s_X5_readingsAreSo (2) m p R (mj_upI I 3 q (nI j))).2) (P' := mj_PP (2) d r) (v := some (.int ((s_X5_readingsAreSo (2) m p R (mj_upI I 3 q (nI j))).1))) rfl rfl rfl mj_mc69 mj_dc69 rfl rfl rfl rfl rfl rfl (x_X5_readingsAreSo l b base D z N (2) m p R (by decide) (mj_upI I 3 q (nI j)) d r (mj_J_up (by decide) (by decide) (by decide) (by decide) hJ)) ?_
      refine R_seg (φ := []) (pc' := 28) (L' := [.ref 1, .ref 3, .int q, .int (nI e), .int (nI m), .int was, .int g, .int (nI j)]) (st' := [.int ((s_X5_readingsAreSo (2) m p R (mj_upI I 3 q (nI j))).1)]) (σ' := (mj_KS N, (s_X5_readingsAreSo (2) m p R (mj_upI I 3 q (nI j))).2, mj_PP (2) d r)) 0 rfl trivial ?_
      refine R_br (q := ((s_X5_readingsAreSo (2) m p R (mj_upI I 3 q (nI j))).1 : Int32) = 0) (t := 40) (f := 31) (rest := []) rfl (fun h2 => ?_) (fun h2 => ?_)
      · skip
        refine R_seg (φ := []) (pc' := 11) (L' := [.ref 1, .ref 3, .int q, .int (nI e), .int (nI m), .int was, .int g, .int ((nI j) + 1)]) (st' := []) (σ' := (mj_KS N, (s_X5_readingsAreSo (2) m p R (mj_upI I 3 q (nI j))).2, mj_PP (2) d r)) 2 rfl trivial ?_
        rw [nI_1 j]
        rw [show s_X5_fi 2 1 q m p R e was (k + 1) j g I = s_X5_fi 2 1 q m p R e was k (j + 1) g ((s_X5_readingsAreSo (2) m p R (mj_upI I 3 q (nI j))).2) from by simp only [s_X5_fi, if_pos h2, Bool.false_eq_true, ↓reduceIte, Nat.reduceAdd, Nat.reduceMul, mj_tn0, mj_tn1, mj_tn2, mj_tn3]]
        exact ih (j + 1) g ((s_X5_readingsAreSo (2) m p R (mj_upI I 3 q (nI j))).2) (by omega) (by omega) (by omega) (mj_J_fr (by decide) (fun x y hx => mj_ras_fr _ _ _ _ _ x y hx) (mj_J_up (by decide) (by decide) (by decide) (by decide) hJ))
      · skip
        refine R_seg (φ := []) (pc' := 11) (L' := [.ref 1, .ref 3, .int q, .int (nI e), .int (nI m), .int was, .int (g ||| (1 <<< ((nI j) &&& 31))), .int ((nI j) + 1)]) (st' := []) (σ' := (mj_KS N, (s_X5_readingsAreSo (2) m p R (mj_upI I 3 q (nI j))).2, mj_PP (2) d r)) 8 rfl trivial ?_
        rw [nI_1 j]
        rw [show s_X5_fi 2 1 q m p R e was (k + 1) j g I = s_X5_fi 2 1 q m p R e was k (j + 1) (g ||| (1 <<< ((nI j) &&& 31))) ((s_X5_readingsAreSo (2) m p R (mj_upI I 3 q (nI j))).2) from by simp only [s_X5_fi, if_neg h2, Bool.false_eq_true, ↓reduceIte, Nat.reduceAdd, Nat.reduceMul, mj_tn0, mj_tn1, mj_tn2, mj_tn3]]
        exact ih (j + 1) (g ||| (1 <<< ((nI j) &&& 31))) ((s_X5_readingsAreSo (2) m p R (mj_upI I 3 q (nI j))).2) (by omega) (by omega) (by omega) (mj_J_fr (by decide) (fun x y hx => mj_ras_fr _ _ _ _ _ x y hx) (mj_J_up (by decide) (by decide) (by decide) (by decide) hJ))
  · skip
    intro k
    induction k with
    | zero =>
      intro j g I hk hlo hj hJ
      refine R_seg (φ := []) (pc' := 14) (L' := [.ref 1, .ref 5, .int q, .int (nI e), .int (nI m), .int was, .int g, .int (nI j)]) (st' := [.int (nI e), .int (nI j)]) (σ' := (mj_KS N, I, mj_PP (2) d r)) 2 rfl trivial ?_
      refine R_br (q := (nI j : Int32) < nI e) (t := 17) (f := 46) (rest := []) rfl (fun h1 => absurd h1 (by exact nI_nlt (by omega) (by omega))) (fun h1 => ?_)
      refine R_seg (φ := [mj_in q 3]) (pc' := 53) (L' := [.ref 1, .ref 5, .int q, .int (nI e), .int (nI m), .int was, .int g, .int (nI j)]) (st' := [.int g]) (σ' := (mj_KS N, (mj_upI I 5 q was), mj_PP (2) d r)) 5 rfl ⟨hq, trivial⟩ ?_
      exact R_ri rfl rfl (mj_leaf (by simp only [s_X5_fi, Bool.false_eq_true, ↓reduceIte, Nat.reduceAdd, Nat.reduceMul, mj_tn0, mj_tn1, mj_tn2, mj_tn3]) (by simp only [s_X5_fi, Bool.false_eq_true, ↓reduceIte, Nat.reduceAdd, Nat.reduceMul, mj_tn0, mj_tn1, mj_tn2, mj_tn3]))
    | succ k ih =>
      intro j g I hk hlo hj hJ
      have hjm : j < e := by omega
      refine R_seg (φ := []) (pc' := 14) (L' := [.ref 1, .ref 5, .int q, .int (nI e), .int (nI m), .int was, .int g, .int (nI j)]) (st' := [.int (nI e), .int (nI j)]) (σ' := (mj_KS N, I, mj_PP (2) d r)) 2 rfl trivial ?_
      refine R_br (q := (nI j : Int32) < nI e) (t := 17) (f := 46) (rest := []) rfl (fun h1 => ?_) (fun h1 => absurd (by exact nI_lt hjm (by omega)) h1)
      refine R_seg (φ := [mj_in q 3]) (pc' := 25) (L' := [.ref 1, .ref 5, .int q, .int (nI e), .int (nI m), .int was, .int g, .int (nI j)]) (st' := [.int (nI m), .ref 1]) (σ' := (mj_KS N, (mj_upI I 5 q (nI j)), mj_PP (2) d r)) 6 rfl ⟨hq, trivial⟩ ?_
      refine R_ce (idx := 231) (mid := 69) (kind := 0) (N := N) (M' := mj_m_X5_readingsAreSo) (As := [.ref 1, .int (nI m)]) (rest := []) (I := (mj_upI I 5 q (nI j))) (P := mj_PP (2) d r) (I' := (s_X5_readingsAreSo (2) m p R (mj_upI I 5 q (nI j))).2) (P' := mj_PP (2) d r) (v := some (.int ((s_X5_readingsAreSo (2) m p R (mj_upI I 5 q (nI j))).1))) rfl rfl rfl mj_mc69 mj_dc69 rfl rfl rfl rfl rfl rfl (x_X5_readingsAreSo l b base D z N (2) m p R (by decide) (mj_upI I 5 q (nI j)) d r (mj_J_up (by decide) (by decide) (by decide) (by decide) hJ)) ?_
      refine R_seg (φ := []) (pc' := 28) (L' := [.ref 1, .ref 5, .int q, .int (nI e), .int (nI m), .int was, .int g, .int (nI j)]) (st' := [.int ((s_X5_readingsAreSo (2) m p R (mj_upI I 5 q (nI j))).1)]) (σ' := (mj_KS N, (s_X5_readingsAreSo (2) m p R (mj_upI I 5 q (nI j))).2, mj_PP (2) d r)) 0 rfl trivial ?_
      refine R_br (q := ((s_X5_readingsAreSo (2) m p R (mj_upI I 5 q (nI j))).1 : Int32) = 0) (t := 40) (f := 31) (rest := []) rfl (fun h2 => ?_) (fun h2 => ?_)
      · skip
        refine R_seg (φ := []) (pc' := 11) (L' := [.ref 1, .ref 5, .int q, .int (nI e), .int (nI m), .int was, .int g, .int ((nI j) + 1)]) (st' := []) (σ' := (mj_KS N, (s_X5_readingsAreSo (2) m p R (mj_upI I 5 q (nI j))).2, mj_PP (2) d r)) 2 rfl trivial ?_
        rw [nI_1 j]
        rw [show s_X5_fi 2 3 q m p R e was (k + 1) j g I = s_X5_fi 2 3 q m p R e was k (j + 1) g ((s_X5_readingsAreSo (2) m p R (mj_upI I 5 q (nI j))).2) from by simp only [s_X5_fi, if_pos h2, Bool.false_eq_true, ↓reduceIte, Nat.reduceAdd, Nat.reduceMul, mj_tn0, mj_tn1, mj_tn2, mj_tn3]]
        exact ih (j + 1) g ((s_X5_readingsAreSo (2) m p R (mj_upI I 5 q (nI j))).2) (by omega) (by omega) (by omega) (mj_J_fr (by decide) (fun x y hx => mj_ras_fr _ _ _ _ _ x y hx) (mj_J_up (by decide) (by decide) (by decide) (by decide) hJ))
      · skip
        refine R_seg (φ := []) (pc' := 11) (L' := [.ref 1, .ref 5, .int q, .int (nI e), .int (nI m), .int was, .int (g ||| (1 <<< ((nI j) &&& 31))), .int ((nI j) + 1)]) (st' := []) (σ' := (mj_KS N, (s_X5_readingsAreSo (2) m p R (mj_upI I 5 q (nI j))).2, mj_PP (2) d r)) 8 rfl trivial ?_
        rw [nI_1 j]
        rw [show s_X5_fi 2 3 q m p R e was (k + 1) j g I = s_X5_fi 2 3 q m p R e was k (j + 1) (g ||| (1 <<< ((nI j) &&& 31))) ((s_X5_readingsAreSo (2) m p R (mj_upI I 5 q (nI j))).2) from by simp only [s_X5_fi, if_neg h2, Bool.false_eq_true, ↓reduceIte, Nat.reduceAdd, Nat.reduceMul, mj_tn0, mj_tn1, mj_tn2, mj_tn3]]
        exact ih (j + 1) (g ||| (1 <<< ((nI j) &&& 31))) ((s_X5_readingsAreSo (2) m p R (mj_upI I 5 q (nI j))).2) (by omega) (by omega) (by omega) (mj_J_fr (by decide) (fun x y hx => mj_ras_fr _ _ _ _ _ x y hx) (mj_J_up (by decide) (by decide) (by decide) (by decide) hJ))
  · skip
    intro k
    induction k with
    | zero =>
      intro j g I hk hlo hj hJ
      refine R_seg (φ := []) (pc' := 14) (L' := [.ref 1, .ref 7, .int q, .int (nI e), .int (nI m), .int was, .int g, .int (nI j)]) (st' := [.int (nI e), .int (nI j)]) (σ' := (mj_KS N, I, mj_PP (2) d r)) 2 rfl trivial ?_
      refine R_br (q := (nI j : Int32) < nI e) (t := 17) (f := 46) (rest := []) rfl (fun h1 => absurd h1 (by exact nI_nlt (by omega) (by omega))) (fun h1 => ?_)
      refine R_seg (φ := [mj_in q 3]) (pc' := 53) (L' := [.ref 1, .ref 7, .int q, .int (nI e), .int (nI m), .int was, .int g, .int (nI j)]) (st' := [.int g]) (σ' := (mj_KS N, (mj_upI I 7 q was), mj_PP (2) d r)) 5 rfl ⟨hq, trivial⟩ ?_
      exact R_ri rfl rfl (mj_leaf (by simp only [s_X5_fi, Bool.false_eq_true, ↓reduceIte, Nat.reduceAdd, Nat.reduceMul, mj_tn0, mj_tn1, mj_tn2, mj_tn3]) (by simp only [s_X5_fi, Bool.false_eq_true, ↓reduceIte, Nat.reduceAdd, Nat.reduceMul, mj_tn0, mj_tn1, mj_tn2, mj_tn3]))
    | succ k ih =>
      intro j g I hk hlo hj hJ
      have hjm : j < e := by omega
      refine R_seg (φ := []) (pc' := 14) (L' := [.ref 1, .ref 7, .int q, .int (nI e), .int (nI m), .int was, .int g, .int (nI j)]) (st' := [.int (nI e), .int (nI j)]) (σ' := (mj_KS N, I, mj_PP (2) d r)) 2 rfl trivial ?_
      refine R_br (q := (nI j : Int32) < nI e) (t := 17) (f := 46) (rest := []) rfl (fun h1 => ?_) (fun h1 => absurd (by exact nI_lt hjm (by omega)) h1)
      refine R_seg (φ := [mj_in q 3]) (pc' := 25) (L' := [.ref 1, .ref 7, .int q, .int (nI e), .int (nI m), .int was, .int g, .int (nI j)]) (st' := [.int (nI m), .ref 1]) (σ' := (mj_KS N, (mj_upI I 7 q (nI j)), mj_PP (2) d r)) 6 rfl ⟨hq, trivial⟩ ?_
      refine R_ce (idx := 231) (mid := 69) (kind := 0) (N := N) (M' := mj_m_X5_readingsAreSo) (As := [.ref 1, .int (nI m)]) (rest := []) (I := (mj_upI I 7 q (nI j))) (P := mj_PP (2) d r) (I' := (s_X5_readingsAreSo (2) m p R (mj_upI I 7 q (nI j))).2) (P' := mj_PP (2) d r) (v := some (.int ((s_X5_readingsAreSo (2) m p R (mj_upI I 7 q (nI j))).1))) rfl rfl rfl mj_mc69 mj_dc69 rfl rfl rfl rfl rfl rfl (x_X5_readingsAreSo l b base D z N (2) m p R (by decide) (mj_upI I 7 q (nI j)) d r (mj_J_up (by decide) (by decide) (by decide) (by decide) hJ)) ?_
      refine R_seg (φ := []) (pc' := 28) (L' := [.ref 1, .ref 7, .int q, .int (nI e), .int (nI m), .int was, .int g, .int (nI j)]) (st' := [.int ((s_X5_readingsAreSo (2) m p R (mj_upI I 7 q (nI j))).1)]) (σ' := (mj_KS N, (s_X5_readingsAreSo (2) m p R (mj_upI I 7 q (nI j))).2, mj_PP (2) d r)) 0 rfl trivial ?_
      refine R_br (q := ((s_X5_readingsAreSo (2) m p R (mj_upI I 7 q (nI j))).1 : Int32) = 0) (t := 40) (f := 31) (rest := []) rfl (fun h2 => ?_) (fun h2 => ?_)
      · skip
        refine R_seg (φ := []) (pc' := 11) (L' := [.ref 1, .ref 7, .int q, .int (nI e), .int (nI m), .int was, .int g, .int ((nI j) + 1)]) (st' := []) (σ' := (mj_KS N, (s_X5_readingsAreSo (2) m p R (mj_upI I 7 q (nI j))).2, mj_PP (2) d r)) 2 rfl trivial ?_
        rw [nI_1 j]
        rw [show s_X5_fi 2 5 q m p R e was (k + 1) j g I = s_X5_fi 2 5 q m p R e was k (j + 1) g ((s_X5_readingsAreSo (2) m p R (mj_upI I 7 q (nI j))).2) from by simp only [s_X5_fi, if_pos h2, Bool.false_eq_true, ↓reduceIte, Nat.reduceAdd, Nat.reduceMul, mj_tn0, mj_tn1, mj_tn2, mj_tn3]]
        exact ih (j + 1) g ((s_X5_readingsAreSo (2) m p R (mj_upI I 7 q (nI j))).2) (by omega) (by omega) (by omega) (mj_J_fr (by decide) (fun x y hx => mj_ras_fr _ _ _ _ _ x y hx) (mj_J_up (by decide) (by decide) (by decide) (by decide) hJ))
      · skip
        refine R_seg (φ := []) (pc' := 11) (L' := [.ref 1, .ref 7, .int q, .int (nI e), .int (nI m), .int was, .int (g ||| (1 <<< ((nI j) &&& 31))), .int ((nI j) + 1)]) (st' := []) (σ' := (mj_KS N, (s_X5_readingsAreSo (2) m p R (mj_upI I 7 q (nI j))).2, mj_PP (2) d r)) 8 rfl trivial ?_
        rw [nI_1 j]
        rw [show s_X5_fi 2 5 q m p R e was (k + 1) j g I = s_X5_fi 2 5 q m p R e was k (j + 1) (g ||| (1 <<< ((nI j) &&& 31))) ((s_X5_readingsAreSo (2) m p R (mj_upI I 7 q (nI j))).2) from by simp only [s_X5_fi, if_neg h2, Bool.false_eq_true, ↓reduceIte, Nat.reduceAdd, Nat.reduceMul, mj_tn0, mj_tn1, mj_tn2, mj_tn3]]
        exact ih (j + 1) (g ||| (1 <<< ((nI j) &&& 31))) ((s_X5_readingsAreSo (2) m p R (mj_upI I 7 q (nI j))).2) (by omega) (by omega) (by omega) (mj_J_fr (by decide) (fun x y hx => mj_ras_fr _ _ _ _ _ x y hx) (mj_J_up (by decide) (by decide) (by decide) (by decide) hJ))
  · skip
    intro k
    induction k with
    | zero =>
      intro j g I hk hlo hj hJ
      refine R_seg (φ := []) (pc' := 14) (L' := [.ref 1, .ref 8, .int q, .int (nI e), .int (nI m), .int was, .int g, .int (nI j)]) (st' := [.int (nI e), .int (nI j)]) (σ' := (mj_KS N, I, mj_PP (2) d r)) 2 rfl trivial ?_
      refine R_br (q := (nI j : Int32) < nI e) (t := 17) (f := 46) (rest := []) rfl (fun h1 => absurd h1 (by exact nI_nlt (by omega) (by omega))) (fun h1 => ?_)
      refine R_seg (φ := [mj_in q 3]) (pc' := 53) (L' := [.ref 1, .ref 8, .int q, .int (nI e), .int (nI m), .int was, .int g, .int (nI j)]) (st' := [.int g]) (σ' := (mj_KS N, (mj_upI I 8 q was), mj_PP (2) d r)) 5 rfl ⟨hq, trivial⟩ ?_
      exact R_ri rfl rfl (mj_leaf (by simp only [s_X5_fi, Bool.false_eq_true, ↓reduceIte, Nat.reduceAdd, Nat.reduceMul, mj_tn0, mj_tn1, mj_tn2, mj_tn3]) (by simp only [s_X5_fi, Bool.false_eq_true, ↓reduceIte, Nat.reduceAdd, Nat.reduceMul, mj_tn0, mj_tn1, mj_tn2, mj_tn3]))
    | succ k ih =>
      intro j g I hk hlo hj hJ
      have hjm : j < e := by omega
      refine R_seg (φ := []) (pc' := 14) (L' := [.ref 1, .ref 8, .int q, .int (nI e), .int (nI m), .int was, .int g, .int (nI j)]) (st' := [.int (nI e), .int (nI j)]) (σ' := (mj_KS N, I, mj_PP (2) d r)) 2 rfl trivial ?_
      refine R_br (q := (nI j : Int32) < nI e) (t := 17) (f := 46) (rest := []) rfl (fun h1 => ?_) (fun h1 => absurd (by exact nI_lt hjm (by omega)) h1)
      refine R_seg (φ := [mj_in q 3]) (pc' := 25) (L' := [.ref 1, .ref 8, .int q, .int (nI e), .int (nI m), .int was, .int g, .int (nI j)]) (st' := [.int (nI m), .ref 1]) (σ' := (mj_KS N, (mj_upI I 8 q (nI j)), mj_PP (2) d r)) 6 rfl ⟨hq, trivial⟩ ?_
      refine R_ce (idx := 231) (mid := 69) (kind := 0) (N := N) (M' := mj_m_X5_readingsAreSo) (As := [.ref 1, .int (nI m)]) (rest := []) (I := (mj_upI I 8 q (nI j))) (P := mj_PP (2) d r) (I' := (s_X5_readingsAreSo (2) m p R (mj_upI I 8 q (nI j))).2) (P' := mj_PP (2) d r) (v := some (.int ((s_X5_readingsAreSo (2) m p R (mj_upI I 8 q (nI j))).1))) rfl rfl rfl mj_mc69 mj_dc69 rfl rfl rfl rfl rfl rfl (x_X5_readingsAreSo l b base D z N (2) m p R (by decide) (mj_upI I 8 q (nI j)) d r (mj_J_up (by decide) (by decide) (by decide) (by decide) hJ)) ?_
      refine R_seg (φ := []) (pc' := 28) (L' := [.ref 1, .ref 8, .int q, .int (nI e), .int (nI m), .int was, .int g, .int (nI j)]) (st' := [.int ((s_X5_readingsAreSo (2) m p R (mj_upI I 8 q (nI j))).1)]) (σ' := (mj_KS N, (s_X5_readingsAreSo (2) m p R (mj_upI I 8 q (nI j))).2, mj_PP (2) d r)) 0 rfl trivial ?_
      refine R_br (q := ((s_X5_readingsAreSo (2) m p R (mj_upI I 8 q (nI j))).1 : Int32) = 0) (t := 40) (f := 31) (rest := []) rfl (fun h2 => ?_) (fun h2 => ?_)
      · skip
        refine R_seg (φ := []) (pc' := 11) (L' := [.ref 1, .ref 8, .int q, .int (nI e), .int (nI m), .int was, .int g, .int ((nI j) + 1)]) (st' := []) (σ' := (mj_KS N, (s_X5_readingsAreSo (2) m p R (mj_upI I 8 q (nI j))).2, mj_PP (2) d r)) 2 rfl trivial ?_
        rw [nI_1 j]
        rw [show s_X5_fi 2 6 q m p R e was (k + 1) j g I = s_X5_fi 2 6 q m p R e was k (j + 1) g ((s_X5_readingsAreSo (2) m p R (mj_upI I 8 q (nI j))).2) from by simp only [s_X5_fi, if_pos h2, Bool.false_eq_true, ↓reduceIte, Nat.reduceAdd, Nat.reduceMul, mj_tn0, mj_tn1, mj_tn2, mj_tn3]]
        exact ih (j + 1) g ((s_X5_readingsAreSo (2) m p R (mj_upI I 8 q (nI j))).2) (by omega) (by omega) (by omega) (mj_J_fr (by decide) (fun x y hx => mj_ras_fr _ _ _ _ _ x y hx) (mj_J_up (by decide) (by decide) (by decide) (by decide) hJ))
      · skip
        refine R_seg (φ := []) (pc' := 11) (L' := [.ref 1, .ref 8, .int q, .int (nI e), .int (nI m), .int was, .int (g ||| (1 <<< ((nI j) &&& 31))), .int ((nI j) + 1)]) (st' := []) (σ' := (mj_KS N, (s_X5_readingsAreSo (2) m p R (mj_upI I 8 q (nI j))).2, mj_PP (2) d r)) 8 rfl trivial ?_
        rw [nI_1 j]
        rw [show s_X5_fi 2 6 q m p R e was (k + 1) j g I = s_X5_fi 2 6 q m p R e was k (j + 1) (g ||| (1 <<< ((nI j) &&& 31))) ((s_X5_readingsAreSo (2) m p R (mj_upI I 8 q (nI j))).2) from by simp only [s_X5_fi, if_neg h2, Bool.false_eq_true, ↓reduceIte, Nat.reduceAdd, Nat.reduceMul, mj_tn0, mj_tn1, mj_tn2, mj_tn3]]
        exact ih (j + 1) (g ||| (1 <<< ((nI j) &&& 31))) ((s_X5_readingsAreSo (2) m p R (mj_upI I 8 q (nI j))).2) (by omega) (by omega) (by omega) (mj_J_fr (by decide) (fun x y hx => mj_ras_fr _ _ _ _ _ x y hx) (mj_J_up (by decide) (by decide) (by decide) (by decide) hJ))
  · skip
    intro k
    induction k with
    | zero =>
      intro j g I hk hlo hj hJ
      refine R_seg (φ := []) (pc' := 14) (L' := [.ref 1, .ref 9, .int q, .int (nI e), .int (nI m), .int was, .int g, .int (nI j)]) (st' := [.int (nI e), .int (nI j)]) (σ' := (mj_KS N, I, mj_PP (2) d r)) 2 rfl trivial ?_
      refine R_br (q := (nI j : Int32) < nI e) (t := 17) (f := 46) (rest := []) rfl (fun h1 => absurd h1 (by exact nI_nlt (by omega) (by omega))) (fun h1 => ?_)
      refine R_seg (φ := [mj_in q 3]) (pc' := 53) (L' := [.ref 1, .ref 9, .int q, .int (nI e), .int (nI m), .int was, .int g, .int (nI j)]) (st' := [.int g]) (σ' := (mj_KS N, (mj_upI I 9 q was), mj_PP (2) d r)) 5 rfl ⟨hq, trivial⟩ ?_
      exact R_ri rfl rfl (mj_leaf (by simp only [s_X5_fi, Bool.false_eq_true, ↓reduceIte, Nat.reduceAdd, Nat.reduceMul, mj_tn0, mj_tn1, mj_tn2, mj_tn3]) (by simp only [s_X5_fi, Bool.false_eq_true, ↓reduceIte, Nat.reduceAdd, Nat.reduceMul, mj_tn0, mj_tn1, mj_tn2, mj_tn3]))
    | succ k ih =>
      intro j g I hk hlo hj hJ
      have hjm : j < e := by omega
      refine R_seg (φ := []) (pc' := 14) (L' := [.ref 1, .ref 9, .int q, .int (nI e), .int (nI m), .int was, .int g, .int (nI j)]) (st' := [.int (nI e), .int (nI j)]) (σ' := (mj_KS N, I, mj_PP (2) d r)) 2 rfl trivial ?_
      refine R_br (q := (nI j : Int32) < nI e) (t := 17) (f := 46) (rest := []) rfl (fun h1 => ?_) (fun h1 => absurd (by exact nI_lt hjm (by omega)) h1)
      refine R_seg (φ := [mj_in q 3]) (pc' := 25) (L' := [.ref 1, .ref 9, .int q, .int (nI e), .int (nI m), .int was, .int g, .int (nI j)]) (st' := [.int (nI m), .ref 1]) (σ' := (mj_KS N, (mj_upI I 9 q (nI j)), mj_PP (2) d r)) 6 rfl ⟨hq, trivial⟩ ?_
      refine R_ce (idx := 231) (mid := 69) (kind := 0) (N := N) (M' := mj_m_X5_readingsAreSo) (As := [.ref 1, .int (nI m)]) (rest := []) (I := (mj_upI I 9 q (nI j))) (P := mj_PP (2) d r) (I' := (s_X5_readingsAreSo (2) m p R (mj_upI I 9 q (nI j))).2) (P' := mj_PP (2) d r) (v := some (.int ((s_X5_readingsAreSo (2) m p R (mj_upI I 9 q (nI j))).1))) rfl rfl rfl mj_mc69 mj_dc69 rfl rfl rfl rfl rfl rfl (x_X5_readingsAreSo l b base D z N (2) m p R (by decide) (mj_upI I 9 q (nI j)) d r (mj_J_up (by decide) (by decide) (by decide) (by decide) hJ)) ?_
      refine R_seg (φ := []) (pc' := 28) (L' := [.ref 1, .ref 9, .int q, .int (nI e), .int (nI m), .int was, .int g, .int (nI j)]) (st' := [.int ((s_X5_readingsAreSo (2) m p R (mj_upI I 9 q (nI j))).1)]) (σ' := (mj_KS N, (s_X5_readingsAreSo (2) m p R (mj_upI I 9 q (nI j))).2, mj_PP (2) d r)) 0 rfl trivial ?_
      refine R_br (q := ((s_X5_readingsAreSo (2) m p R (mj_upI I 9 q (nI j))).1 : Int32) = 0) (t := 40) (f := 31) (rest := []) rfl (fun h2 => ?_) (fun h2 => ?_)
      · skip
        refine R_seg (φ := []) (pc' := 11) (L' := [.ref 1, .ref 9, .int q, .int (nI e), .int (nI m), .int was, .int g, .int ((nI j) + 1)]) (st' := []) (σ' := (mj_KS N, (s_X5_readingsAreSo (2) m p R (mj_upI I 9 q (nI j))).2, mj_PP (2) d r)) 2 rfl trivial ?_
        rw [nI_1 j]
        rw [show s_X5_fi 2 7 q m p R e was (k + 1) j g I = s_X5_fi 2 7 q m p R e was k (j + 1) g ((s_X5_readingsAreSo (2) m p R (mj_upI I 9 q (nI j))).2) from by simp only [s_X5_fi, if_pos h2, Bool.false_eq_true, ↓reduceIte, Nat.reduceAdd, Nat.reduceMul, mj_tn0, mj_tn1, mj_tn2, mj_tn3]]
        exact ih (j + 1) g ((s_X5_readingsAreSo (2) m p R (mj_upI I 9 q (nI j))).2) (by omega) (by omega) (by omega) (mj_J_fr (by decide) (fun x y hx => mj_ras_fr _ _ _ _ _ x y hx) (mj_J_up (by decide) (by decide) (by decide) (by decide) hJ))
      · skip
        refine R_seg (φ := []) (pc' := 11) (L' := [.ref 1, .ref 9, .int q, .int (nI e), .int (nI m), .int was, .int (g ||| (1 <<< ((nI j) &&& 31))), .int ((nI j) + 1)]) (st' := []) (σ' := (mj_KS N, (s_X5_readingsAreSo (2) m p R (mj_upI I 9 q (nI j))).2, mj_PP (2) d r)) 8 rfl trivial ?_
        rw [nI_1 j]
        rw [show s_X5_fi 2 7 q m p R e was (k + 1) j g I = s_X5_fi 2 7 q m p R e was k (j + 1) (g ||| (1 <<< ((nI j) &&& 31))) ((s_X5_readingsAreSo (2) m p R (mj_upI I 9 q (nI j))).2) from by simp only [s_X5_fi, if_neg h2, Bool.false_eq_true, ↓reduceIte, Nat.reduceAdd, Nat.reduceMul, mj_tn0, mj_tn1, mj_tn2, mj_tn3]]
        exact ih (j + 1) (g ||| (1 <<< ((nI j) &&& 31))) ((s_X5_readingsAreSo (2) m p R (mj_upI I 9 q (nI j))).2) (by omega) (by omega) (by omega) (mj_J_fr (by decide) (fun x y hx => mj_ras_fr _ _ _ _ _ x y hx) (mj_J_up (by decide) (by decide) (by decide) (by decide) hJ))
  · skip
    intro k
    induction k with
    | zero =>
      intro j g I hk hlo hj hJ
      refine R_seg (φ := []) (pc' := 14) (L' := [.ref 1, .ref 11, .int q, .int (nI e), .int (nI m), .int was, .int g, .int (nI j)]) (st' := [.int (nI e), .int (nI j)]) (σ' := (mj_KS N, I, mj_PP (10) d r)) 2 rfl trivial ?_
      refine R_br (q := (nI j : Int32) < nI e) (t := 17) (f := 46) (rest := []) rfl (fun h1 => absurd h1 (by exact nI_nlt (by omega) (by omega))) (fun h1 => ?_)
      refine R_seg (φ := [mj_in q 6]) (pc' := 53) (L' := [.ref 1, .ref 11, .int q, .int (nI e), .int (nI m), .int was, .int g, .int (nI j)]) (st' := [.int g]) (σ' := (mj_KS N, (mj_upI I 11 q was), mj_PP (10) d r)) 5 rfl ⟨hq, trivial⟩ ?_
      exact R_ri rfl rfl (mj_leaf (by simp only [s_X5_fi, Bool.false_eq_true, ↓reduceIte, Nat.reduceAdd, Nat.reduceMul, mj_tn0, mj_tn1, mj_tn2, mj_tn3]) (by simp only [s_X5_fi, Bool.false_eq_true, ↓reduceIte, Nat.reduceAdd, Nat.reduceMul, mj_tn0, mj_tn1, mj_tn2, mj_tn3]))
    | succ k ih =>
      intro j g I hk hlo hj hJ
      have hjm : j < e := by omega
      refine R_seg (φ := []) (pc' := 14) (L' := [.ref 1, .ref 11, .int q, .int (nI e), .int (nI m), .int was, .int g, .int (nI j)]) (st' := [.int (nI e), .int (nI j)]) (σ' := (mj_KS N, I, mj_PP (10) d r)) 2 rfl trivial ?_
      refine R_br (q := (nI j : Int32) < nI e) (t := 17) (f := 46) (rest := []) rfl (fun h1 => ?_) (fun h1 => absurd (by exact nI_lt hjm (by omega)) h1)
      refine R_seg (φ := [mj_in q 6]) (pc' := 25) (L' := [.ref 1, .ref 11, .int q, .int (nI e), .int (nI m), .int was, .int g, .int (nI j)]) (st' := [.int (nI m), .ref 1]) (σ' := (mj_KS N, (mj_upI I 11 q (nI j)), mj_PP (10) d r)) 6 rfl ⟨hq, trivial⟩ ?_
      refine R_ce (idx := 231) (mid := 69) (kind := 0) (N := N) (M' := mj_m_X5_readingsAreSo) (As := [.ref 1, .int (nI m)]) (rest := []) (I := (mj_upI I 11 q (nI j))) (P := mj_PP (10) d r) (I' := (s_X5_readingsAreSo (10) m p R (mj_upI I 11 q (nI j))).2) (P' := mj_PP (10) d r) (v := some (.int ((s_X5_readingsAreSo (10) m p R (mj_upI I 11 q (nI j))).1))) rfl rfl rfl mj_mc69 mj_dc69 rfl rfl rfl rfl rfl rfl (x_X5_readingsAreSo l b base D z N (10) m p R (by decide) (mj_upI I 11 q (nI j)) d r (mj_J_up (by decide) (by decide) (by decide) (by decide) hJ)) ?_
      refine R_seg (φ := []) (pc' := 28) (L' := [.ref 1, .ref 11, .int q, .int (nI e), .int (nI m), .int was, .int g, .int (nI j)]) (st' := [.int ((s_X5_readingsAreSo (10) m p R (mj_upI I 11 q (nI j))).1)]) (σ' := (mj_KS N, (s_X5_readingsAreSo (10) m p R (mj_upI I 11 q (nI j))).2, mj_PP (10) d r)) 0 rfl trivial ?_
      refine R_br (q := ((s_X5_readingsAreSo (10) m p R (mj_upI I 11 q (nI j))).1 : Int32) = 0) (t := 40) (f := 31) (rest := []) rfl (fun h2 => ?_) (fun h2 => ?_)
      · skip
        refine R_seg (φ := []) (pc' := 11) (L' := [.ref 1, .ref 11, .int q, .int (nI e), .int (nI m), .int was, .int g, .int ((nI j) + 1)]) (st' := []) (σ' := (mj_KS N, (s_X5_readingsAreSo (10) m p R (mj_upI I 11 q (nI j))).2, mj_PP (10) d r)) 2 rfl trivial ?_
        rw [nI_1 j]
        rw [show s_X5_fi 10 1 q m p R e was (k + 1) j g I = s_X5_fi 10 1 q m p R e was k (j + 1) g ((s_X5_readingsAreSo (10) m p R (mj_upI I 11 q (nI j))).2) from by simp only [s_X5_fi, if_pos h2, Bool.false_eq_true, ↓reduceIte, Nat.reduceAdd, Nat.reduceMul, mj_tn0, mj_tn1, mj_tn2, mj_tn3]]
        exact ih (j + 1) g ((s_X5_readingsAreSo (10) m p R (mj_upI I 11 q (nI j))).2) (by omega) (by omega) (by omega) (mj_J_fr (by decide) (fun x y hx => mj_ras_fr _ _ _ _ _ x y hx) (mj_J_up (by decide) (by decide) (by decide) (by decide) hJ))
      · skip
        refine R_seg (φ := []) (pc' := 11) (L' := [.ref 1, .ref 11, .int q, .int (nI e), .int (nI m), .int was, .int (g ||| (1 <<< ((nI j) &&& 31))), .int ((nI j) + 1)]) (st' := []) (σ' := (mj_KS N, (s_X5_readingsAreSo (10) m p R (mj_upI I 11 q (nI j))).2, mj_PP (10) d r)) 8 rfl trivial ?_
        rw [nI_1 j]
        rw [show s_X5_fi 10 1 q m p R e was (k + 1) j g I = s_X5_fi 10 1 q m p R e was k (j + 1) (g ||| (1 <<< ((nI j) &&& 31))) ((s_X5_readingsAreSo (10) m p R (mj_upI I 11 q (nI j))).2) from by simp only [s_X5_fi, if_neg h2, Bool.false_eq_true, ↓reduceIte, Nat.reduceAdd, Nat.reduceMul, mj_tn0, mj_tn1, mj_tn2, mj_tn3]]
        exact ih (j + 1) (g ||| (1 <<< ((nI j) &&& 31))) ((s_X5_readingsAreSo (10) m p R (mj_upI I 11 q (nI j))).2) (by omega) (by omega) (by omega) (mj_J_fr (by decide) (fun x y hx => mj_ras_fr _ _ _ _ _ x y hx) (mj_J_up (by decide) (by decide) (by decide) (by decide) hJ))
  · skip
    intro k
    induction k with
    | zero =>
      intro j g I hk hlo hj hJ
      refine R_seg (φ := []) (pc' := 14) (L' := [.ref 1, .ref 13, .int q, .int (nI e), .int (nI m), .int was, .int g, .int (nI j)]) (st' := [.int (nI e), .int (nI j)]) (σ' := (mj_KS N, I, mj_PP (10) d r)) 2 rfl trivial ?_
      refine R_br (q := (nI j : Int32) < nI e) (t := 17) (f := 46) (rest := []) rfl (fun h1 => absurd h1 (by exact nI_nlt (by omega) (by omega))) (fun h1 => ?_)
      refine R_seg (φ := [mj_in q 3]) (pc' := 53) (L' := [.ref 1, .ref 13, .int q, .int (nI e), .int (nI m), .int was, .int g, .int (nI j)]) (st' := [.int g]) (σ' := (mj_KS N, (mj_upI I 13 q was), mj_PP (10) d r)) 5 rfl ⟨hq, trivial⟩ ?_
      exact R_ri rfl rfl (mj_leaf (by simp only [s_X5_fi, Bool.false_eq_true, ↓reduceIte, Nat.reduceAdd, Nat.reduceMul, mj_tn0, mj_tn1, mj_tn2, mj_tn3]) (by simp only [s_X5_fi, Bool.false_eq_true, ↓reduceIte, Nat.reduceAdd, Nat.reduceMul, mj_tn0, mj_tn1, mj_tn2, mj_tn3]))
    | succ k ih =>
      intro j g I hk hlo hj hJ
      have hjm : j < e := by omega
      refine R_seg (φ := []) (pc' := 14) (L' := [.ref 1, .ref 13, .int q, .int (nI e), .int (nI m), .int was, .int g, .int (nI j)]) (st' := [.int (nI e), .int (nI j)]) (σ' := (mj_KS N, I, mj_PP (10) d r)) 2 rfl trivial ?_
      refine R_br (q := (nI j : Int32) < nI e) (t := 17) (f := 46) (rest := []) rfl (fun h1 => ?_) (fun h1 => absurd (by exact nI_lt hjm (by omega)) h1)
      refine R_seg (φ := [mj_in q 3]) (pc' := 25) (L' := [.ref 1, .ref 13, .int q, .int (nI e), .int (nI m), .int was, .int g, .int (nI j)]) (st' := [.int (nI m), .ref 1]) (σ' := (mj_KS N, (mj_upI I 13 q (nI j)), mj_PP (10) d r)) 6 rfl ⟨hq, trivial⟩ ?_
      refine R_ce (idx := 231) (mid := 69) (kind := 0) (N := N) (M' := mj_m_X5_readingsAreSo) (As := [.ref 1, .int (nI m)]) (rest := []) (I := (mj_upI I 13 q (nI j))) (P := mj_PP (10) d r) (I' := (s_X5_readingsAreSo (10) m p R (mj_upI I 13 q (nI j))).2) (P' := mj_PP (10) d r) (v := some (.int ((s_X5_readingsAreSo (10) m p R (mj_upI I 13 q (nI j))).1))) rfl rfl rfl mj_mc69 mj_dc69 rfl rfl rfl rfl rfl rfl (x_X5_readingsAreSo l b base D z N (10) m p R (by decide) (mj_upI I 13 q (nI j)) d r (mj_J_up (by decide) (by decide) (by decide) (by decide) hJ)) ?_
      refine R_seg (φ := []) (pc' := 28) (L' := [.ref 1, .ref 13, .int q, .int (nI e), .int (nI m), .int was, .int g, .int (nI j)]) (st' := [.int ((s_X5_readingsAreSo (10) m p R (mj_upI I 13 q (nI j))).1)]) (σ' := (mj_KS N, (s_X5_readingsAreSo (10) m p R (mj_upI I 13 q (nI j))).2, mj_PP (10) d r)) 0 rfl trivial ?_
      refine R_br (q := ((s_X5_readingsAreSo (10) m p R (mj_upI I 13 q (nI j))).1 : Int32) = 0) (t := 40) (f := 31) (rest := []) rfl (fun h2 => ?_) (fun h2 => ?_)
      · skip
        refine R_seg (φ := []) (pc' := 11) (L' := [.ref 1, .ref 13, .int q, .int (nI e), .int (nI m), .int was, .int g, .int ((nI j) + 1)]) (st' := []) (σ' := (mj_KS N, (s_X5_readingsAreSo (10) m p R (mj_upI I 13 q (nI j))).2, mj_PP (10) d r)) 2 rfl trivial ?_
        rw [nI_1 j]
        rw [show s_X5_fi 10 3 q m p R e was (k + 1) j g I = s_X5_fi 10 3 q m p R e was k (j + 1) g ((s_X5_readingsAreSo (10) m p R (mj_upI I 13 q (nI j))).2) from by simp only [s_X5_fi, if_pos h2, Bool.false_eq_true, ↓reduceIte, Nat.reduceAdd, Nat.reduceMul, mj_tn0, mj_tn1, mj_tn2, mj_tn3]]
        exact ih (j + 1) g ((s_X5_readingsAreSo (10) m p R (mj_upI I 13 q (nI j))).2) (by omega) (by omega) (by omega) (mj_J_fr (by decide) (fun x y hx => mj_ras_fr _ _ _ _ _ x y hx) (mj_J_up (by decide) (by decide) (by decide) (by decide) hJ))
      · skip
        refine R_seg (φ := []) (pc' := 11) (L' := [.ref 1, .ref 13, .int q, .int (nI e), .int (nI m), .int was, .int (g ||| (1 <<< ((nI j) &&& 31))), .int ((nI j) + 1)]) (st' := []) (σ' := (mj_KS N, (s_X5_readingsAreSo (10) m p R (mj_upI I 13 q (nI j))).2, mj_PP (10) d r)) 8 rfl trivial ?_
        rw [nI_1 j]
        rw [show s_X5_fi 10 3 q m p R e was (k + 1) j g I = s_X5_fi 10 3 q m p R e was k (j + 1) (g ||| (1 <<< ((nI j) &&& 31))) ((s_X5_readingsAreSo (10) m p R (mj_upI I 13 q (nI j))).2) from by simp only [s_X5_fi, if_neg h2, Bool.false_eq_true, ↓reduceIte, Nat.reduceAdd, Nat.reduceMul, mj_tn0, mj_tn1, mj_tn2, mj_tn3]]
        exact ih (j + 1) (g ||| (1 <<< ((nI j) &&& 31))) ((s_X5_readingsAreSo (10) m p R (mj_upI I 13 q (nI j))).2) (by omega) (by omega) (by omega) (mj_J_fr (by decide) (fun x y hx => mj_ras_fr _ _ _ _ _ x y hx) (mj_J_up (by decide) (by decide) (by decide) (by decide) hJ))
  · skip
    intro k
    induction k with
    | zero =>
      intro j g I hk hlo hj hJ
      refine R_seg (φ := []) (pc' := 14) (L' := [.ref 1, .ref 15, .int q, .int (nI e), .int (nI m), .int was, .int g, .int (nI j)]) (st' := [.int (nI e), .int (nI j)]) (σ' := (mj_KS N, I, mj_PP (10) d r)) 2 rfl trivial ?_
      refine R_br (q := (nI j : Int32) < nI e) (t := 17) (f := 46) (rest := []) rfl (fun h1 => absurd h1 (by exact nI_nlt (by omega) (by omega))) (fun h1 => ?_)
      refine R_seg (φ := [mj_in q 3]) (pc' := 53) (L' := [.ref 1, .ref 15, .int q, .int (nI e), .int (nI m), .int was, .int g, .int (nI j)]) (st' := [.int g]) (σ' := (mj_KS N, (mj_upI I 15 q was), mj_PP (10) d r)) 5 rfl ⟨hq, trivial⟩ ?_
      exact R_ri rfl rfl (mj_leaf (by simp only [s_X5_fi, Bool.false_eq_true, ↓reduceIte, Nat.reduceAdd, Nat.reduceMul, mj_tn0, mj_tn1, mj_tn2, mj_tn3]) (by simp only [s_X5_fi, Bool.false_eq_true, ↓reduceIte, Nat.reduceAdd, Nat.reduceMul, mj_tn0, mj_tn1, mj_tn2, mj_tn3]))
    | succ k ih =>
      intro j g I hk hlo hj hJ
      have hjm : j < e := by omega
      refine R_seg (φ := []) (pc' := 14) (L' := [.ref 1, .ref 15, .int q, .int (nI e), .int (nI m), .int was, .int g, .int (nI j)]) (st' := [.int (nI e), .int (nI j)]) (σ' := (mj_KS N, I, mj_PP (10) d r)) 2 rfl trivial ?_
      refine R_br (q := (nI j : Int32) < nI e) (t := 17) (f := 46) (rest := []) rfl (fun h1 => ?_) (fun h1 => absurd (by exact nI_lt hjm (by omega)) h1)
      refine R_seg (φ := [mj_in q 3]) (pc' := 25) (L' := [.ref 1, .ref 15, .int q, .int (nI e), .int (nI m), .int was, .int g, .int (nI j)]) (st' := [.int (nI m), .ref 1]) (σ' := (mj_KS N, (mj_upI I 15 q (nI j)), mj_PP (10) d r)) 6 rfl ⟨hq, trivial⟩ ?_
      refine R_ce (idx := 231) (mid := 69) (kind := 0) (N := N) (M' := mj_m_X5_readingsAreSo) (As := [.ref 1, .int (nI m)]) (rest := []) (I := (mj_upI I 15 q (nI j))) (P := mj_PP (10) d r) (I' := (s_X5_readingsAreSo (10) m p R (mj_upI I 15 q (nI j))).2) (P' := mj_PP (10) d r) (v := some (.int ((s_X5_readingsAreSo (10) m p R (mj_upI I 15 q (nI j))).1))) rfl rfl rfl mj_mc69 mj_dc69 rfl rfl rfl rfl rfl rfl (x_X5_readingsAreSo l b base D z N (10) m p R (by decide) (mj_upI I 15 q (nI j)) d r (mj_J_up (by decide) (by decide) (by decide) (by decide) hJ)) ?_
      refine R_seg (φ := []) (pc' := 28) (L' := [.ref 1, .ref 15, .int q, .int (nI e), .int (nI m), .int was, .int g, .int (nI j)]) (st' := [.int ((s_X5_readingsAreSo (10) m p R (mj_upI I 15 q (nI j))).1)]) (σ' := (mj_KS N, (s_X5_readingsAreSo (10) m p R (mj_upI I 15 q (nI j))).2, mj_PP (10) d r)) 0 rfl trivial ?_
      refine R_br (q := ((s_X5_readingsAreSo (10) m p R (mj_upI I 15 q (nI j))).1 : Int32) = 0) (t := 40) (f := 31) (rest := []) rfl (fun h2 => ?_) (fun h2 => ?_)
      · skip
        refine R_seg (φ := []) (pc' := 11) (L' := [.ref 1, .ref 15, .int q, .int (nI e), .int (nI m), .int was, .int g, .int ((nI j) + 1)]) (st' := []) (σ' := (mj_KS N, (s_X5_readingsAreSo (10) m p R (mj_upI I 15 q (nI j))).2, mj_PP (10) d r)) 2 rfl trivial ?_
        rw [nI_1 j]
        rw [show s_X5_fi 10 5 q m p R e was (k + 1) j g I = s_X5_fi 10 5 q m p R e was k (j + 1) g ((s_X5_readingsAreSo (10) m p R (mj_upI I 15 q (nI j))).2) from by simp only [s_X5_fi, if_pos h2, Bool.false_eq_true, ↓reduceIte, Nat.reduceAdd, Nat.reduceMul, mj_tn0, mj_tn1, mj_tn2, mj_tn3]]
        exact ih (j + 1) g ((s_X5_readingsAreSo (10) m p R (mj_upI I 15 q (nI j))).2) (by omega) (by omega) (by omega) (mj_J_fr (by decide) (fun x y hx => mj_ras_fr _ _ _ _ _ x y hx) (mj_J_up (by decide) (by decide) (by decide) (by decide) hJ))
      · skip
        refine R_seg (φ := []) (pc' := 11) (L' := [.ref 1, .ref 15, .int q, .int (nI e), .int (nI m), .int was, .int (g ||| (1 <<< ((nI j) &&& 31))), .int ((nI j) + 1)]) (st' := []) (σ' := (mj_KS N, (s_X5_readingsAreSo (10) m p R (mj_upI I 15 q (nI j))).2, mj_PP (10) d r)) 8 rfl trivial ?_
        rw [nI_1 j]
        rw [show s_X5_fi 10 5 q m p R e was (k + 1) j g I = s_X5_fi 10 5 q m p R e was k (j + 1) (g ||| (1 <<< ((nI j) &&& 31))) ((s_X5_readingsAreSo (10) m p R (mj_upI I 15 q (nI j))).2) from by simp only [s_X5_fi, if_neg h2, Bool.false_eq_true, ↓reduceIte, Nat.reduceAdd, Nat.reduceMul, mj_tn0, mj_tn1, mj_tn2, mj_tn3]]
        exact ih (j + 1) (g ||| (1 <<< ((nI j) &&& 31))) ((s_X5_readingsAreSo (10) m p R (mj_upI I 15 q (nI j))).2) (by omega) (by omega) (by omega) (mj_J_fr (by decide) (fun x y hx => mj_ras_fr _ _ _ _ _ x y hx) (mj_J_up (by decide) (by decide) (by decide) (by decide) hJ))
  · skip
    intro k
    induction k with
    | zero =>
      intro j g I hk hlo hj hJ
      refine R_seg (φ := []) (pc' := 14) (L' := [.ref 1, .ref 16, .int q, .int (nI e), .int (nI m), .int was, .int g, .int (nI j)]) (st' := [.int (nI e), .int (nI j)]) (σ' := (mj_KS N, I, mj_PP (10) d r)) 2 rfl trivial ?_
      refine R_br (q := (nI j : Int32) < nI e) (t := 17) (f := 46) (rest := []) rfl (fun h1 => absurd h1 (by exact nI_nlt (by omega) (by omega))) (fun h1 => ?_)
      refine R_seg (φ := [mj_in q 3]) (pc' := 53) (L' := [.ref 1, .ref 16, .int q, .int (nI e), .int (nI m), .int was, .int g, .int (nI j)]) (st' := [.int g]) (σ' := (mj_KS N, (mj_upI I 16 q was), mj_PP (10) d r)) 5 rfl ⟨hq, trivial⟩ ?_
      exact R_ri rfl rfl (mj_leaf (by simp only [s_X5_fi, Bool.false_eq_true, ↓reduceIte, Nat.reduceAdd, Nat.reduceMul, mj_tn0, mj_tn1, mj_tn2, mj_tn3]) (by simp only [s_X5_fi, Bool.false_eq_true, ↓reduceIte, Nat.reduceAdd, Nat.reduceMul, mj_tn0, mj_tn1, mj_tn2, mj_tn3]))
    | succ k ih =>
      intro j g I hk hlo hj hJ
      have hjm : j < e := by omega
      refine R_seg (φ := []) (pc' := 14) (L' := [.ref 1, .ref 16, .int q, .int (nI e), .int (nI m), .int was, .int g, .int (nI j)]) (st' := [.int (nI e), .int (nI j)]) (σ' := (mj_KS N, I, mj_PP (10) d r)) 2 rfl trivial ?_
      refine R_br (q := (nI j : Int32) < nI e) (t := 17) (f := 46) (rest := []) rfl (fun h1 => ?_) (fun h1 => absurd (by exact nI_lt hjm (by omega)) h1)
      refine R_seg (φ := [mj_in q 3]) (pc' := 25) (L' := [.ref 1, .ref 16, .int q, .int (nI e), .int (nI m), .int was, .int g, .int (nI j)]) (st' := [.int (nI m), .ref 1]) (σ' := (mj_KS N, (mj_upI I 16 q (nI j)), mj_PP (10) d r)) 6 rfl ⟨hq, trivial⟩ ?_
      refine R_ce (idx := 231) (mid := 69) (kind := 0) (N := N) (M' := mj_m_X5_readingsAreSo) (As := [.ref 1, .int (nI m)]) (rest := []) (I := (mj_upI I 16 q (nI j))) (P := mj_PP (10) d r) (I' := (s_X5_readingsAreSo (10) m p R (mj_upI I 16 q (nI j))).2) (P' := mj_PP (10) d r) (v := some (.int ((s_X5_readingsAreSo (10) m p R (mj_upI I 16 q (nI j))).1))) rfl rfl rfl mj_mc69 mj_dc69 rfl rfl rfl rfl rfl rfl (x_X5_readingsAreSo l b base D z N (10) m p R (by decide) (mj_upI I 16 q (nI j)) d r (mj_J_up (by decide) (by decide) (by decide) (by decide) hJ)) ?_
      refine R_seg (φ := []) (pc' := 28) (L' := [.ref 1, .ref 16, .int q, .int (nI e), .int (nI m), .int was, .int g, .int (nI j)]) (st' := [.int ((s_X5_readingsAreSo (10) m p R (mj_upI I 16 q (nI j))).1)]) (σ' := (mj_KS N, (s_X5_readingsAreSo (10) m p R (mj_upI I 16 q (nI j))).2, mj_PP (10) d r)) 0 rfl trivial ?_
      refine R_br (q := ((s_X5_readingsAreSo (10) m p R (mj_upI I 16 q (nI j))).1 : Int32) = 0) (t := 40) (f := 31) (rest := []) rfl (fun h2 => ?_) (fun h2 => ?_)
      · skip
        refine R_seg (φ := []) (pc' := 11) (L' := [.ref 1, .ref 16, .int q, .int (nI e), .int (nI m), .int was, .int g, .int ((nI j) + 1)]) (st' := []) (σ' := (mj_KS N, (s_X5_readingsAreSo (10) m p R (mj_upI I 16 q (nI j))).2, mj_PP (10) d r)) 2 rfl trivial ?_
        rw [nI_1 j]
        rw [show s_X5_fi 10 6 q m p R e was (k + 1) j g I = s_X5_fi 10 6 q m p R e was k (j + 1) g ((s_X5_readingsAreSo (10) m p R (mj_upI I 16 q (nI j))).2) from by simp only [s_X5_fi, if_pos h2, Bool.false_eq_true, ↓reduceIte, Nat.reduceAdd, Nat.reduceMul, mj_tn0, mj_tn1, mj_tn2, mj_tn3]]
        exact ih (j + 1) g ((s_X5_readingsAreSo (10) m p R (mj_upI I 16 q (nI j))).2) (by omega) (by omega) (by omega) (mj_J_fr (by decide) (fun x y hx => mj_ras_fr _ _ _ _ _ x y hx) (mj_J_up (by decide) (by decide) (by decide) (by decide) hJ))
      · skip
        refine R_seg (φ := []) (pc' := 11) (L' := [.ref 1, .ref 16, .int q, .int (nI e), .int (nI m), .int was, .int (g ||| (1 <<< ((nI j) &&& 31))), .int ((nI j) + 1)]) (st' := []) (σ' := (mj_KS N, (s_X5_readingsAreSo (10) m p R (mj_upI I 16 q (nI j))).2, mj_PP (10) d r)) 8 rfl trivial ?_
        rw [nI_1 j]
        rw [show s_X5_fi 10 6 q m p R e was (k + 1) j g I = s_X5_fi 10 6 q m p R e was k (j + 1) (g ||| (1 <<< ((nI j) &&& 31))) ((s_X5_readingsAreSo (10) m p R (mj_upI I 16 q (nI j))).2) from by simp only [s_X5_fi, if_neg h2, Bool.false_eq_true, ↓reduceIte, Nat.reduceAdd, Nat.reduceMul, mj_tn0, mj_tn1, mj_tn2, mj_tn3]]
        exact ih (j + 1) (g ||| (1 <<< ((nI j) &&& 31))) ((s_X5_readingsAreSo (10) m p R (mj_upI I 16 q (nI j))).2) (by omega) (by omega) (by omega) (mj_J_fr (by decide) (fun x y hx => mj_ras_fr _ _ _ _ _ x y hx) (mj_J_up (by decide) (by decide) (by decide) (by decide) hJ))
  · skip
    intro k
    induction k with
    | zero =>
      intro j g I hk hlo hj hJ
      refine R_seg (φ := []) (pc' := 14) (L' := [.ref 1, .ref 17, .int q, .int (nI e), .int (nI m), .int was, .int g, .int (nI j)]) (st' := [.int (nI e), .int (nI j)]) (σ' := (mj_KS N, I, mj_PP (10) d r)) 2 rfl trivial ?_
      refine R_br (q := (nI j : Int32) < nI e) (t := 17) (f := 46) (rest := []) rfl (fun h1 => absurd h1 (by exact nI_nlt (by omega) (by omega))) (fun h1 => ?_)
      refine R_seg (φ := [mj_in q 3]) (pc' := 53) (L' := [.ref 1, .ref 17, .int q, .int (nI e), .int (nI m), .int was, .int g, .int (nI j)]) (st' := [.int g]) (σ' := (mj_KS N, (mj_upI I 17 q was), mj_PP (10) d r)) 5 rfl ⟨hq, trivial⟩ ?_
      exact R_ri rfl rfl (mj_leaf (by simp only [s_X5_fi, Bool.false_eq_true, ↓reduceIte, Nat.reduceAdd, Nat.reduceMul, mj_tn0, mj_tn1, mj_tn2, mj_tn3]) (by simp only [s_X5_fi, Bool.false_eq_true, ↓reduceIte, Nat.reduceAdd, Nat.reduceMul, mj_tn0, mj_tn1, mj_tn2, mj_tn3]))
    | succ k ih =>
      intro j g I hk hlo hj hJ
      have hjm : j < e := by omega
      refine R_seg (φ := []) (pc' := 14) (L' := [.ref 1, .ref 17, .int q, .int (nI e), .int (nI m), .int was, .int g, .int (nI j)]) (st' := [.int (nI e), .int (nI j)]) (σ' := (mj_KS N, I, mj_PP (10) d r)) 2 rfl trivial ?_
      refine R_br (q := (nI j : Int32) < nI e) (t := 17) (f := 46) (rest := []) rfl (fun h1 => ?_) (fun h1 => absurd (by exact nI_lt hjm (by omega)) h1)
      refine R_seg (φ := [mj_in q 3]) (pc' := 25) (L' := [.ref 1, .ref 17, .int q, .int (nI e), .int (nI m), .int was, .int g, .int (nI j)]) (st' := [.int (nI m), .ref 1]) (σ' := (mj_KS N, (mj_upI I 17 q (nI j)), mj_PP (10) d r)) 6 rfl ⟨hq, trivial⟩ ?_
      refine R_ce (idx := 231) (mid := 69) (kind := 0) (N := N) (M' := mj_m_X5_readingsAreSo) (As := [.ref 1, .int (nI m)]) (rest := []) (I := (mj_upI I 17 q (nI j))) (P := mj_PP (10) d r) (I' := (s_X5_readingsAreSo (10) m p R (mj_upI I 17 q (nI j))).2) (P' := mj_PP (10) d r) (v := some (.int ((s_X5_readingsAreSo (10) m p R (mj_upI I 17 q (nI j))).1))) rfl rfl rfl mj_mc69 mj_dc69 rfl rfl rfl rfl rfl rfl (x_X5_readingsAreSo l b base D z N (10) m p R (by decide) (mj_upI I 17 q (nI j)) d r (mj_J_up (by decide) (by decide) (by decide) (by decide) hJ)) ?_
      refine R_seg (φ := []) (pc' := 28) (L' := [.ref 1, .ref 17, .int q, .int (nI e), .int (nI m), .int was, .int g, .int (nI j)]) (st' := [.int ((s_X5_readingsAreSo (10) m p R (mj_upI I 17 q (nI j))).1)]) (σ' := (mj_KS N, (s_X5_readingsAreSo (10) m p R (mj_upI I 17 q (nI j))).2, mj_PP (10) d r)) 0 rfl trivial ?_
      refine R_br (q := ((s_X5_readingsAreSo (10) m p R (mj_upI I 17 q (nI j))).1 : Int32) = 0) (t := 40) (f := 31) (rest := []) rfl (fun h2 => ?_) (fun h2 => ?_)
      · skip
        refine R_seg (φ := []) (pc' := 11) (L' := [.ref 1, .ref 17, .int q, .int (nI e), .int (nI m), .int was, .int g, .int ((nI j) + 1)]) (st' := []) (σ' := (mj_KS N, (s_X5_readingsAreSo (10) m p R (mj_upI I 17 q (nI j))).2, mj_PP (10) d r)) 2 rfl trivial ?_
        rw [nI_1 j]
        rw [show s_X5_fi 10 7 q m p R e was (k + 1) j g I = s_X5_fi 10 7 q m p R e was k (j + 1) g ((s_X5_readingsAreSo (10) m p R (mj_upI I 17 q (nI j))).2) from by simp only [s_X5_fi, if_pos h2, Bool.false_eq_true, ↓reduceIte, Nat.reduceAdd, Nat.reduceMul, mj_tn0, mj_tn1, mj_tn2, mj_tn3]]
        exact ih (j + 1) g ((s_X5_readingsAreSo (10) m p R (mj_upI I 17 q (nI j))).2) (by omega) (by omega) (by omega) (mj_J_fr (by decide) (fun x y hx => mj_ras_fr _ _ _ _ _ x y hx) (mj_J_up (by decide) (by decide) (by decide) (by decide) hJ))
      · skip
        refine R_seg (φ := []) (pc' := 11) (L' := [.ref 1, .ref 17, .int q, .int (nI e), .int (nI m), .int was, .int (g ||| (1 <<< ((nI j) &&& 31))), .int ((nI j) + 1)]) (st' := []) (σ' := (mj_KS N, (s_X5_readingsAreSo (10) m p R (mj_upI I 17 q (nI j))).2, mj_PP (10) d r)) 8 rfl trivial ?_
        rw [nI_1 j]
        rw [show s_X5_fi 10 7 q m p R e was (k + 1) j g I = s_X5_fi 10 7 q m p R e was k (j + 1) (g ||| (1 <<< ((nI j) &&& 31))) ((s_X5_readingsAreSo (10) m p R (mj_upI I 17 q (nI j))).2) from by simp only [s_X5_fi, if_neg h2, Bool.false_eq_true, ↓reduceIte, Nat.reduceAdd, Nat.reduceMul, mj_tn0, mj_tn1, mj_tn2, mj_tn3]]
        exact ih (j + 1) (g ||| (1 <<< ((nI j) &&& 31))) ((s_X5_readingsAreSo (10) m p R (mj_upI I 17 q (nI j))).2) (by omega) (by omega) (by omega) (mj_J_fr (by decide) (fun x y hx => mj_ras_fr _ _ _ _ _ x y hx) (mj_J_up (by decide) (by decide) (by decide) (by decide) hJ))
def s_X5_fitting (cc : Nat) (y : Nat) (q : Int32) (m : Nat) (p : Nat) (R : Nat) (e : Nat) (I : mj_I) : Int32 × mj_I := ((s_X5_fi (cc) y q m p R e (I (cc + y) q) e 0 0 I).1, (s_X5_fi (cc) y q m p R e (I (cc + y) q) e 0 0 I).2)
set_option maxHeartbeats 8000000 in
theorem x_X5_fitting (l : Launch) (b base : Nat) (D : va_G) (z : mj_K × (Int32 → Int32)) (N : Nat) (cc : Nat) (y : Nat) (q : Int32) (m : Nat) (p : Nat) (R : Nat) (e : Nat) (hcc : cc = 2 ∨ cc = 10) (hy : y = 1 ∨ y = 3 ∨ y = 5 ∨ y = 6 ∨ y = 7) (I : mj_I) (d r : Nat) (he : e ≤ 4) (hq : mj_in q (if y = 1 then 6 else 3)) (hJ : mj_J cc m p R I) : mj_Rn l b base D z mj_m_X5_fitting 0 [.ref 1, .ref (cc + y), .int q, .int (nI e), .int (nI m), mj_mk, mj_mk, mj_mk] [] (mj_KS N, I, mj_PP cc d r) (mj_E N (some (.int (s_X5_fitting cc y q m p R e I).1)) (s_X5_fitting cc y q m p R e I).2 (mj_PP cc d r)) := by
  rcases hcc with rfl | rfl <;> rcases hy with rfl | rfl | rfl | rfl | rfl
  · skip
    refine R_seg (φ := [mj_in q 6]) (pc' := 11) (L' := [.ref 1, .ref 3, .int q, .int (nI e), .int (nI m), .int (I 3 q), .int 0, .int 0]) (st' := []) (σ' := (mj_KS N, I, mj_PP (2) d r)) 8 rfl ⟨hq, trivial⟩ ?_
    exact x_X5_fi l b base D z N (2) 1 q m p R e (I 3 q) (by decide) (by decide) d r he hq e 0 0 I (by omega) (by omega) (by omega) hJ
  · skip
    refine R_seg (φ := [mj_in q 3]) (pc' := 11) (L' := [.ref 1, .ref 5, .int q, .int (nI e), .int (nI m), .int (I 5 q), .int 0, .int 0]) (st' := []) (σ' := (mj_KS N, I, mj_PP (2) d r)) 8 rfl ⟨hq, trivial⟩ ?_
    exact x_X5_fi l b base D z N (2) 3 q m p R e (I 5 q) (by decide) (by decide) d r he hq e 0 0 I (by omega) (by omega) (by omega) hJ
  · skip
    refine R_seg (φ := [mj_in q 3]) (pc' := 11) (L' := [.ref 1, .ref 7, .int q, .int (nI e), .int (nI m), .int (I 7 q), .int 0, .int 0]) (st' := []) (σ' := (mj_KS N, I, mj_PP (2) d r)) 8 rfl ⟨hq, trivial⟩ ?_
    exact x_X5_fi l b base D z N (2) 5 q m p R e (I 7 q) (by decide) (by decide) d r he hq e 0 0 I (by omega) (by omega) (by omega) hJ
  · skip
    refine R_seg (φ := [mj_in q 3]) (pc' := 11) (L' := [.ref 1, .ref 8, .int q, .int (nI e), .int (nI m), .int (I 8 q), .int 0, .int 0]) (st' := []) (σ' := (mj_KS N, I, mj_PP (2) d r)) 8 rfl ⟨hq, trivial⟩ ?_
    exact x_X5_fi l b base D z N (2) 6 q m p R e (I 8 q) (by decide) (by decide) d r he hq e 0 0 I (by omega) (by omega) (by omega) hJ
  · skip
    refine R_seg (φ := [mj_in q 3]) (pc' := 11) (L' := [.ref 1, .ref 9, .int q, .int (nI e), .int (nI m), .int (I 9 q), .int 0, .int 0]) (st' := []) (σ' := (mj_KS N, I, mj_PP (2) d r)) 8 rfl ⟨hq, trivial⟩ ?_
    exact x_X5_fi l b base D z N (2) 7 q m p R e (I 9 q) (by decide) (by decide) d r he hq e 0 0 I (by omega) (by omega) (by omega) hJ
  · skip
    refine R_seg (φ := [mj_in q 6]) (pc' := 11) (L' := [.ref 1, .ref 11, .int q, .int (nI e), .int (nI m), .int (I 11 q), .int 0, .int 0]) (st' := []) (σ' := (mj_KS N, I, mj_PP (10) d r)) 8 rfl ⟨hq, trivial⟩ ?_
    exact x_X5_fi l b base D z N (10) 1 q m p R e (I 11 q) (by decide) (by decide) d r he hq e 0 0 I (by omega) (by omega) (by omega) hJ
  · skip
    refine R_seg (φ := [mj_in q 3]) (pc' := 11) (L' := [.ref 1, .ref 13, .int q, .int (nI e), .int (nI m), .int (I 13 q), .int 0, .int 0]) (st' := []) (σ' := (mj_KS N, I, mj_PP (10) d r)) 8 rfl ⟨hq, trivial⟩ ?_
    exact x_X5_fi l b base D z N (10) 3 q m p R e (I 13 q) (by decide) (by decide) d r he hq e 0 0 I (by omega) (by omega) (by omega) hJ
  · skip
    refine R_seg (φ := [mj_in q 3]) (pc' := 11) (L' := [.ref 1, .ref 15, .int q, .int (nI e), .int (nI m), .int (I 15 q), .int 0, .int 0]) (st' := []) (σ' := (mj_KS N, I, mj_PP (10) d r)) 8 rfl ⟨hq, trivial⟩ ?_
    exact x_X5_fi l b base D z N (10) 5 q m p R e (I 15 q) (by decide) (by decide) d r he hq e 0 0 I (by omega) (by omega) (by omega) hJ
  · skip
    refine R_seg (φ := [mj_in q 3]) (pc' := 11) (L' := [.ref 1, .ref 16, .int q, .int (nI e), .int (nI m), .int (I 16 q), .int 0, .int 0]) (st' := []) (σ' := (mj_KS N, I, mj_PP (10) d r)) 8 rfl ⟨hq, trivial⟩ ?_
    exact x_X5_fi l b base D z N (10) 6 q m p R e (I 16 q) (by decide) (by decide) d r he hq e 0 0 I (by omega) (by omega) (by omega) hJ
  · skip
    refine R_seg (φ := [mj_in q 3]) (pc' := 11) (L' := [.ref 1, .ref 17, .int q, .int (nI e), .int (nI m), .int (I 17 q), .int 0, .int 0]) (st' := []) (σ' := (mj_KS N, I, mj_PP (10) d r)) 8 rfl ⟨hq, trivial⟩ ?_
    exact x_X5_fi l b base D z N (10) 7 q m p R e (I 17 q) (by decide) (by decide) d r he hq e 0 0 I (by omega) (by omega) (by omega) hJ
theorem mj_J_way {cc m p R : Nat} {I I' : mj_I} (hcc : cc = 2 ∨ cc = 10) (hJ : mj_J cc 0 p R I) (hf : ∀ (x : Nat) (y : Int32), x ≠ 29 → x ≠ 1 ∨ y ≠ 13 → I' x y = I x y) (hm : m ≤ 24) (hw : ∀ j : Nat, j < m → mj_in (I' 29 (nI j)) 6) : mj_J cc m p R I' := by
  obtain ⟨_, _, c, d, e, f, g⟩ := hJ
  have hc : cc ≠ 29 := by omega
  have hc1 : cc ≠ 1 := by omega
  exact ⟨hm, hw, by rw [hf cc 1 hc (Or.inl hc1)]; exact c, d, by rw [hf 1 11 (by decide) (Or.inr (by decide))]; exact e, f, fun j hj => by rw [hf 32 _ (by decide) (Or.inl (by decide))]; exact g j hj⟩
def s_X5_seasons (cc : Nat) (p : Nat) (R : Nat) (q : Int32) (s : Int32) (a : Int32) (i : Int32) (n : Int32) (I : mj_I) : Int32 × mj_I := if sp_has (I cc 0) q then (if ((s_X5_takeReadWay (cc) s a i n I).1 : Int32) = 0 then ((s_X5_fitting (cc) 1 q n.toNatClampNeg p R 4 ((s_X5_takeReadWay (cc) s a i n I).2)).1, (s_X5_fitting (cc) 1 q n.toNatClampNeg p R 4 ((s_X5_takeReadWay (cc) s a i n I).2)).2) else ((s_X5_takeReadWay (cc) s a i n I).1, (s_X5_takeReadWay (cc) s a i n I).2)) else ((s_X5_refuse (-1) I).1, (s_X5_refuse (-1) I).2)
set_option maxHeartbeats 8000000 in
theorem x_X5_seasons (l : Launch) (b base : Nat) (D : va_G) (z : mj_K × (Int32 → Int32)) (N : Nat) (cc : Nat) (p : Nat) (R : Nat) (q : Int32) (s : Int32) (a : Int32) (i : Int32) (n : Int32) (hcc : cc = 2 ∨ cc = 10) (I : mj_I) (d r : Nat) (hl : ∀ j : Nat, j < 4 → 0 ≤ (I (34 + 2 * j) 2).toInt ∧ (I (34 + 2 * j) 2).toInt ≤ 60) (h6 : (I cc 0).toInt ≤ 6) (hJ : mj_J cc 0 p R I) : mj_Rn l b base D z mj_m_X5_seasons 0 [.ref 1, .int q, .int s, .int a, .int i, .int n, mj_mk] [] (mj_KS N, I, mj_PP cc d r) (mj_E N (some (.int (s_X5_seasons cc p R q s a i n I).1)) (s_X5_seasons cc p R q s a i n I).2 (mj_PP cc d r)) := by
  rcases hcc with rfl | rfl
  · skip
    refine R_seg (φ := []) (pc' := 5) (L' := [.ref 1, .int q, .int s, .int a, .int i, .int n, mj_mk]) (st' := [.int q, .ref 2]) (σ' := (mj_KS N, I, mj_PP (2) d r)) 3 rfl trivial ?_
    refine R_ce (idx := 110) (mid := 7) (kind := 3) (N := N) (M' := mj_m_X1_hasStreet) (As := [.ref 2, .int q]) (rest := []) (I := I) (P := mj_PP (2) d r) (I' := I) (P' := mj_PP (2) d r) (v := some (.int (bI (sp_has (I 2 0) q)))) rfl rfl rfl mj_mc7 mj_dc7 rfl rfl rfl rfl rfl rfl (x_hasStreet l b base D z N 2 (by decide) q I (2) d r) ?_
    refine R_seg (φ := []) (pc' := 8) (L' := [.ref 1, .int q, .int s, .int a, .int i, .int n, mj_mk]) (st' := [.int (bI (sp_has (I 2 0) q))]) (σ' := (mj_KS N, I, mj_PP (2) d r)) 0 rfl trivial ?_
    refine R_br (q := (bI (sp_has (I 2 0) q) : Int32) = 0) (t := 11) (f := 17) (rest := []) rfl (fun h1 => ?_) (fun h1 => ?_)
    · skip
      replace h1 := bI_0.mp h1
      refine R_seg (φ := []) (pc' := 13) (L' := [.ref 1, .int q, .int s, .int a, .int i, .int n, mj_mk]) (st' := [.int (-1), .ref 1]) (σ' := (mj_KS N, I, mj_PP (2) d r)) 2 rfl trivial ?_
      refine R_ce (idx := 79) (mid := 90) (kind := 0) (N := N) (M' := mj_m_X5_refuse) (As := [.ref 1, .int (-1)]) (rest := []) (I := I) (P := mj_PP (2) d r) (I' := (s_X5_refuse (-1) I).2) (P' := mj_PP (2) d r) (v := some (.int ((s_X5_refuse (-1) I).1))) rfl rfl rfl mj_mc90 mj_dc90 rfl rfl rfl rfl rfl rfl (x_X5_refuse l b base D z N (-1) I (2) d r) ?_
      refine R_seg (φ := []) (pc' := 16) (L' := [.ref 1, .int q, .int s, .int a, .int i, .int n, mj_mk]) (st' := [.int ((s_X5_refuse (-1) I).1)]) (σ' := (mj_KS N, (s_X5_refuse (-1) I).2, mj_PP (2) d r)) 0 rfl trivial ?_
      exact R_ri rfl rfl (mj_leaf (by simp only [s_X5_seasons, h1, Bool.false_eq_true, ↓reduceIte, Nat.reduceAdd, Nat.reduceMul, mj_tn0, mj_tn1, mj_tn2, mj_tn3]) (by simp only [s_X5_seasons, h1, Bool.false_eq_true, ↓reduceIte, Nat.reduceAdd, Nat.reduceMul, mj_tn0, mj_tn1, mj_tn2, mj_tn3]))
    · skip
      replace h1 := bI_1 h1
      refine R_seg (φ := []) (pc' := 24) (L' := [.ref 1, .int q, .int s, .int a, .int i, .int n, mj_mk]) (st' := [.int n, .int i, .int a, .int s, .ref 1]) (σ' := (mj_KS N, I, mj_PP (2) d r)) 5 rfl trivial ?_
      refine R_ce (idx := 209) (mid := 67) (kind := 0) (N := N) (M' := mj_m_X5_takeReadWay) (As := [.ref 1, .int s, .int a, .int i, .int n]) (rest := []) (I := I) (P := mj_PP (2) d r) (I' := (s_X5_takeReadWay (2) s a i n I).2) (P' := mj_PP (2) d r) (v := some (.int ((s_X5_takeReadWay (2) s a i n I).1))) rfl rfl rfl mj_mc67 mj_dc67 rfl rfl rfl rfl rfl rfl (x_X5_takeReadWay l b base D z N (2) s a i n (by decide) I d r hl) ?_
      refine R_seg (φ := []) (pc' := 31) (L' := [.ref 1, .int q, .int s, .int a, .int i, .int n, .int ((s_X5_takeReadWay (2) s a i n I).1)]) (st' := [.int ((s_X5_takeReadWay (2) s a i n I).1)]) (σ' := (mj_KS N, (s_X5_takeReadWay (2) s a i n I).2, mj_PP (2) d r)) 2 rfl trivial ?_
      refine R_br (q := ((s_X5_takeReadWay (2) s a i n I).1 : Int32) = 0) (t := 39) (f := 34) (rest := []) rfl (fun h2 => ?_) (fun h2 => ?_)
      · skip
        obtain ⟨m, hm, hn, hw⟩ := mj_trw_ok _ _ _ _ _ (by decide) I h6 h2
        subst hn
        · skip
          refine R_seg (φ := []) (pc' := 51) (L' := [.ref 1, .int q, .int s, .int a, .int i, .int ((nI m)), .int ((s_X5_takeReadWay (2) s a i (nI m) I).1)]) (st' := [.int ((nI m)), .int 4, .int q, .ref 3, .ref 1]) (σ' := (mj_KS N, (s_X5_takeReadWay (2) s a i (nI m) I).2, mj_PP (2) d r)) 7 rfl trivial ?_
          refine R_ce (idx := 212) (mid := 68) (kind := 0) (N := N) (M' := mj_m_X5_fitting) (As := [.ref 1, .ref 3, .int q, .int 4, .int ((nI m))]) (rest := []) (I := (s_X5_takeReadWay (2) s a i (nI m) I).2) (P := mj_PP (2) d r) (I' := (s_X5_fitting (2) 1 q m p R 4 ((s_X5_takeReadWay (2) s a i (nI m) I).2)).2) (P' := mj_PP (2) d r) (v := some (.int ((s_X5_fitting (2) 1 q m p R 4 ((s_X5_takeReadWay (2) s a i (nI m) I).2)).1))) rfl rfl rfl mj_mc68 mj_dc68 rfl rfl rfl rfl rfl rfl (x_X5_fitting l b base D z N (2) 1 q m p R 4 (by decide) (by decide) ((s_X5_takeReadWay (2) s a i (nI m) I).2) d r (by decide) (mj_hasin h1 h6) (mj_J_way (by decide) hJ (fun x y hx h1 => mj_trw_fr _ _ _ _ _ (by decide) I x y hx h1) hm hw)) ?_
          refine R_seg (φ := []) (pc' := 54) (L' := [.ref 1, .int q, .int s, .int a, .int i, .int ((nI m)), .int ((s_X5_takeReadWay (2) s a i (nI m) I).1)]) (st' := [.int ((s_X5_fitting (2) 1 q m p R 4 ((s_X5_takeReadWay (2) s a i (nI m) I).2)).1)]) (σ' := (mj_KS N, (s_X5_fitting (2) 1 q m p R 4 ((s_X5_takeReadWay (2) s a i (nI m) I).2)).2, mj_PP (2) d r)) 0 rfl trivial ?_
          exact R_ri rfl rfl (mj_leaf (by simp only [s_X5_seasons, mj_tnm (show m < 2147483648 by omega), h1, if_pos h2, Bool.false_eq_true, ↓reduceIte, Nat.reduceAdd, Nat.reduceMul, mj_tn0, mj_tn1, mj_tn2, mj_tn3]) (by simp only [s_X5_seasons, mj_tnm (show m < 2147483648 by omega), h1, if_pos h2, Bool.false_eq_true, ↓reduceIte, Nat.reduceAdd, Nat.reduceMul, mj_tn0, mj_tn1, mj_tn2, mj_tn3]))
      · skip
        refine R_seg (φ := []) (pc' := 54) (L' := [.ref 1, .int q, .int s, .int a, .int i, .int n, .int ((s_X5_takeReadWay (2) s a i n I).1)]) (st' := [.int ((s_X5_takeReadWay (2) s a i n I).1)]) (σ' := (mj_KS N, (s_X5_takeReadWay (2) s a i n I).2, mj_PP (2) d r)) 2 rfl trivial ?_
        exact R_ri rfl rfl (mj_leaf (by simp only [s_X5_seasons, h1, if_neg h2, Bool.false_eq_true, ↓reduceIte, Nat.reduceAdd, Nat.reduceMul, mj_tn0, mj_tn1, mj_tn2, mj_tn3]) (by simp only [s_X5_seasons, h1, if_neg h2, Bool.false_eq_true, ↓reduceIte, Nat.reduceAdd, Nat.reduceMul, mj_tn0, mj_tn1, mj_tn2, mj_tn3]))
  · skip
    refine R_seg (φ := []) (pc' := 5) (L' := [.ref 1, .int q, .int s, .int a, .int i, .int n, mj_mk]) (st' := [.int q, .ref 10]) (σ' := (mj_KS N, I, mj_PP (10) d r)) 3 rfl trivial ?_
    refine R_ce (idx := 110) (mid := 7) (kind := 3) (N := N) (M' := mj_m_X1_hasStreet) (As := [.ref 10, .int q]) (rest := []) (I := I) (P := mj_PP (10) d r) (I' := I) (P' := mj_PP (10) d r) (v := some (.int (bI (sp_has (I 10 0) q)))) rfl rfl rfl mj_mc7 mj_dc7 rfl rfl rfl rfl rfl rfl (x_hasStreet l b base D z N 10 (by decide) q I (10) d r) ?_
    refine R_seg (φ := []) (pc' := 8) (L' := [.ref 1, .int q, .int s, .int a, .int i, .int n, mj_mk]) (st' := [.int (bI (sp_has (I 10 0) q))]) (σ' := (mj_KS N, I, mj_PP (10) d r)) 0 rfl trivial ?_
    refine R_br (q := (bI (sp_has (I 10 0) q) : Int32) = 0) (t := 11) (f := 17) (rest := []) rfl (fun h1 => ?_) (fun h1 => ?_)
    · skip
      replace h1 := bI_0.mp h1
      refine R_seg (φ := []) (pc' := 13) (L' := [.ref 1, .int q, .int s, .int a, .int i, .int n, mj_mk]) (st' := [.int (-1), .ref 1]) (σ' := (mj_KS N, I, mj_PP (10) d r)) 2 rfl trivial ?_
      refine R_ce (idx := 79) (mid := 90) (kind := 0) (N := N) (M' := mj_m_X5_refuse) (As := [.ref 1, .int (-1)]) (rest := []) (I := I) (P := mj_PP (10) d r) (I' := (s_X5_refuse (-1) I).2) (P' := mj_PP (10) d r) (v := some (.int ((s_X5_refuse (-1) I).1))) rfl rfl rfl mj_mc90 mj_dc90 rfl rfl rfl rfl rfl rfl (x_X5_refuse l b base D z N (-1) I (10) d r) ?_
      refine R_seg (φ := []) (pc' := 16) (L' := [.ref 1, .int q, .int s, .int a, .int i, .int n, mj_mk]) (st' := [.int ((s_X5_refuse (-1) I).1)]) (σ' := (mj_KS N, (s_X5_refuse (-1) I).2, mj_PP (10) d r)) 0 rfl trivial ?_
      exact R_ri rfl rfl (mj_leaf (by simp only [s_X5_seasons, h1, Bool.false_eq_true, ↓reduceIte, Nat.reduceAdd, Nat.reduceMul, mj_tn0, mj_tn1, mj_tn2, mj_tn3]) (by simp only [s_X5_seasons, h1, Bool.false_eq_true, ↓reduceIte, Nat.reduceAdd, Nat.reduceMul, mj_tn0, mj_tn1, mj_tn2, mj_tn3]))
    · skip
      replace h1 := bI_1 h1
      refine R_seg (φ := []) (pc' := 24) (L' := [.ref 1, .int q, .int s, .int a, .int i, .int n, mj_mk]) (st' := [.int n, .int i, .int a, .int s, .ref 1]) (σ' := (mj_KS N, I, mj_PP (10) d r)) 5 rfl trivial ?_
      refine R_ce (idx := 209) (mid := 67) (kind := 0) (N := N) (M' := mj_m_X5_takeReadWay) (As := [.ref 1, .int s, .int a, .int i, .int n]) (rest := []) (I := I) (P := mj_PP (10) d r) (I' := (s_X5_takeReadWay (10) s a i n I).2) (P' := mj_PP (10) d r) (v := some (.int ((s_X5_takeReadWay (10) s a i n I).1))) rfl rfl rfl mj_mc67 mj_dc67 rfl rfl rfl rfl rfl rfl (x_X5_takeReadWay l b base D z N (10) s a i n (by decide) I d r hl) ?_
      refine R_seg (φ := []) (pc' := 31) (L' := [.ref 1, .int q, .int s, .int a, .int i, .int n, .int ((s_X5_takeReadWay (10) s a i n I).1)]) (st' := [.int ((s_X5_takeReadWay (10) s a i n I).1)]) (σ' := (mj_KS N, (s_X5_takeReadWay (10) s a i n I).2, mj_PP (10) d r)) 2 rfl trivial ?_
      refine R_br (q := ((s_X5_takeReadWay (10) s a i n I).1 : Int32) = 0) (t := 39) (f := 34) (rest := []) rfl (fun h2 => ?_) (fun h2 => ?_)
      · skip
        obtain ⟨m, hm, hn, hw⟩ := mj_trw_ok _ _ _ _ _ (by decide) I h6 h2
        subst hn
        · skip
          refine R_seg (φ := []) (pc' := 51) (L' := [.ref 1, .int q, .int s, .int a, .int i, .int ((nI m)), .int ((s_X5_takeReadWay (10) s a i (nI m) I).1)]) (st' := [.int ((nI m)), .int 4, .int q, .ref 11, .ref 1]) (σ' := (mj_KS N, (s_X5_takeReadWay (10) s a i (nI m) I).2, mj_PP (10) d r)) 7 rfl trivial ?_
          refine R_ce (idx := 212) (mid := 68) (kind := 0) (N := N) (M' := mj_m_X5_fitting) (As := [.ref 1, .ref 11, .int q, .int 4, .int ((nI m))]) (rest := []) (I := (s_X5_takeReadWay (10) s a i (nI m) I).2) (P := mj_PP (10) d r) (I' := (s_X5_fitting (10) 1 q m p R 4 ((s_X5_takeReadWay (10) s a i (nI m) I).2)).2) (P' := mj_PP (10) d r) (v := some (.int ((s_X5_fitting (10) 1 q m p R 4 ((s_X5_takeReadWay (10) s a i (nI m) I).2)).1))) rfl rfl rfl mj_mc68 mj_dc68 rfl rfl rfl rfl rfl rfl (x_X5_fitting l b base D z N (10) 1 q m p R 4 (by decide) (by decide) ((s_X5_takeReadWay (10) s a i (nI m) I).2) d r (by decide) (mj_hasin h1 h6) (mj_J_way (by decide) hJ (fun x y hx h1 => mj_trw_fr _ _ _ _ _ (by decide) I x y hx h1) hm hw)) ?_
          refine R_seg (φ := []) (pc' := 54) (L' := [.ref 1, .int q, .int s, .int a, .int i, .int ((nI m)), .int ((s_X5_takeReadWay (10) s a i (nI m) I).1)]) (st' := [.int ((s_X5_fitting (10) 1 q m p R 4 ((s_X5_takeReadWay (10) s a i (nI m) I).2)).1)]) (σ' := (mj_KS N, (s_X5_fitting (10) 1 q m p R 4 ((s_X5_takeReadWay (10) s a i (nI m) I).2)).2, mj_PP (10) d r)) 0 rfl trivial ?_
          exact R_ri rfl rfl (mj_leaf (by simp only [s_X5_seasons, mj_tnm (show m < 2147483648 by omega), h1, if_pos h2, Bool.false_eq_true, ↓reduceIte, Nat.reduceAdd, Nat.reduceMul, mj_tn0, mj_tn1, mj_tn2, mj_tn3]) (by simp only [s_X5_seasons, mj_tnm (show m < 2147483648 by omega), h1, if_pos h2, Bool.false_eq_true, ↓reduceIte, Nat.reduceAdd, Nat.reduceMul, mj_tn0, mj_tn1, mj_tn2, mj_tn3]))
      · skip
        refine R_seg (φ := []) (pc' := 54) (L' := [.ref 1, .int q, .int s, .int a, .int i, .int n, .int ((s_X5_takeReadWay (10) s a i n I).1)]) (st' := [.int ((s_X5_takeReadWay (10) s a i n I).1)]) (σ' := (mj_KS N, (s_X5_takeReadWay (10) s a i n I).2, mj_PP (10) d r)) 2 rfl trivial ?_
        exact R_ri rfl rfl (mj_leaf (by simp only [s_X5_seasons, h1, if_neg h2, Bool.false_eq_true, ↓reduceIte, Nat.reduceAdd, Nat.reduceMul, mj_tn0, mj_tn1, mj_tn2, mj_tn3]) (by simp only [s_X5_seasons, h1, if_neg h2, Bool.false_eq_true, ↓reduceIte, Nat.reduceAdd, Nat.reduceMul, mj_tn0, mj_tn1, mj_tn2, mj_tn3]))
def s_X5_kinds (cc : Nat) (p : Nat) (R : Nat) (q : Int32) (s : Int32) (a : Int32) (i : Int32) (n : Int32) (I : mj_I) : Int32 × mj_I := if sp_has (I cc 1) q then (if ((s_X5_takeReadWay (cc) s a i n I).1 : Int32) = 0 then ((s_X5_fitting (cc) 3 q n.toNatClampNeg p R 3 ((s_X5_takeReadWay (cc) s a i n I).2)).1, (s_X5_fitting (cc) 3 q n.toNatClampNeg p R 3 ((s_X5_takeReadWay (cc) s a i n I).2)).2) else ((s_X5_takeReadWay (cc) s a i n I).1, (s_X5_takeReadWay (cc) s a i n I).2)) else ((s_X5_refuse (-1) I).1, (s_X5_refuse (-1) I).2)
set_option maxHeartbeats 8000000 in
theorem x_X5_kinds (l : Launch) (b base : Nat) (D : va_G) (z : mj_K × (Int32 → Int32)) (N : Nat) (cc : Nat) (p : Nat) (R : Nat) (q : Int32) (s : Int32) (a : Int32) (i : Int32) (n : Int32) (hcc : cc = 2 ∨ cc = 10) (I : mj_I) (d r : Nat) (hl : ∀ j : Nat, j < 4 → 0 ≤ (I (34 + 2 * j) 2).toInt ∧ (I (34 + 2 * j) 2).toInt ≤ 60) (h6 : (I cc 0).toInt ≤ 6) (hp : (I cc 1).toInt ≤ 3) (hJ : mj_J cc 0 p R I) : mj_Rn l b base D z mj_m_X5_kinds 0 [.ref 1, .int q, .int s, .int a, .int i, .int n, mj_mk] [] (mj_KS N, I, mj_PP cc d r) (mj_E N (some (.int (s_X5_kinds cc p R q s a i n I).1)) (s_X5_kinds cc p R q s a i n I).2 (mj_PP cc d r)) := by
  rcases hcc with rfl | rfl
  · skip
    refine R_seg (φ := []) (pc' := 5) (L' := [.ref 1, .int q, .int s, .int a, .int i, .int n, mj_mk]) (st' := [.int q, .ref 2]) (σ' := (mj_KS N, I, mj_PP (2) d r)) 3 rfl trivial ?_
    refine R_ce (idx := 119) (mid := 8) (kind := 3) (N := N) (M' := mj_m_X1_hasPlant) (As := [.ref 2, .int q]) (rest := []) (I := I) (P := mj_PP (2) d r) (I' := I) (P' := mj_PP (2) d r) (v := some (.int (bI (sp_has (I 2 1) q)))) rfl rfl rfl mj_mc8 mj_dc8 rfl rfl rfl rfl rfl rfl (x_hasPlant l b base D z N 2 (by decide) q I (2) d r) ?_
    refine R_seg (φ := []) (pc' := 8) (L' := [.ref 1, .int q, .int s, .int a, .int i, .int n, mj_mk]) (st' := [.int (bI (sp_has (I 2 1) q))]) (σ' := (mj_KS N, I, mj_PP (2) d r)) 0 rfl trivial ?_
    refine R_br (q := (bI (sp_has (I 2 1) q) : Int32) = 0) (t := 11) (f := 17) (rest := []) rfl (fun h1 => ?_) (fun h1 => ?_)
    · skip
      replace h1 := bI_0.mp h1
      refine R_seg (φ := []) (pc' := 13) (L' := [.ref 1, .int q, .int s, .int a, .int i, .int n, mj_mk]) (st' := [.int (-1), .ref 1]) (σ' := (mj_KS N, I, mj_PP (2) d r)) 2 rfl trivial ?_
      refine R_ce (idx := 79) (mid := 90) (kind := 0) (N := N) (M' := mj_m_X5_refuse) (As := [.ref 1, .int (-1)]) (rest := []) (I := I) (P := mj_PP (2) d r) (I' := (s_X5_refuse (-1) I).2) (P' := mj_PP (2) d r) (v := some (.int ((s_X5_refuse (-1) I).1))) rfl rfl rfl mj_mc90 mj_dc90 rfl rfl rfl rfl rfl rfl (x_X5_refuse l b base D z N (-1) I (2) d r) ?_
      refine R_seg (φ := []) (pc' := 16) (L' := [.ref 1, .int q, .int s, .int a, .int i, .int n, mj_mk]) (st' := [.int ((s_X5_refuse (-1) I).1)]) (σ' := (mj_KS N, (s_X5_refuse (-1) I).2, mj_PP (2) d r)) 0 rfl trivial ?_
      exact R_ri rfl rfl (mj_leaf (by simp only [s_X5_kinds, h1, Bool.false_eq_true, ↓reduceIte, Nat.reduceAdd, Nat.reduceMul, mj_tn0, mj_tn1, mj_tn2, mj_tn3]) (by simp only [s_X5_kinds, h1, Bool.false_eq_true, ↓reduceIte, Nat.reduceAdd, Nat.reduceMul, mj_tn0, mj_tn1, mj_tn2, mj_tn3]))
    · skip
      replace h1 := bI_1 h1
      refine R_seg (φ := []) (pc' := 24) (L' := [.ref 1, .int q, .int s, .int a, .int i, .int n, mj_mk]) (st' := [.int n, .int i, .int a, .int s, .ref 1]) (σ' := (mj_KS N, I, mj_PP (2) d r)) 5 rfl trivial ?_
      refine R_ce (idx := 209) (mid := 67) (kind := 0) (N := N) (M' := mj_m_X5_takeReadWay) (As := [.ref 1, .int s, .int a, .int i, .int n]) (rest := []) (I := I) (P := mj_PP (2) d r) (I' := (s_X5_takeReadWay (2) s a i n I).2) (P' := mj_PP (2) d r) (v := some (.int ((s_X5_takeReadWay (2) s a i n I).1))) rfl rfl rfl mj_mc67 mj_dc67 rfl rfl rfl rfl rfl rfl (x_X5_takeReadWay l b base D z N (2) s a i n (by decide) I d r hl) ?_
      refine R_seg (φ := []) (pc' := 31) (L' := [.ref 1, .int q, .int s, .int a, .int i, .int n, .int ((s_X5_takeReadWay (2) s a i n I).1)]) (st' := [.int ((s_X5_takeReadWay (2) s a i n I).1)]) (σ' := (mj_KS N, (s_X5_takeReadWay (2) s a i n I).2, mj_PP (2) d r)) 2 rfl trivial ?_
      refine R_br (q := ((s_X5_takeReadWay (2) s a i n I).1 : Int32) = 0) (t := 39) (f := 34) (rest := []) rfl (fun h2 => ?_) (fun h2 => ?_)
      · skip
        obtain ⟨m, hm, hn, hw⟩ := mj_trw_ok _ _ _ _ _ (by decide) I h6 h2
        subst hn
        · skip
          refine R_seg (φ := []) (pc' := 51) (L' := [.ref 1, .int q, .int s, .int a, .int i, .int ((nI m)), .int ((s_X5_takeReadWay (2) s a i (nI m) I).1)]) (st' := [.int ((nI m)), .int 3, .int q, .ref 5, .ref 1]) (σ' := (mj_KS N, (s_X5_takeReadWay (2) s a i (nI m) I).2, mj_PP (2) d r)) 7 rfl trivial ?_
          refine R_ce (idx := 212) (mid := 68) (kind := 0) (N := N) (M' := mj_m_X5_fitting) (As := [.ref 1, .ref 5, .int q, .int 3, .int ((nI m))]) (rest := []) (I := (s_X5_takeReadWay (2) s a i (nI m) I).2) (P := mj_PP (2) d r) (I' := (s_X5_fitting (2) 3 q m p R 3 ((s_X5_takeReadWay (2) s a i (nI m) I).2)).2) (P' := mj_PP (2) d r) (v := some (.int ((s_X5_fitting (2) 3 q m p R 3 ((s_X5_takeReadWay (2) s a i (nI m) I).2)).1))) rfl rfl rfl mj_mc68 mj_dc68 rfl rfl rfl rfl rfl rfl (x_X5_fitting l b base D z N (2) 3 q m p R 3 (by decide) (by decide) ((s_X5_takeReadWay (2) s a i (nI m) I).2) d r (by decide) (mj_hasin h1 hp) (mj_J_way (by decide) hJ (fun x y hx h1 => mj_trw_fr _ _ _ _ _ (by decide) I x y hx h1) hm hw)) ?_
          refine R_seg (φ := []) (pc' := 54) (L' := [.ref 1, .int q, .int s, .int a, .int i, .int ((nI m)), .int ((s_X5_takeReadWay (2) s a i (nI m) I).1)]) (st' := [.int ((s_X5_fitting (2) 3 q m p R 3 ((s_X5_takeReadWay (2) s a i (nI m) I).2)).1)]) (σ' := (mj_KS N, (s_X5_fitting (2) 3 q m p R 3 ((s_X5_takeReadWay (2) s a i (nI m) I).2)).2, mj_PP (2) d r)) 0 rfl trivial ?_
          exact R_ri rfl rfl (mj_leaf (by simp only [s_X5_kinds, mj_tnm (show m < 2147483648 by omega), h1, if_pos h2, Bool.false_eq_true, ↓reduceIte, Nat.reduceAdd, Nat.reduceMul, mj_tn0, mj_tn1, mj_tn2, mj_tn3]) (by simp only [s_X5_kinds, mj_tnm (show m < 2147483648 by omega), h1, if_pos h2, Bool.false_eq_true, ↓reduceIte, Nat.reduceAdd, Nat.reduceMul, mj_tn0, mj_tn1, mj_tn2, mj_tn3]))
      · skip
        refine R_seg (φ := []) (pc' := 54) (L' := [.ref 1, .int q, .int s, .int a, .int i, .int n, .int ((s_X5_takeReadWay (2) s a i n I).1)]) (st' := [.int ((s_X5_takeReadWay (2) s a i n I).1)]) (σ' := (mj_KS N, (s_X5_takeReadWay (2) s a i n I).2, mj_PP (2) d r)) 2 rfl trivial ?_
        exact R_ri rfl rfl (mj_leaf (by simp only [s_X5_kinds, h1, if_neg h2, Bool.false_eq_true, ↓reduceIte, Nat.reduceAdd, Nat.reduceMul, mj_tn0, mj_tn1, mj_tn2, mj_tn3]) (by simp only [s_X5_kinds, h1, if_neg h2, Bool.false_eq_true, ↓reduceIte, Nat.reduceAdd, Nat.reduceMul, mj_tn0, mj_tn1, mj_tn2, mj_tn3]))
  · skip
    refine R_seg (φ := []) (pc' := 5) (L' := [.ref 1, .int q, .int s, .int a, .int i, .int n, mj_mk]) (st' := [.int q, .ref 10]) (σ' := (mj_KS N, I, mj_PP (10) d r)) 3 rfl trivial ?_
    refine R_ce (idx := 119) (mid := 8) (kind := 3) (N := N) (M' := mj_m_X1_hasPlant) (As := [.ref 10, .int q]) (rest := []) (I := I) (P := mj_PP (10) d r) (I' := I) (P' := mj_PP (10) d r) (v := some (.int (bI (sp_has (I 10 1) q)))) rfl rfl rfl mj_mc8 mj_dc8 rfl rfl rfl rfl rfl rfl (x_hasPlant l b base D z N 10 (by decide) q I (10) d r) ?_
    refine R_seg (φ := []) (pc' := 8) (L' := [.ref 1, .int q, .int s, .int a, .int i, .int n, mj_mk]) (st' := [.int (bI (sp_has (I 10 1) q))]) (σ' := (mj_KS N, I, mj_PP (10) d r)) 0 rfl trivial ?_
    refine R_br (q := (bI (sp_has (I 10 1) q) : Int32) = 0) (t := 11) (f := 17) (rest := []) rfl (fun h1 => ?_) (fun h1 => ?_)
    · skip
      replace h1 := bI_0.mp h1
      refine R_seg (φ := []) (pc' := 13) (L' := [.ref 1, .int q, .int s, .int a, .int i, .int n, mj_mk]) (st' := [.int (-1), .ref 1]) (σ' := (mj_KS N, I, mj_PP (10) d r)) 2 rfl trivial ?_
      refine R_ce (idx := 79) (mid := 90) (kind := 0) (N := N) (M' := mj_m_X5_refuse) (As := [.ref 1, .int (-1)]) (rest := []) (I := I) (P := mj_PP (10) d r) (I' := (s_X5_refuse (-1) I).2) (P' := mj_PP (10) d r) (v := some (.int ((s_X5_refuse (-1) I).1))) rfl rfl rfl mj_mc90 mj_dc90 rfl rfl rfl rfl rfl rfl (x_X5_refuse l b base D z N (-1) I (10) d r) ?_
      refine R_seg (φ := []) (pc' := 16) (L' := [.ref 1, .int q, .int s, .int a, .int i, .int n, mj_mk]) (st' := [.int ((s_X5_refuse (-1) I).1)]) (σ' := (mj_KS N, (s_X5_refuse (-1) I).2, mj_PP (10) d r)) 0 rfl trivial ?_
      exact R_ri rfl rfl (mj_leaf (by simp only [s_X5_kinds, h1, Bool.false_eq_true, ↓reduceIte, Nat.reduceAdd, Nat.reduceMul, mj_tn0, mj_tn1, mj_tn2, mj_tn3]) (by simp only [s_X5_kinds, h1, Bool.false_eq_true, ↓reduceIte, Nat.reduceAdd, Nat.reduceMul, mj_tn0, mj_tn1, mj_tn2, mj_tn3]))
    · skip
      replace h1 := bI_1 h1
      refine R_seg (φ := []) (pc' := 24) (L' := [.ref 1, .int q, .int s, .int a, .int i, .int n, mj_mk]) (st' := [.int n, .int i, .int a, .int s, .ref 1]) (σ' := (mj_KS N, I, mj_PP (10) d r)) 5 rfl trivial ?_
      refine R_ce (idx := 209) (mid := 67) (kind := 0) (N := N) (M' := mj_m_X5_takeReadWay) (As := [.ref 1, .int s, .int a, .int i, .int n]) (rest := []) (I := I) (P := mj_PP (10) d r) (I' := (s_X5_takeReadWay (10) s a i n I).2) (P' := mj_PP (10) d r) (v := some (.int ((s_X5_takeReadWay (10) s a i n I).1))) rfl rfl rfl mj_mc67 mj_dc67 rfl rfl rfl rfl rfl rfl (x_X5_takeReadWay l b base D z N (10) s a i n (by decide) I d r hl) ?_
      refine R_seg (φ := []) (pc' := 31) (L' := [.ref 1, .int q, .int s, .int a, .int i, .int n, .int ((s_X5_takeReadWay (10) s a i n I).1)]) (st' := [.int ((s_X5_takeReadWay (10) s a i n I).1)]) (σ' := (mj_KS N, (s_X5_takeReadWay (10) s a i n I).2, mj_PP (10) d r)) 2 rfl trivial ?_
      refine R_br (q := ((s_X5_takeReadWay (10) s a i n I).1 : Int32) = 0) (t := 39) (f := 34) (rest := []) rfl (fun h2 => ?_) (fun h2 => ?_)
      · skip
        obtain ⟨m, hm, hn, hw⟩ := mj_trw_ok _ _ _ _ _ (by decide) I h6 h2
        subst hn
        · skip
          refine R_seg (φ := []) (pc' := 51) (L' := [.ref 1, .int q, .int s, .int a, .int i, .int ((nI m)), .int ((s_X5_takeReadWay (10) s a i (nI m) I).1)]) (st' := [.int ((nI m)), .int 3, .int q, .ref 13, .ref 1]) (σ' := (mj_KS N, (s_X5_takeReadWay (10) s a i (nI m) I).2, mj_PP (10) d r)) 7 rfl trivial ?_
          refine R_ce (idx := 212) (mid := 68) (kind := 0) (N := N) (M' := mj_m_X5_fitting) (As := [.ref 1, .ref 13, .int q, .int 3, .int ((nI m))]) (rest := []) (I := (s_X5_takeReadWay (10) s a i (nI m) I).2) (P := mj_PP (10) d r) (I' := (s_X5_fitting (10) 3 q m p R 3 ((s_X5_takeReadWay (10) s a i (nI m) I).2)).2) (P' := mj_PP (10) d r) (v := some (.int ((s_X5_fitting (10) 3 q m p R 3 ((s_X5_takeReadWay (10) s a i (nI m) I).2)).1))) rfl rfl rfl mj_mc68 mj_dc68 rfl rfl rfl rfl rfl rfl (x_X5_fitting l b base D z N (10) 3 q m p R 3 (by decide) (by decide) ((s_X5_takeReadWay (10) s a i (nI m) I).2) d r (by decide) (mj_hasin h1 hp) (mj_J_way (by decide) hJ (fun x y hx h1 => mj_trw_fr _ _ _ _ _ (by decide) I x y hx h1) hm hw)) ?_
          refine R_seg (φ := []) (pc' := 54) (L' := [.ref 1, .int q, .int s, .int a, .int i, .int ((nI m)), .int ((s_X5_takeReadWay (10) s a i (nI m) I).1)]) (st' := [.int ((s_X5_fitting (10) 3 q m p R 3 ((s_X5_takeReadWay (10) s a i (nI m) I).2)).1)]) (σ' := (mj_KS N, (s_X5_fitting (10) 3 q m p R 3 ((s_X5_takeReadWay (10) s a i (nI m) I).2)).2, mj_PP (10) d r)) 0 rfl trivial ?_
          exact R_ri rfl rfl (mj_leaf (by simp only [s_X5_kinds, mj_tnm (show m < 2147483648 by omega), h1, if_pos h2, Bool.false_eq_true, ↓reduceIte, Nat.reduceAdd, Nat.reduceMul, mj_tn0, mj_tn1, mj_tn2, mj_tn3]) (by simp only [s_X5_kinds, mj_tnm (show m < 2147483648 by omega), h1, if_pos h2, Bool.false_eq_true, ↓reduceIte, Nat.reduceAdd, Nat.reduceMul, mj_tn0, mj_tn1, mj_tn2, mj_tn3]))
      · skip
        refine R_seg (φ := []) (pc' := 54) (L' := [.ref 1, .int q, .int s, .int a, .int i, .int n, .int ((s_X5_takeReadWay (10) s a i n I).1)]) (st' := [.int ((s_X5_takeReadWay (10) s a i n I).1)]) (σ' := (mj_KS N, (s_X5_takeReadWay (10) s a i n I).2, mj_PP (10) d r)) 2 rfl trivial ?_
        exact R_ri rfl rfl (mj_leaf (by simp only [s_X5_kinds, h1, if_neg h2, Bool.false_eq_true, ↓reduceIte, Nat.reduceAdd, Nat.reduceMul, mj_tn0, mj_tn1, mj_tn2, mj_tn3]) (by simp only [s_X5_kinds, h1, if_neg h2, Bool.false_eq_true, ↓reduceIte, Nat.reduceAdd, Nat.reduceMul, mj_tn0, mj_tn1, mj_tn2, mj_tn3]))
theorem mj_t3 {t : Int32} (h1 : ¬ t < 0) (h2 : t < 3) : mj_in t 3 := by
  have a1 := mj_i0 h1
  have a2 := mj_iL h2
  exact (show 0 ≤ t.toInt ∧ t.toInt < ((3 : Nat) : Int) from ⟨a1, a2⟩)
def s_X5_wishes (cc : Nat) (p : Nat) (R : Nat) (q : Int32) (t : Int32) (s : Int32) (a : Int32) (i : Int32) (n : Int32) (I : mj_I) : Int32 × mj_I := if sp_has (I cc 1) q then (if ((s_X5_isSheet s I) : Int32) = 0 then ((s_X5_refuse (-1) I).1, (s_X5_refuse (-1) I).2) else (if (t : Int32) < 0 then ((s_X5_refuse (-2) I).1, (s_X5_refuse (-2) I).2) else (if (t : Int32) < 3 then (if ((s_X5_takeReadWay (cc) s a i n I).1 : Int32) = 0 then ((s_X5_fitting (cc) (5 + q.toNatClampNeg) t n.toNatClampNeg p R 4 ((s_X5_takeReadWay (cc) s a i n I).2)).1, (s_X5_fitting (cc) (5 + q.toNatClampNeg) t n.toNatClampNeg p R 4 ((s_X5_takeReadWay (cc) s a i n I).2)).2) else ((s_X5_takeReadWay (cc) s a i n I).1, (s_X5_takeReadWay (cc) s a i n I).2)) else ((s_X5_refuse (-2) I).1, (s_X5_refuse (-2) I).2)))) else ((s_X5_refuse (-1) I).1, (s_X5_refuse (-1) I).2)
set_option maxHeartbeats 8000000 in
theorem x_X5_wishes (l : Launch) (b base : Nat) (D : va_G) (z : mj_K × (Int32 → Int32)) (N : Nat) (cc : Nat) (p : Nat) (R : Nat) (q : Int32) (t : Int32) (s : Int32) (a : Int32) (i : Int32) (n : Int32) (hcc : cc = 2 ∨ cc = 10) (I : mj_I) (d r : Nat) (hl : ∀ j : Nat, j < 4 → 0 ≤ (I (34 + 2 * j) 2).toInt ∧ (I (34 + 2 * j) 2).toInt ≤ 60) (h6 : (I cc 0).toInt ≤ 6) (hp : (I cc 1).toInt ≤ 3) (hJ : mj_J cc 0 p R I) : mj_Rn l b base D z mj_m_X5_wishes 0 [.ref 1, .int q, .int t, .int s, .int a, .int i, .int n, mj_mk] [] (mj_KS N, I, mj_PP cc d r) (mj_E N (some (.int (s_X5_wishes cc p R q t s a i n I).1)) (s_X5_wishes cc p R q t s a i n I).2 (mj_PP cc d r)) := by
  rcases hcc with rfl | rfl
  · skip
    refine R_seg (φ := []) (pc' := 5) (L' := [.ref 1, .int q, .int t, .int s, .int a, .int i, .int n, mj_mk]) (st' := [.int q, .ref 2]) (σ' := (mj_KS N, I, mj_PP (2) d r)) 3 rfl trivial ?_
    refine R_ce (idx := 119) (mid := 8) (kind := 3) (N := N) (M' := mj_m_X1_hasPlant) (As := [.ref 2, .int q]) (rest := []) (I := I) (P := mj_PP (2) d r) (I' := I) (P' := mj_PP (2) d r) (v := some (.int (bI (sp_has (I 2 1) q)))) rfl rfl rfl mj_mc8 mj_dc8 rfl rfl rfl rfl rfl rfl (x_hasPlant l b base D z N 2 (by decide) q I (2) d r) ?_
    refine R_seg (φ := []) (pc' := 8) (L' := [.ref 1, .int q, .int t, .int s, .int a, .int i, .int n, mj_mk]) (st' := [.int (bI (sp_has (I 2 1) q))]) (σ' := (mj_KS N, I, mj_PP (2) d r)) 0 rfl trivial ?_
    refine R_br (q := (bI (sp_has (I 2 1) q) : Int32) = 0) (t := 18) (f := 11) (rest := []) rfl (fun h1 => ?_) (fun h1 => ?_)
    · skip
      replace h1 := bI_0.mp h1
      refine R_seg (φ := []) (pc' := 20) (L' := [.ref 1, .int q, .int t, .int s, .int a, .int i, .int n, mj_mk]) (st' := [.int (-1), .ref 1]) (σ' := (mj_KS N, I, mj_PP (2) d r)) 2 rfl trivial ?_
      refine R_ce (idx := 79) (mid := 90) (kind := 0) (N := N) (M' := mj_m_X5_refuse) (As := [.ref 1, .int (-1)]) (rest := []) (I := I) (P := mj_PP (2) d r) (I' := (s_X5_refuse (-1) I).2) (P' := mj_PP (2) d r) (v := some (.int ((s_X5_refuse (-1) I).1))) rfl rfl rfl mj_mc90 mj_dc90 rfl rfl rfl rfl rfl rfl (x_X5_refuse l b base D z N (-1) I (2) d r) ?_
      refine R_seg (φ := []) (pc' := 23) (L' := [.ref 1, .int q, .int t, .int s, .int a, .int i, .int n, mj_mk]) (st' := [.int ((s_X5_refuse (-1) I).1)]) (σ' := (mj_KS N, (s_X5_refuse (-1) I).2, mj_PP (2) d r)) 0 rfl trivial ?_
      exact R_ri rfl rfl (mj_leaf (by simp only [s_X5_wishes, h1, Bool.false_eq_true, ↓reduceIte, Nat.reduceAdd, Nat.reduceMul, mj_tn0, mj_tn1, mj_tn2, mj_tn3]) (by simp only [s_X5_wishes, h1, Bool.false_eq_true, ↓reduceIte, Nat.reduceAdd, Nat.reduceMul, mj_tn0, mj_tn1, mj_tn2, mj_tn3]))
    · skip
      replace h1 := bI_1 h1
      refine R_seg (φ := []) (pc' := 12) (L' := [.ref 1, .int q, .int t, .int s, .int a, .int i, .int n, mj_mk]) (st' := [.int s]) (σ' := (mj_KS N, I, mj_PP (2) d r)) 1 rfl trivial ?_
      refine R_ce (idx := 75) (mid := 88) (kind := 1) (N := N) (M' := mj_m_X5_isSheet) (As := [.int s]) (rest := []) (I := I) (P := mj_PP (2) d r) (I' := I) (P' := mj_PP (2) d r) (v := some (.int (s_X5_isSheet s I))) rfl rfl rfl mj_mc88 mj_dc88 rfl rfl rfl rfl rfl rfl (x_X5_isSheet l b base D z N s I (2) d r) ?_
      refine R_seg (φ := []) (pc' := 15) (L' := [.ref 1, .int q, .int t, .int s, .int a, .int i, .int n, mj_mk]) (st' := [.int (s_X5_isSheet s I)]) (σ' := (mj_KS N, I, mj_PP (2) d r)) 0 rfl trivial ?_
      refine R_br (q := ((s_X5_isSheet s I) : Int32) = 0) (t := 18) (f := 24) (rest := []) rfl (fun h2 => ?_) (fun h2 => ?_)
      · skip
        refine R_seg (φ := []) (pc' := 20) (L' := [.ref 1, .int q, .int t, .int s, .int a, .int i, .int n, mj_mk]) (st' := [.int (-1), .ref 1]) (σ' := (mj_KS N, I, mj_PP (2) d r)) 2 rfl trivial ?_
        refine R_ce (idx := 79) (mid := 90) (kind := 0) (N := N) (M' := mj_m_X5_refuse) (As := [.ref 1, .int (-1)]) (rest := []) (I := I) (P := mj_PP (2) d r) (I' := (s_X5_refuse (-1) I).2) (P' := mj_PP (2) d r) (v := some (.int ((s_X5_refuse (-1) I).1))) rfl rfl rfl mj_mc90 mj_dc90 rfl rfl rfl rfl rfl rfl (x_X5_refuse l b base D z N (-1) I (2) d r) ?_
        refine R_seg (φ := []) (pc' := 23) (L' := [.ref 1, .int q, .int t, .int s, .int a, .int i, .int n, mj_mk]) (st' := [.int ((s_X5_refuse (-1) I).1)]) (σ' := (mj_KS N, (s_X5_refuse (-1) I).2, mj_PP (2) d r)) 0 rfl trivial ?_
        exact R_ri rfl rfl (mj_leaf (by simp only [s_X5_wishes, h1, if_pos h2, Bool.false_eq_true, ↓reduceIte, Nat.reduceAdd, Nat.reduceMul, mj_tn0, mj_tn1, mj_tn2, mj_tn3]) (by simp only [s_X5_wishes, h1, if_pos h2, Bool.false_eq_true, ↓reduceIte, Nat.reduceAdd, Nat.reduceMul, mj_tn0, mj_tn1, mj_tn2, mj_tn3]))
      · skip
        refine R_seg (φ := []) (pc' := 25) (L' := [.ref 1, .int q, .int t, .int s, .int a, .int i, .int n, mj_mk]) (st' := [.int t]) (σ' := (mj_KS N, I, mj_PP (2) d r)) 1 rfl trivial ?_
        refine R_br (q := (t : Int32) < 0) (t := 33) (f := 28) (rest := []) rfl (fun h3 => ?_) (fun h3 => ?_)
        · skip
          refine R_seg (φ := []) (pc' := 36) (L' := [.ref 1, .int q, .int t, .int s, .int a, .int i, .int n, mj_mk]) (st' := [.int (-2), .ref 1]) (σ' := (mj_KS N, I, mj_PP (2) d r)) 2 rfl trivial ?_
          refine R_ce (idx := 79) (mid := 90) (kind := 0) (N := N) (M' := mj_m_X5_refuse) (As := [.ref 1, .int (-2)]) (rest := []) (I := I) (P := mj_PP (2) d r) (I' := (s_X5_refuse (-2) I).2) (P' := mj_PP (2) d r) (v := some (.int ((s_X5_refuse (-2) I).1))) rfl rfl rfl mj_mc90 mj_dc90 rfl rfl rfl rfl rfl rfl (x_X5_refuse l b base D z N (-2) I (2) d r) ?_
          refine R_seg (φ := []) (pc' := 39) (L' := [.ref 1, .int q, .int t, .int s, .int a, .int i, .int n, mj_mk]) (st' := [.int ((s_X5_refuse (-2) I).1)]) (σ' := (mj_KS N, (s_X5_refuse (-2) I).2, mj_PP (2) d r)) 0 rfl trivial ?_
          exact R_ri rfl rfl (mj_leaf (by simp only [s_X5_wishes, h1, if_neg h2, if_pos h3, Bool.false_eq_true, ↓reduceIte, Nat.reduceAdd, Nat.reduceMul, mj_tn0, mj_tn1, mj_tn2, mj_tn3]) (by simp only [s_X5_wishes, h1, if_neg h2, if_pos h3, Bool.false_eq_true, ↓reduceIte, Nat.reduceAdd, Nat.reduceMul, mj_tn0, mj_tn1, mj_tn2, mj_tn3]))
        · skip
          refine R_seg (φ := []) (pc' := 30) (L' := [.ref 1, .int q, .int t, .int s, .int a, .int i, .int n, mj_mk]) (st' := [.int 3, .int t]) (σ' := (mj_KS N, I, mj_PP (2) d r)) 2 rfl trivial ?_
          refine R_br (q := (t : Int32) < 3) (t := 40) (f := 33) (rest := []) rfl (fun h4 => ?_) (fun h4 => ?_)
          · skip
            refine R_seg (φ := []) (pc' := 48) (L' := [.ref 1, .int q, .int t, .int s, .int a, .int i, .int n, mj_mk]) (st' := [.int n, .int i, .int a, .int s, .ref 1]) (σ' := (mj_KS N, I, mj_PP (2) d r)) 5 rfl trivial ?_
            refine R_ce (idx := 209) (mid := 67) (kind := 0) (N := N) (M' := mj_m_X5_takeReadWay) (As := [.ref 1, .int s, .int a, .int i, .int n]) (rest := []) (I := I) (P := mj_PP (2) d r) (I' := (s_X5_takeReadWay (2) s a i n I).2) (P' := mj_PP (2) d r) (v := some (.int ((s_X5_takeReadWay (2) s a i n I).1))) rfl rfl rfl mj_mc67 mj_dc67 rfl rfl rfl rfl rfl rfl (x_X5_takeReadWay l b base D z N (2) s a i n (by decide) I d r hl) ?_
            refine R_seg (φ := []) (pc' := 55) (L' := [.ref 1, .int q, .int t, .int s, .int a, .int i, .int n, .int ((s_X5_takeReadWay (2) s a i n I).1)]) (st' := [.int ((s_X5_takeReadWay (2) s a i n I).1)]) (σ' := (mj_KS N, (s_X5_takeReadWay (2) s a i n I).2, mj_PP (2) d r)) 2 rfl trivial ?_
            refine R_br (q := ((s_X5_takeReadWay (2) s a i n I).1 : Int32) = 0) (t := 63) (f := 58) (rest := []) rfl (fun h5 => ?_) (fun h5 => ?_)
            · skip
              obtain ⟨m, hm, hn, hw⟩ := mj_trw_ok _ _ _ _ _ (by decide) I h6 h5
              subst hn
              · skip
                refine R_seg (φ := []) (pc' := 64) (L' := [.ref 1, .int q, .int t, .int s, .int a, .int i, .int ((nI m)), .int ((s_X5_takeReadWay (2) s a i (nI m) I).1)]) (st' := [.ref 1]) (σ' := (mj_KS N, (s_X5_takeReadWay (2) s a i (nI m) I).2, mj_PP (2) d r)) 1 rfl trivial ?_
                rcases mj_has3 h1 hp with rfl | rfl | rfl
                · skip
                  refine R_seg (φ := [mj_in (0) 3]) (pc' := 77) (L' := [.ref 1, .int (0), .int t, .int s, .int a, .int i, .int ((nI m)), .int ((s_X5_takeReadWay (2) s a i (nI m) I).1)]) (st' := [.int ((nI m)), .int 4, .int t, .ref 7, .ref 1]) (σ' := (mj_KS N, (s_X5_takeReadWay (2) s a i (nI m) I).2, mj_PP (2) d r)) 8 rfl ⟨mj_in_d (by decide), trivial⟩ ?_
                  refine R_ce (idx := 212) (mid := 68) (kind := 0) (N := N) (M' := mj_m_X5_fitting) (As := [.ref 1, .ref 7, .int t, .int 4, .int ((nI m))]) (rest := []) (I := (s_X5_takeReadWay (2) s a i (nI m) I).2) (P := mj_PP (2) d r) (I' := (s_X5_fitting (2) 5 t m p R 4 ((s_X5_takeReadWay (2) s a i (nI m) I).2)).2) (P' := mj_PP (2) d r) (v := some (.int ((s_X5_fitting (2) 5 t m p R 4 ((s_X5_takeReadWay (2) s a i (nI m) I).2)).1))) rfl rfl rfl mj_mc68 mj_dc68 rfl rfl rfl rfl rfl rfl (x_X5_fitting l b base D z N (2) 5 t m p R 4 (by decide) (by decide) ((s_X5_takeReadWay (2) s a i (nI m) I).2) d r (by decide) (mj_t3 h3 h4) (mj_J_way (by decide) hJ (fun x y hx h1 => mj_trw_fr _ _ _ _ _ (by decide) I x y hx h1) hm hw)) ?_
                  refine R_seg (φ := []) (pc' := 80) (L' := [.ref 1, .int (0), .int t, .int s, .int a, .int i, .int ((nI m)), .int ((s_X5_takeReadWay (2) s a i (nI m) I).1)]) (st' := [.int ((s_X5_fitting (2) 5 t m p R 4 ((s_X5_takeReadWay (2) s a i (nI m) I).2)).1)]) (σ' := (mj_KS N, (s_X5_fitting (2) 5 t m p R 4 ((s_X5_takeReadWay (2) s a i (nI m) I).2)).2, mj_PP (2) d r)) 0 rfl trivial ?_
                  exact R_ri rfl rfl (mj_leaf (by simp only [s_X5_wishes, mj_tnm (show m < 2147483648 by omega), h1, if_neg h2, if_neg h3, if_pos h4, if_pos h5, Bool.false_eq_true, ↓reduceIte, Nat.reduceAdd, Nat.reduceMul, mj_tn0, mj_tn1, mj_tn2, mj_tn3]) (by simp only [s_X5_wishes, mj_tnm (show m < 2147483648 by omega), h1, if_neg h2, if_neg h3, if_pos h4, if_pos h5, Bool.false_eq_true, ↓reduceIte, Nat.reduceAdd, Nat.reduceMul, mj_tn0, mj_tn1, mj_tn2, mj_tn3]))
                · skip
                  refine R_seg (φ := [mj_in (1) 3]) (pc' := 77) (L' := [.ref 1, .int (1), .int t, .int s, .int a, .int i, .int ((nI m)), .int ((s_X5_takeReadWay (2) s a i (nI m) I).1)]) (st' := [.int ((nI m)), .int 4, .int t, .ref 8, .ref 1]) (σ' := (mj_KS N, (s_X5_takeReadWay (2) s a i (nI m) I).2, mj_PP (2) d r)) 8 rfl ⟨mj_in_d (by decide), trivial⟩ ?_
                  refine R_ce (idx := 212) (mid := 68) (kind := 0) (N := N) (M' := mj_m_X5_fitting) (As := [.ref 1, .ref 8, .int t, .int 4, .int ((nI m))]) (rest := []) (I := (s_X5_takeReadWay (2) s a i (nI m) I).2) (P := mj_PP (2) d r) (I' := (s_X5_fitting (2) 6 t m p R 4 ((s_X5_takeReadWay (2) s a i (nI m) I).2)).2) (P' := mj_PP (2) d r) (v := some (.int ((s_X5_fitting (2) 6 t m p R 4 ((s_X5_takeReadWay (2) s a i (nI m) I).2)).1))) rfl rfl rfl mj_mc68 mj_dc68 rfl rfl rfl rfl rfl rfl (x_X5_fitting l b base D z N (2) 6 t m p R 4 (by decide) (by decide) ((s_X5_takeReadWay (2) s a i (nI m) I).2) d r (by decide) (mj_t3 h3 h4) (mj_J_way (by decide) hJ (fun x y hx h1 => mj_trw_fr _ _ _ _ _ (by decide) I x y hx h1) hm hw)) ?_
                  refine R_seg (φ := []) (pc' := 80) (L' := [.ref 1, .int (1), .int t, .int s, .int a, .int i, .int ((nI m)), .int ((s_X5_takeReadWay (2) s a i (nI m) I).1)]) (st' := [.int ((s_X5_fitting (2) 6 t m p R 4 ((s_X5_takeReadWay (2) s a i (nI m) I).2)).1)]) (σ' := (mj_KS N, (s_X5_fitting (2) 6 t m p R 4 ((s_X5_takeReadWay (2) s a i (nI m) I).2)).2, mj_PP (2) d r)) 0 rfl trivial ?_
                  exact R_ri rfl rfl (mj_leaf (by simp only [s_X5_wishes, mj_tnm (show m < 2147483648 by omega), h1, if_neg h2, if_neg h3, if_pos h4, if_pos h5, Bool.false_eq_true, ↓reduceIte, Nat.reduceAdd, Nat.reduceMul, mj_tn0, mj_tn1, mj_tn2, mj_tn3]) (by simp only [s_X5_wishes, mj_tnm (show m < 2147483648 by omega), h1, if_neg h2, if_neg h3, if_pos h4, if_pos h5, Bool.false_eq_true, ↓reduceIte, Nat.reduceAdd, Nat.reduceMul, mj_tn0, mj_tn1, mj_tn2, mj_tn3]))
                · skip
                  refine R_seg (φ := [mj_in (2) 3]) (pc' := 77) (L' := [.ref 1, .int (2), .int t, .int s, .int a, .int i, .int ((nI m)), .int ((s_X5_takeReadWay (2) s a i (nI m) I).1)]) (st' := [.int ((nI m)), .int 4, .int t, .ref 9, .ref 1]) (σ' := (mj_KS N, (s_X5_takeReadWay (2) s a i (nI m) I).2, mj_PP (2) d r)) 8 rfl ⟨mj_in_d (by decide), trivial⟩ ?_
                  refine R_ce (idx := 212) (mid := 68) (kind := 0) (N := N) (M' := mj_m_X5_fitting) (As := [.ref 1, .ref 9, .int t, .int 4, .int ((nI m))]) (rest := []) (I := (s_X5_takeReadWay (2) s a i (nI m) I).2) (P := mj_PP (2) d r) (I' := (s_X5_fitting (2) 7 t m p R 4 ((s_X5_takeReadWay (2) s a i (nI m) I).2)).2) (P' := mj_PP (2) d r) (v := some (.int ((s_X5_fitting (2) 7 t m p R 4 ((s_X5_takeReadWay (2) s a i (nI m) I).2)).1))) rfl rfl rfl mj_mc68 mj_dc68 rfl rfl rfl rfl rfl rfl (x_X5_fitting l b base D z N (2) 7 t m p R 4 (by decide) (by decide) ((s_X5_takeReadWay (2) s a i (nI m) I).2) d r (by decide) (mj_t3 h3 h4) (mj_J_way (by decide) hJ (fun x y hx h1 => mj_trw_fr _ _ _ _ _ (by decide) I x y hx h1) hm hw)) ?_
                  refine R_seg (φ := []) (pc' := 80) (L' := [.ref 1, .int (2), .int t, .int s, .int a, .int i, .int ((nI m)), .int ((s_X5_takeReadWay (2) s a i (nI m) I).1)]) (st' := [.int ((s_X5_fitting (2) 7 t m p R 4 ((s_X5_takeReadWay (2) s a i (nI m) I).2)).1)]) (σ' := (mj_KS N, (s_X5_fitting (2) 7 t m p R 4 ((s_X5_takeReadWay (2) s a i (nI m) I).2)).2, mj_PP (2) d r)) 0 rfl trivial ?_
                  exact R_ri rfl rfl (mj_leaf (by simp only [s_X5_wishes, mj_tnm (show m < 2147483648 by omega), h1, if_neg h2, if_neg h3, if_pos h4, if_pos h5, Bool.false_eq_true, ↓reduceIte, Nat.reduceAdd, Nat.reduceMul, mj_tn0, mj_tn1, mj_tn2, mj_tn3]) (by simp only [s_X5_wishes, mj_tnm (show m < 2147483648 by omega), h1, if_neg h2, if_neg h3, if_pos h4, if_pos h5, Bool.false_eq_true, ↓reduceIte, Nat.reduceAdd, Nat.reduceMul, mj_tn0, mj_tn1, mj_tn2, mj_tn3]))
            · skip
              refine R_seg (φ := []) (pc' := 80) (L' := [.ref 1, .int q, .int t, .int s, .int a, .int i, .int n, .int ((s_X5_takeReadWay (2) s a i n I).1)]) (st' := [.int ((s_X5_takeReadWay (2) s a i n I).1)]) (σ' := (mj_KS N, (s_X5_takeReadWay (2) s a i n I).2, mj_PP (2) d r)) 2 rfl trivial ?_
              exact R_ri rfl rfl (mj_leaf (by simp only [s_X5_wishes, h1, if_neg h2, if_neg h3, if_pos h4, if_neg h5, Bool.false_eq_true, ↓reduceIte, Nat.reduceAdd, Nat.reduceMul, mj_tn0, mj_tn1, mj_tn2, mj_tn3]) (by simp only [s_X5_wishes, h1, if_neg h2, if_neg h3, if_pos h4, if_neg h5, Bool.false_eq_true, ↓reduceIte, Nat.reduceAdd, Nat.reduceMul, mj_tn0, mj_tn1, mj_tn2, mj_tn3]))
          · skip
            refine R_seg (φ := []) (pc' := 36) (L' := [.ref 1, .int q, .int t, .int s, .int a, .int i, .int n, mj_mk]) (st' := [.int (-2), .ref 1]) (σ' := (mj_KS N, I, mj_PP (2) d r)) 2 rfl trivial ?_
            refine R_ce (idx := 79) (mid := 90) (kind := 0) (N := N) (M' := mj_m_X5_refuse) (As := [.ref 1, .int (-2)]) (rest := []) (I := I) (P := mj_PP (2) d r) (I' := (s_X5_refuse (-2) I).2) (P' := mj_PP (2) d r) (v := some (.int ((s_X5_refuse (-2) I).1))) rfl rfl rfl mj_mc90 mj_dc90 rfl rfl rfl rfl rfl rfl (x_X5_refuse l b base D z N (-2) I (2) d r) ?_
            refine R_seg (φ := []) (pc' := 39) (L' := [.ref 1, .int q, .int t, .int s, .int a, .int i, .int n, mj_mk]) (st' := [.int ((s_X5_refuse (-2) I).1)]) (σ' := (mj_KS N, (s_X5_refuse (-2) I).2, mj_PP (2) d r)) 0 rfl trivial ?_
            exact R_ri rfl rfl (mj_leaf (by simp only [s_X5_wishes, h1, if_neg h2, if_neg h3, if_neg h4, Bool.false_eq_true, ↓reduceIte, Nat.reduceAdd, Nat.reduceMul, mj_tn0, mj_tn1, mj_tn2, mj_tn3]) (by simp only [s_X5_wishes, h1, if_neg h2, if_neg h3, if_neg h4, Bool.false_eq_true, ↓reduceIte, Nat.reduceAdd, Nat.reduceMul, mj_tn0, mj_tn1, mj_tn2, mj_tn3]))
  · skip
    refine R_seg (φ := []) (pc' := 5) (L' := [.ref 1, .int q, .int t, .int s, .int a, .int i, .int n, mj_mk]) (st' := [.int q, .ref 10]) (σ' := (mj_KS N, I, mj_PP (10) d r)) 3 rfl trivial ?_
    refine R_ce (idx := 119) (mid := 8) (kind := 3) (N := N) (M' := mj_m_X1_hasPlant) (As := [.ref 10, .int q]) (rest := []) (I := I) (P := mj_PP (10) d r) (I' := I) (P' := mj_PP (10) d r) (v := some (.int (bI (sp_has (I 10 1) q)))) rfl rfl rfl mj_mc8 mj_dc8 rfl rfl rfl rfl rfl rfl (x_hasPlant l b base D z N 10 (by decide) q I (10) d r) ?_
    refine R_seg (φ := []) (pc' := 8) (L' := [.ref 1, .int q, .int t, .int s, .int a, .int i, .int n, mj_mk]) (st' := [.int (bI (sp_has (I 10 1) q))]) (σ' := (mj_KS N, I, mj_PP (10) d r)) 0 rfl trivial ?_
    refine R_br (q := (bI (sp_has (I 10 1) q) : Int32) = 0) (t := 18) (f := 11) (rest := []) rfl (fun h1 => ?_) (fun h1 => ?_)
    · skip
      replace h1 := bI_0.mp h1
      refine R_seg (φ := []) (pc' := 20) (L' := [.ref 1, .int q, .int t, .int s, .int a, .int i, .int n, mj_mk]) (st' := [.int (-1), .ref 1]) (σ' := (mj_KS N, I, mj_PP (10) d r)) 2 rfl trivial ?_
      refine R_ce (idx := 79) (mid := 90) (kind := 0) (N := N) (M' := mj_m_X5_refuse) (As := [.ref 1, .int (-1)]) (rest := []) (I := I) (P := mj_PP (10) d r) (I' := (s_X5_refuse (-1) I).2) (P' := mj_PP (10) d r) (v := some (.int ((s_X5_refuse (-1) I).1))) rfl rfl rfl mj_mc90 mj_dc90 rfl rfl rfl rfl rfl rfl (x_X5_refuse l b base D z N (-1) I (10) d r) ?_
      refine R_seg (φ := []) (pc' := 23) (L' := [.ref 1, .int q, .int t, .int s, .int a, .int i, .int n, mj_mk]) (st' := [.int ((s_X5_refuse (-1) I).1)]) (σ' := (mj_KS N, (s_X5_refuse (-1) I).2, mj_PP (10) d r)) 0 rfl trivial ?_
      exact R_ri rfl rfl (mj_leaf (by simp only [s_X5_wishes, h1, Bool.false_eq_true, ↓reduceIte, Nat.reduceAdd, Nat.reduceMul, mj_tn0, mj_tn1, mj_tn2, mj_tn3]) (by simp only [s_X5_wishes, h1, Bool.false_eq_true, ↓reduceIte, Nat.reduceAdd, Nat.reduceMul, mj_tn0, mj_tn1, mj_tn2, mj_tn3]))
    · skip
      replace h1 := bI_1 h1
      refine R_seg (φ := []) (pc' := 12) (L' := [.ref 1, .int q, .int t, .int s, .int a, .int i, .int n, mj_mk]) (st' := [.int s]) (σ' := (mj_KS N, I, mj_PP (10) d r)) 1 rfl trivial ?_
      refine R_ce (idx := 75) (mid := 88) (kind := 1) (N := N) (M' := mj_m_X5_isSheet) (As := [.int s]) (rest := []) (I := I) (P := mj_PP (10) d r) (I' := I) (P' := mj_PP (10) d r) (v := some (.int (s_X5_isSheet s I))) rfl rfl rfl mj_mc88 mj_dc88 rfl rfl rfl rfl rfl rfl (x_X5_isSheet l b base D z N s I (10) d r) ?_
      refine R_seg (φ := []) (pc' := 15) (L' := [.ref 1, .int q, .int t, .int s, .int a, .int i, .int n, mj_mk]) (st' := [.int (s_X5_isSheet s I)]) (σ' := (mj_KS N, I, mj_PP (10) d r)) 0 rfl trivial ?_
      refine R_br (q := ((s_X5_isSheet s I) : Int32) = 0) (t := 18) (f := 24) (rest := []) rfl (fun h2 => ?_) (fun h2 => ?_)
      · skip
        refine R_seg (φ := []) (pc' := 20) (L' := [.ref 1, .int q, .int t, .int s, .int a, .int i, .int n, mj_mk]) (st' := [.int (-1), .ref 1]) (σ' := (mj_KS N, I, mj_PP (10) d r)) 2 rfl trivial ?_
        refine R_ce (idx := 79) (mid := 90) (kind := 0) (N := N) (M' := mj_m_X5_refuse) (As := [.ref 1, .int (-1)]) (rest := []) (I := I) (P := mj_PP (10) d r) (I' := (s_X5_refuse (-1) I).2) (P' := mj_PP (10) d r) (v := some (.int ((s_X5_refuse (-1) I).1))) rfl rfl rfl mj_mc90 mj_dc90 rfl rfl rfl rfl rfl rfl (x_X5_refuse l b base D z N (-1) I (10) d r) ?_
        refine R_seg (φ := []) (pc' := 23) (L' := [.ref 1, .int q, .int t, .int s, .int a, .int i, .int n, mj_mk]) (st' := [.int ((s_X5_refuse (-1) I).1)]) (σ' := (mj_KS N, (s_X5_refuse (-1) I).2, mj_PP (10) d r)) 0 rfl trivial ?_
        exact R_ri rfl rfl (mj_leaf (by simp only [s_X5_wishes, h1, if_pos h2, Bool.false_eq_true, ↓reduceIte, Nat.reduceAdd, Nat.reduceMul, mj_tn0, mj_tn1, mj_tn2, mj_tn3]) (by simp only [s_X5_wishes, h1, if_pos h2, Bool.false_eq_true, ↓reduceIte, Nat.reduceAdd, Nat.reduceMul, mj_tn0, mj_tn1, mj_tn2, mj_tn3]))
      · skip
        refine R_seg (φ := []) (pc' := 25) (L' := [.ref 1, .int q, .int t, .int s, .int a, .int i, .int n, mj_mk]) (st' := [.int t]) (σ' := (mj_KS N, I, mj_PP (10) d r)) 1 rfl trivial ?_
        refine R_br (q := (t : Int32) < 0) (t := 33) (f := 28) (rest := []) rfl (fun h3 => ?_) (fun h3 => ?_)
        · skip
          refine R_seg (φ := []) (pc' := 36) (L' := [.ref 1, .int q, .int t, .int s, .int a, .int i, .int n, mj_mk]) (st' := [.int (-2), .ref 1]) (σ' := (mj_KS N, I, mj_PP (10) d r)) 2 rfl trivial ?_
          refine R_ce (idx := 79) (mid := 90) (kind := 0) (N := N) (M' := mj_m_X5_refuse) (As := [.ref 1, .int (-2)]) (rest := []) (I := I) (P := mj_PP (10) d r) (I' := (s_X5_refuse (-2) I).2) (P' := mj_PP (10) d r) (v := some (.int ((s_X5_refuse (-2) I).1))) rfl rfl rfl mj_mc90 mj_dc90 rfl rfl rfl rfl rfl rfl (x_X5_refuse l b base D z N (-2) I (10) d r) ?_
          refine R_seg (φ := []) (pc' := 39) (L' := [.ref 1, .int q, .int t, .int s, .int a, .int i, .int n, mj_mk]) (st' := [.int ((s_X5_refuse (-2) I).1)]) (σ' := (mj_KS N, (s_X5_refuse (-2) I).2, mj_PP (10) d r)) 0 rfl trivial ?_
          exact R_ri rfl rfl (mj_leaf (by simp only [s_X5_wishes, h1, if_neg h2, if_pos h3, Bool.false_eq_true, ↓reduceIte, Nat.reduceAdd, Nat.reduceMul, mj_tn0, mj_tn1, mj_tn2, mj_tn3]) (by simp only [s_X5_wishes, h1, if_neg h2, if_pos h3, Bool.false_eq_true, ↓reduceIte, Nat.reduceAdd, Nat.reduceMul, mj_tn0, mj_tn1, mj_tn2, mj_tn3]))
        · skip
          refine R_seg (φ := []) (pc' := 30) (L' := [.ref 1, .int q, .int t, .int s, .int a, .int i, .int n, mj_mk]) (st' := [.int 3, .int t]) (σ' := (mj_KS N, I, mj_PP (10) d r)) 2 rfl trivial ?_
          refine R_br (q := (t : Int32) < 3) (t := 40) (f := 33) (rest := []) rfl (fun h4 => ?_) (fun h4 => ?_)
          · skip
            refine R_seg (φ := []) (pc' := 48) (L' := [.ref 1, .int q, .int t, .int s, .int a, .int i, .int n, mj_mk]) (st' := [.int n, .int i, .int a, .int s, .ref 1]) (σ' := (mj_KS N, I, mj_PP (10) d r)) 5 rfl trivial ?_
            refine R_ce (idx := 209) (mid := 67) (kind := 0) (N := N) (M' := mj_m_X5_takeReadWay) (As := [.ref 1, .int s, .int a, .int i, .int n]) (rest := []) (I := I) (P := mj_PP (10) d r) (I' := (s_X5_takeReadWay (10) s a i n I).2) (P' := mj_PP (10) d r) (v := some (.int ((s_X5_takeReadWay (10) s a i n I).1))) rfl rfl rfl mj_mc67 mj_dc67 rfl rfl rfl rfl rfl rfl (x_X5_takeReadWay l b base D z N (10) s a i n (by decide) I d r hl) ?_
            refine R_seg (φ := []) (pc' := 55) (L' := [.ref 1, .int q, .int t, .int s, .int a, .int i, .int n, .int ((s_X5_takeReadWay (10) s a i n I).1)]) (st' := [.int ((s_X5_takeReadWay (10) s a i n I).1)]) (σ' := (mj_KS N, (s_X5_takeReadWay (10) s a i n I).2, mj_PP (10) d r)) 2 rfl trivial ?_
            refine R_br (q := ((s_X5_takeReadWay (10) s a i n I).1 : Int32) = 0) (t := 63) (f := 58) (rest := []) rfl (fun h5 => ?_) (fun h5 => ?_)
            · skip
              obtain ⟨m, hm, hn, hw⟩ := mj_trw_ok _ _ _ _ _ (by decide) I h6 h5
              subst hn
              · skip
                refine R_seg (φ := []) (pc' := 64) (L' := [.ref 1, .int q, .int t, .int s, .int a, .int i, .int ((nI m)), .int ((s_X5_takeReadWay (10) s a i (nI m) I).1)]) (st' := [.ref 1]) (σ' := (mj_KS N, (s_X5_takeReadWay (10) s a i (nI m) I).2, mj_PP (10) d r)) 1 rfl trivial ?_
                rcases mj_has3 h1 hp with rfl | rfl | rfl
                · skip
                  refine R_seg (φ := [mj_in (0) 3]) (pc' := 77) (L' := [.ref 1, .int (0), .int t, .int s, .int a, .int i, .int ((nI m)), .int ((s_X5_takeReadWay (10) s a i (nI m) I).1)]) (st' := [.int ((nI m)), .int 4, .int t, .ref 15, .ref 1]) (σ' := (mj_KS N, (s_X5_takeReadWay (10) s a i (nI m) I).2, mj_PP (10) d r)) 8 rfl ⟨mj_in_d (by decide), trivial⟩ ?_
                  refine R_ce (idx := 212) (mid := 68) (kind := 0) (N := N) (M' := mj_m_X5_fitting) (As := [.ref 1, .ref 15, .int t, .int 4, .int ((nI m))]) (rest := []) (I := (s_X5_takeReadWay (10) s a i (nI m) I).2) (P := mj_PP (10) d r) (I' := (s_X5_fitting (10) 5 t m p R 4 ((s_X5_takeReadWay (10) s a i (nI m) I).2)).2) (P' := mj_PP (10) d r) (v := some (.int ((s_X5_fitting (10) 5 t m p R 4 ((s_X5_takeReadWay (10) s a i (nI m) I).2)).1))) rfl rfl rfl mj_mc68 mj_dc68 rfl rfl rfl rfl rfl rfl (x_X5_fitting l b base D z N (10) 5 t m p R 4 (by decide) (by decide) ((s_X5_takeReadWay (10) s a i (nI m) I).2) d r (by decide) (mj_t3 h3 h4) (mj_J_way (by decide) hJ (fun x y hx h1 => mj_trw_fr _ _ _ _ _ (by decide) I x y hx h1) hm hw)) ?_
                  refine R_seg (φ := []) (pc' := 80) (L' := [.ref 1, .int (0), .int t, .int s, .int a, .int i, .int ((nI m)), .int ((s_X5_takeReadWay (10) s a i (nI m) I).1)]) (st' := [.int ((s_X5_fitting (10) 5 t m p R 4 ((s_X5_takeReadWay (10) s a i (nI m) I).2)).1)]) (σ' := (mj_KS N, (s_X5_fitting (10) 5 t m p R 4 ((s_X5_takeReadWay (10) s a i (nI m) I).2)).2, mj_PP (10) d r)) 0 rfl trivial ?_
                  exact R_ri rfl rfl (mj_leaf (by simp only [s_X5_wishes, mj_tnm (show m < 2147483648 by omega), h1, if_neg h2, if_neg h3, if_pos h4, if_pos h5, Bool.false_eq_true, ↓reduceIte, Nat.reduceAdd, Nat.reduceMul, mj_tn0, mj_tn1, mj_tn2, mj_tn3]) (by simp only [s_X5_wishes, mj_tnm (show m < 2147483648 by omega), h1, if_neg h2, if_neg h3, if_pos h4, if_pos h5, Bool.false_eq_true, ↓reduceIte, Nat.reduceAdd, Nat.reduceMul, mj_tn0, mj_tn1, mj_tn2, mj_tn3]))
                · skip
                  refine R_seg (φ := [mj_in (1) 3]) (pc' := 77) (L' := [.ref 1, .int (1), .int t, .int s, .int a, .int i, .int ((nI m)), .int ((s_X5_takeReadWay (10) s a i (nI m) I).1)]) (st' := [.int ((nI m)), .int 4, .int t, .ref 16, .ref 1]) (σ' := (mj_KS N, (s_X5_takeReadWay (10) s a i (nI m) I).2, mj_PP (10) d r)) 8 rfl ⟨mj_in_d (by decide), trivial⟩ ?_
                  refine R_ce (idx := 212) (mid := 68) (kind := 0) (N := N) (M' := mj_m_X5_fitting) (As := [.ref 1, .ref 16, .int t, .int 4, .int ((nI m))]) (rest := []) (I := (s_X5_takeReadWay (10) s a i (nI m) I).2) (P := mj_PP (10) d r) (I' := (s_X5_fitting (10) 6 t m p R 4 ((s_X5_takeReadWay (10) s a i (nI m) I).2)).2) (P' := mj_PP (10) d r) (v := some (.int ((s_X5_fitting (10) 6 t m p R 4 ((s_X5_takeReadWay (10) s a i (nI m) I).2)).1))) rfl rfl rfl mj_mc68 mj_dc68 rfl rfl rfl rfl rfl rfl (x_X5_fitting l b base D z N (10) 6 t m p R 4 (by decide) (by decide) ((s_X5_takeReadWay (10) s a i (nI m) I).2) d r (by decide) (mj_t3 h3 h4) (mj_J_way (by decide) hJ (fun x y hx h1 => mj_trw_fr _ _ _ _ _ (by decide) I x y hx h1) hm hw)) ?_
                  refine R_seg (φ := []) (pc' := 80) (L' := [.ref 1, .int (1), .int t, .int s, .int a, .int i, .int ((nI m)), .int ((s_X5_takeReadWay (10) s a i (nI m) I).1)]) (st' := [.int ((s_X5_fitting (10) 6 t m p R 4 ((s_X5_takeReadWay (10) s a i (nI m) I).2)).1)]) (σ' := (mj_KS N, (s_X5_fitting (10) 6 t m p R 4 ((s_X5_takeReadWay (10) s a i (nI m) I).2)).2, mj_PP (10) d r)) 0 rfl trivial ?_
                  exact R_ri rfl rfl (mj_leaf (by simp only [s_X5_wishes, mj_tnm (show m < 2147483648 by omega), h1, if_neg h2, if_neg h3, if_pos h4, if_pos h5, Bool.false_eq_true, ↓reduceIte, Nat.reduceAdd, Nat.reduceMul, mj_tn0, mj_tn1, mj_tn2, mj_tn3]) (by simp only [s_X5_wishes, mj_tnm (show m < 2147483648 by omega), h1, if_neg h2, if_neg h3, if_pos h4, if_pos h5, Bool.false_eq_true, ↓reduceIte, Nat.reduceAdd, Nat.reduceMul, mj_tn0, mj_tn1, mj_tn2, mj_tn3]))
                · skip
                  refine R_seg (φ := [mj_in (2) 3]) (pc' := 77) (L' := [.ref 1, .int (2), .int t, .int s, .int a, .int i, .int ((nI m)), .int ((s_X5_takeReadWay (10) s a i (nI m) I).1)]) (st' := [.int ((nI m)), .int 4, .int t, .ref 17, .ref 1]) (σ' := (mj_KS N, (s_X5_takeReadWay (10) s a i (nI m) I).2, mj_PP (10) d r)) 8 rfl ⟨mj_in_d (by decide), trivial⟩ ?_
                  refine R_ce (idx := 212) (mid := 68) (kind := 0) (N := N) (M' := mj_m_X5_fitting) (As := [.ref 1, .ref 17, .int t, .int 4, .int ((nI m))]) (rest := []) (I := (s_X5_takeReadWay (10) s a i (nI m) I).2) (P := mj_PP (10) d r) (I' := (s_X5_fitting (10) 7 t m p R 4 ((s_X5_takeReadWay (10) s a i (nI m) I).2)).2) (P' := mj_PP (10) d r) (v := some (.int ((s_X5_fitting (10) 7 t m p R 4 ((s_X5_takeReadWay (10) s a i (nI m) I).2)).1))) rfl rfl rfl mj_mc68 mj_dc68 rfl rfl rfl rfl rfl rfl (x_X5_fitting l b base D z N (10) 7 t m p R 4 (by decide) (by decide) ((s_X5_takeReadWay (10) s a i (nI m) I).2) d r (by decide) (mj_t3 h3 h4) (mj_J_way (by decide) hJ (fun x y hx h1 => mj_trw_fr _ _ _ _ _ (by decide) I x y hx h1) hm hw)) ?_
                  refine R_seg (φ := []) (pc' := 80) (L' := [.ref 1, .int (2), .int t, .int s, .int a, .int i, .int ((nI m)), .int ((s_X5_takeReadWay (10) s a i (nI m) I).1)]) (st' := [.int ((s_X5_fitting (10) 7 t m p R 4 ((s_X5_takeReadWay (10) s a i (nI m) I).2)).1)]) (σ' := (mj_KS N, (s_X5_fitting (10) 7 t m p R 4 ((s_X5_takeReadWay (10) s a i (nI m) I).2)).2, mj_PP (10) d r)) 0 rfl trivial ?_
                  exact R_ri rfl rfl (mj_leaf (by simp only [s_X5_wishes, mj_tnm (show m < 2147483648 by omega), h1, if_neg h2, if_neg h3, if_pos h4, if_pos h5, Bool.false_eq_true, ↓reduceIte, Nat.reduceAdd, Nat.reduceMul, mj_tn0, mj_tn1, mj_tn2, mj_tn3]) (by simp only [s_X5_wishes, mj_tnm (show m < 2147483648 by omega), h1, if_neg h2, if_neg h3, if_pos h4, if_pos h5, Bool.false_eq_true, ↓reduceIte, Nat.reduceAdd, Nat.reduceMul, mj_tn0, mj_tn1, mj_tn2, mj_tn3]))
            · skip
              refine R_seg (φ := []) (pc' := 80) (L' := [.ref 1, .int q, .int t, .int s, .int a, .int i, .int n, .int ((s_X5_takeReadWay (10) s a i n I).1)]) (st' := [.int ((s_X5_takeReadWay (10) s a i n I).1)]) (σ' := (mj_KS N, (s_X5_takeReadWay (10) s a i n I).2, mj_PP (10) d r)) 2 rfl trivial ?_
              exact R_ri rfl rfl (mj_leaf (by simp only [s_X5_wishes, h1, if_neg h2, if_neg h3, if_pos h4, if_neg h5, Bool.false_eq_true, ↓reduceIte, Nat.reduceAdd, Nat.reduceMul, mj_tn0, mj_tn1, mj_tn2, mj_tn3]) (by simp only [s_X5_wishes, h1, if_neg h2, if_neg h3, if_pos h4, if_neg h5, Bool.false_eq_true, ↓reduceIte, Nat.reduceAdd, Nat.reduceMul, mj_tn0, mj_tn1, mj_tn2, mj_tn3]))
          · skip
            refine R_seg (φ := []) (pc' := 36) (L' := [.ref 1, .int q, .int t, .int s, .int a, .int i, .int n, mj_mk]) (st' := [.int (-2), .ref 1]) (σ' := (mj_KS N, I, mj_PP (10) d r)) 2 rfl trivial ?_
            refine R_ce (idx := 79) (mid := 90) (kind := 0) (N := N) (M' := mj_m_X5_refuse) (As := [.ref 1, .int (-2)]) (rest := []) (I := I) (P := mj_PP (10) d r) (I' := (s_X5_refuse (-2) I).2) (P' := mj_PP (10) d r) (v := some (.int ((s_X5_refuse (-2) I).1))) rfl rfl rfl mj_mc90 mj_dc90 rfl rfl rfl rfl rfl rfl (x_X5_refuse l b base D z N (-2) I (10) d r) ?_
            refine R_seg (φ := []) (pc' := 39) (L' := [.ref 1, .int q, .int t, .int s, .int a, .int i, .int n, mj_mk]) (st' := [.int ((s_X5_refuse (-2) I).1)]) (σ' := (mj_KS N, (s_X5_refuse (-2) I).2, mj_PP (10) d r)) 0 rfl trivial ?_
            exact R_ri rfl rfl (mj_leaf (by simp only [s_X5_wishes, h1, if_neg h2, if_neg h3, if_neg h4, Bool.false_eq_true, ↓reduceIte, Nat.reduceAdd, Nat.reduceMul, mj_tn0, mj_tn1, mj_tn2, mj_tn3]) (by simp only [s_X5_wishes, h1, if_neg h2, if_neg h3, if_neg h4, Bool.false_eq_true, ↓reduceIte, Nat.reduceAdd, Nat.reduceMul, mj_tn0, mj_tn1, mj_tn2, mj_tn3]))
def s_X5_cell (s : Int32) (i : Int32) (a : Int32) (I : mj_I) : Int64 × mj_I := if ((s_X5_isSheet s I) : Int32) = 0 then ((-9223372036854775808), (mj_upI I 1 13 0)) else (if ((s_X5_isLane a I) : Int32) = 0 then ((-9223372036854775808), (mj_upI I 1 13 0)) else (if (sp_fot (I (34 + 2 * s.toNatClampNeg) 0) (I (34 + 2 * s.toNatClampNeg) 1) (I (34 + 2 * s.toNatClampNeg) 2) a i 1 : Int32) = 0 then ((I (34 + 2 * s.toNatClampNeg + 1) i : Int32).toInt64, (mj_upI I 1 13 (sp_fot (I (34 + 2 * s.toNatClampNeg) 0) (I (34 + 2 * s.toNatClampNeg) 1) (I (34 + 2 * s.toNatClampNeg) 2) a i 1))) else ((-9223372036854775808), (mj_upI I 1 13 (sp_fot (I (34 + 2 * s.toNatClampNeg) 0) (I (34 + 2 * s.toNatClampNeg) 1) (I (34 + 2 * s.toNatClampNeg) 2) a i 1)))))
set_option maxHeartbeats 8000000 in
theorem x_X5_cell (l : Launch) (b base : Nat) (D : va_G) (z : mj_K × (Int32 → Int32)) (N : Nat) (s : Int32) (i : Int32) (a : Int32) (I : mj_I) (c d r : Nat) (hl : ∀ j : Nat, j < 4 → 0 ≤ (I (34 + 2 * j) 2).toInt ∧ (I (34 + 2 * j) 2).toInt ≤ 60) : mj_Rn l b base D z mj_m_X5_cell 0 [.ref 1, .int s, .int i, .int a] [] (mj_KS N, I, mj_PP c d r) (mj_E N (some (.long (s_X5_cell s i a I).1)) (s_X5_cell s i a I).2 (mj_PP c d r)) := by
  refine R_seg (φ := []) (pc' := 1) (L' := [.ref 1, .int s, .int i, .int a]) (st' := [.int s]) (σ' := (mj_KS N, I, mj_PP c d r)) 1 rfl trivial ?_
  refine R_ce (idx := 75) (mid := 88) (kind := 1) (N := N) (M' := mj_m_X5_isSheet) (As := [.int s]) (rest := []) (I := I) (P := mj_PP c d r) (I' := I) (P' := mj_PP c d r) (v := some (.int (s_X5_isSheet s I))) rfl rfl rfl mj_mc88 mj_dc88 rfl rfl rfl rfl rfl rfl (x_X5_isSheet l b base D z N s I c d r) ?_
  refine R_seg (φ := []) (pc' := 4) (L' := [.ref 1, .int s, .int i, .int a]) (st' := [.int (s_X5_isSheet s I)]) (σ' := (mj_KS N, I, mj_PP c d r)) 0 rfl trivial ?_
  refine R_br (q := ((s_X5_isSheet s I) : Int32) = 0) (t := 14) (f := 7) (rest := []) rfl (fun h1 => ?_) (fun h1 => ?_)
  · skip
    refine R_seg (φ := []) (pc' := 22) (L' := [.ref 1, .int s, .int i, .int a]) (st' := [.long (-9223372036854775808)]) (σ' := (mj_KS N, (mj_upI I 1 13 0), mj_PP c d r)) 4 rfl trivial ?_
    exact R_rl rfl rfl (mj_leaf (by simp only [s_X5_cell, if_pos h1, Bool.false_eq_true, ↓reduceIte, Nat.reduceAdd, Nat.reduceMul, mj_tn0, mj_tn1, mj_tn2, mj_tn3]) (by simp only [s_X5_cell, if_pos h1, Bool.false_eq_true, ↓reduceIte, Nat.reduceAdd, Nat.reduceMul, mj_tn0, mj_tn1, mj_tn2, mj_tn3]))
  · skip
    refine R_seg (φ := []) (pc' := 8) (L' := [.ref 1, .int s, .int i, .int a]) (st' := [.int a]) (σ' := (mj_KS N, I, mj_PP c d r)) 1 rfl trivial ?_
    refine R_ce (idx := 83) (mid := 89) (kind := 1) (N := N) (M' := mj_m_X5_isLane) (As := [.int a]) (rest := []) (I := I) (P := mj_PP c d r) (I' := I) (P' := mj_PP c d r) (v := some (.int (s_X5_isLane a I))) rfl rfl rfl mj_mc89 mj_dc89 rfl rfl rfl rfl rfl rfl (x_X5_isLane l b base D z N a I c d r) ?_
    refine R_seg (φ := []) (pc' := 11) (L' := [.ref 1, .int s, .int i, .int a]) (st' := [.int (s_X5_isLane a I)]) (σ' := (mj_KS N, I, mj_PP c d r)) 0 rfl trivial ?_
    refine R_br (q := ((s_X5_isLane a I) : Int32) = 0) (t := 14) (f := 23) (rest := []) rfl (fun h2 => ?_) (fun h2 => ?_)
    · skip
      refine R_seg (φ := []) (pc' := 22) (L' := [.ref 1, .int s, .int i, .int a]) (st' := [.long (-9223372036854775808)]) (σ' := (mj_KS N, (mj_upI I 1 13 0), mj_PP c d r)) 4 rfl trivial ?_
      exact R_rl rfl rfl (mj_leaf (by simp only [s_X5_cell, if_neg h1, if_pos h2, Bool.false_eq_true, ↓reduceIte, Nat.reduceAdd, Nat.reduceMul, mj_tn0, mj_tn1, mj_tn2, mj_tn3]) (by simp only [s_X5_cell, if_neg h1, if_pos h2, Bool.false_eq_true, ↓reduceIte, Nat.reduceAdd, Nat.reduceMul, mj_tn0, mj_tn1, mj_tn2, mj_tn3]))
    · skip
      rcases mj_sh4 h1 with rfl | rfl | rfl | rfl
      · skip
        refine R_seg (φ := [mj_in (0) 4]) (pc' := 33) (L' := [.ref 1, .int (0), .int i, .int a]) (st' := [.int 1, .int i, .int a, .ref 34, .ref 1]) (σ' := (mj_KS N, I, mj_PP c d r)) 8 rfl ⟨mj_in_d (by decide), trivial⟩ ?_
        refine R_ce (idx := 86) (mid := 37) (kind := 3) (N := N) (M' := mj_m_X4_faultOfTaking) (As := [.ref 34, .int a, .int i, .int 1]) (rest := [.ref 1]) (I := I) (P := mj_PP c d r) (I' := I) (P' := mj_PP c d r) (v := some (.int (sp_fot (I 34 0) (I 34 1) (I 34 2) a i 1))) rfl rfl rfl mj_mc37 mj_dc37 rfl rfl rfl rfl rfl rfl (x_fot l b base D z N 34 (by decide) a i 1 I c d r) ?_
        refine R_seg (φ := []) (pc' := 43) (L' := [.ref 1, .int (0), .int i, .int a]) (st' := [.int (sp_fot (I 34 0) (I 34 1) (I 34 2) a i 1)]) (σ' := (mj_KS N, (mj_upI I 1 13 (sp_fot (I 34 0) (I 34 1) (I 34 2) a i 1)), mj_PP c d r)) 3 rfl trivial ?_
        refine R_br (q := (sp_fot (I 34 0) (I 34 1) (I 34 2) a i 1 : Int32) = 0) (t := 52) (f := 46) (rest := []) rfl (fun h3 => ?_) (fun h3 => ?_)
        · skip
          refine R_seg (φ := [mj_in (0) 4, mj_in i 60]) (pc' := 64) (L' := [.ref 1, .int (0), .int i, .int a]) (st' := [.long ((I 35 i : Int32).toInt64)]) (σ' := (mj_KS N, (mj_upI I 1 13 (sp_fot (I 34 0) (I 34 1) (I 34 2) a i 1)), mj_PP c d r)) 8 rfl ⟨mj_in_d (by decide), mj_hcin (mj_fot0 h3).2.2.2 (hl 0 (by decide)), trivial⟩ ?_
          exact R_rl rfl rfl (mj_leaf (by simp only [s_X5_cell, if_neg h1, if_neg h2, if_pos h3, Bool.false_eq_true, ↓reduceIte, Nat.reduceAdd, Nat.reduceMul, mj_tn0, mj_tn1, mj_tn2, mj_tn3]) (by simp only [s_X5_cell, if_neg h1, if_neg h2, if_pos h3, Bool.false_eq_true, ↓reduceIte, Nat.reduceAdd, Nat.reduceMul, mj_tn0, mj_tn1, mj_tn2, mj_tn3]))
        · skip
          refine R_seg (φ := []) (pc' := 64) (L' := [.ref 1, .int (0), .int i, .int a]) (st' := [.long (-9223372036854775808)]) (σ' := (mj_KS N, (mj_upI I 1 13 (sp_fot (I 34 0) (I 34 1) (I 34 2) a i 1)), mj_PP c d r)) 2 rfl trivial ?_
          exact R_rl rfl rfl (mj_leaf (by simp only [s_X5_cell, if_neg h1, if_neg h2, if_neg h3, Bool.false_eq_true, ↓reduceIte, Nat.reduceAdd, Nat.reduceMul, mj_tn0, mj_tn1, mj_tn2, mj_tn3]) (by simp only [s_X5_cell, if_neg h1, if_neg h2, if_neg h3, Bool.false_eq_true, ↓reduceIte, Nat.reduceAdd, Nat.reduceMul, mj_tn0, mj_tn1, mj_tn2, mj_tn3]))
      · skip
        refine R_seg (φ := [mj_in (1) 4]) (pc' := 33) (L' := [.ref 1, .int (1), .int i, .int a]) (st' := [.int 1, .int i, .int a, .ref 36, .ref 1]) (σ' := (mj_KS N, I, mj_PP c d r)) 8 rfl ⟨mj_in_d (by decide), trivial⟩ ?_
        refine R_ce (idx := 86) (mid := 37) (kind := 3) (N := N) (M' := mj_m_X4_faultOfTaking) (As := [.ref 36, .int a, .int i, .int 1]) (rest := [.ref 1]) (I := I) (P := mj_PP c d r) (I' := I) (P' := mj_PP c d r) (v := some (.int (sp_fot (I 36 0) (I 36 1) (I 36 2) a i 1))) rfl rfl rfl mj_mc37 mj_dc37 rfl rfl rfl rfl rfl rfl (x_fot l b base D z N 36 (by decide) a i 1 I c d r) ?_
        refine R_seg (φ := []) (pc' := 43) (L' := [.ref 1, .int (1), .int i, .int a]) (st' := [.int (sp_fot (I 36 0) (I 36 1) (I 36 2) a i 1)]) (σ' := (mj_KS N, (mj_upI I 1 13 (sp_fot (I 36 0) (I 36 1) (I 36 2) a i 1)), mj_PP c d r)) 3 rfl trivial ?_
        refine R_br (q := (sp_fot (I 36 0) (I 36 1) (I 36 2) a i 1 : Int32) = 0) (t := 52) (f := 46) (rest := []) rfl (fun h3 => ?_) (fun h3 => ?_)
        · skip
          refine R_seg (φ := [mj_in (1) 4, mj_in i 60]) (pc' := 64) (L' := [.ref 1, .int (1), .int i, .int a]) (st' := [.long ((I 37 i : Int32).toInt64)]) (σ' := (mj_KS N, (mj_upI I 1 13 (sp_fot (I 36 0) (I 36 1) (I 36 2) a i 1)), mj_PP c d r)) 8 rfl ⟨mj_in_d (by decide), mj_hcin (mj_fot0 h3).2.2.2 (hl 1 (by decide)), trivial⟩ ?_
          exact R_rl rfl rfl (mj_leaf (by simp only [s_X5_cell, if_neg h1, if_neg h2, if_pos h3, Bool.false_eq_true, ↓reduceIte, Nat.reduceAdd, Nat.reduceMul, mj_tn0, mj_tn1, mj_tn2, mj_tn3]) (by simp only [s_X5_cell, if_neg h1, if_neg h2, if_pos h3, Bool.false_eq_true, ↓reduceIte, Nat.reduceAdd, Nat.reduceMul, mj_tn0, mj_tn1, mj_tn2, mj_tn3]))
        · skip
          refine R_seg (φ := []) (pc' := 64) (L' := [.ref 1, .int (1), .int i, .int a]) (st' := [.long (-9223372036854775808)]) (σ' := (mj_KS N, (mj_upI I 1 13 (sp_fot (I 36 0) (I 36 1) (I 36 2) a i 1)), mj_PP c d r)) 2 rfl trivial ?_
          exact R_rl rfl rfl (mj_leaf (by simp only [s_X5_cell, if_neg h1, if_neg h2, if_neg h3, Bool.false_eq_true, ↓reduceIte, Nat.reduceAdd, Nat.reduceMul, mj_tn0, mj_tn1, mj_tn2, mj_tn3]) (by simp only [s_X5_cell, if_neg h1, if_neg h2, if_neg h3, Bool.false_eq_true, ↓reduceIte, Nat.reduceAdd, Nat.reduceMul, mj_tn0, mj_tn1, mj_tn2, mj_tn3]))
      · skip
        refine R_seg (φ := [mj_in (2) 4]) (pc' := 33) (L' := [.ref 1, .int (2), .int i, .int a]) (st' := [.int 1, .int i, .int a, .ref 38, .ref 1]) (σ' := (mj_KS N, I, mj_PP c d r)) 8 rfl ⟨mj_in_d (by decide), trivial⟩ ?_
        refine R_ce (idx := 86) (mid := 37) (kind := 3) (N := N) (M' := mj_m_X4_faultOfTaking) (As := [.ref 38, .int a, .int i, .int 1]) (rest := [.ref 1]) (I := I) (P := mj_PP c d r) (I' := I) (P' := mj_PP c d r) (v := some (.int (sp_fot (I 38 0) (I 38 1) (I 38 2) a i 1))) rfl rfl rfl mj_mc37 mj_dc37 rfl rfl rfl rfl rfl rfl (x_fot l b base D z N 38 (by decide) a i 1 I c d r) ?_
        refine R_seg (φ := []) (pc' := 43) (L' := [.ref 1, .int (2), .int i, .int a]) (st' := [.int (sp_fot (I 38 0) (I 38 1) (I 38 2) a i 1)]) (σ' := (mj_KS N, (mj_upI I 1 13 (sp_fot (I 38 0) (I 38 1) (I 38 2) a i 1)), mj_PP c d r)) 3 rfl trivial ?_
        refine R_br (q := (sp_fot (I 38 0) (I 38 1) (I 38 2) a i 1 : Int32) = 0) (t := 52) (f := 46) (rest := []) rfl (fun h3 => ?_) (fun h3 => ?_)
        · skip
          refine R_seg (φ := [mj_in (2) 4, mj_in i 60]) (pc' := 64) (L' := [.ref 1, .int (2), .int i, .int a]) (st' := [.long ((I 39 i : Int32).toInt64)]) (σ' := (mj_KS N, (mj_upI I 1 13 (sp_fot (I 38 0) (I 38 1) (I 38 2) a i 1)), mj_PP c d r)) 8 rfl ⟨mj_in_d (by decide), mj_hcin (mj_fot0 h3).2.2.2 (hl 2 (by decide)), trivial⟩ ?_
          exact R_rl rfl rfl (mj_leaf (by simp only [s_X5_cell, if_neg h1, if_neg h2, if_pos h3, Bool.false_eq_true, ↓reduceIte, Nat.reduceAdd, Nat.reduceMul, mj_tn0, mj_tn1, mj_tn2, mj_tn3]) (by simp only [s_X5_cell, if_neg h1, if_neg h2, if_pos h3, Bool.false_eq_true, ↓reduceIte, Nat.reduceAdd, Nat.reduceMul, mj_tn0, mj_tn1, mj_tn2, mj_tn3]))
        · skip
          refine R_seg (φ := []) (pc' := 64) (L' := [.ref 1, .int (2), .int i, .int a]) (st' := [.long (-9223372036854775808)]) (σ' := (mj_KS N, (mj_upI I 1 13 (sp_fot (I 38 0) (I 38 1) (I 38 2) a i 1)), mj_PP c d r)) 2 rfl trivial ?_
          exact R_rl rfl rfl (mj_leaf (by simp only [s_X5_cell, if_neg h1, if_neg h2, if_neg h3, Bool.false_eq_true, ↓reduceIte, Nat.reduceAdd, Nat.reduceMul, mj_tn0, mj_tn1, mj_tn2, mj_tn3]) (by simp only [s_X5_cell, if_neg h1, if_neg h2, if_neg h3, Bool.false_eq_true, ↓reduceIte, Nat.reduceAdd, Nat.reduceMul, mj_tn0, mj_tn1, mj_tn2, mj_tn3]))
      · skip
        refine R_seg (φ := [mj_in (3) 4]) (pc' := 33) (L' := [.ref 1, .int (3), .int i, .int a]) (st' := [.int 1, .int i, .int a, .ref 40, .ref 1]) (σ' := (mj_KS N, I, mj_PP c d r)) 8 rfl ⟨mj_in_d (by decide), trivial⟩ ?_
        refine R_ce (idx := 86) (mid := 37) (kind := 3) (N := N) (M' := mj_m_X4_faultOfTaking) (As := [.ref 40, .int a, .int i, .int 1]) (rest := [.ref 1]) (I := I) (P := mj_PP c d r) (I' := I) (P' := mj_PP c d r) (v := some (.int (sp_fot (I 40 0) (I 40 1) (I 40 2) a i 1))) rfl rfl rfl mj_mc37 mj_dc37 rfl rfl rfl rfl rfl rfl (x_fot l b base D z N 40 (by decide) a i 1 I c d r) ?_
        refine R_seg (φ := []) (pc' := 43) (L' := [.ref 1, .int (3), .int i, .int a]) (st' := [.int (sp_fot (I 40 0) (I 40 1) (I 40 2) a i 1)]) (σ' := (mj_KS N, (mj_upI I 1 13 (sp_fot (I 40 0) (I 40 1) (I 40 2) a i 1)), mj_PP c d r)) 3 rfl trivial ?_
        refine R_br (q := (sp_fot (I 40 0) (I 40 1) (I 40 2) a i 1 : Int32) = 0) (t := 52) (f := 46) (rest := []) rfl (fun h3 => ?_) (fun h3 => ?_)
        · skip
          refine R_seg (φ := [mj_in (3) 4, mj_in i 60]) (pc' := 64) (L' := [.ref 1, .int (3), .int i, .int a]) (st' := [.long ((I 41 i : Int32).toInt64)]) (σ' := (mj_KS N, (mj_upI I 1 13 (sp_fot (I 40 0) (I 40 1) (I 40 2) a i 1)), mj_PP c d r)) 8 rfl ⟨mj_in_d (by decide), mj_hcin (mj_fot0 h3).2.2.2 (hl 3 (by decide)), trivial⟩ ?_
          exact R_rl rfl rfl (mj_leaf (by simp only [s_X5_cell, if_neg h1, if_neg h2, if_pos h3, Bool.false_eq_true, ↓reduceIte, Nat.reduceAdd, Nat.reduceMul, mj_tn0, mj_tn1, mj_tn2, mj_tn3]) (by simp only [s_X5_cell, if_neg h1, if_neg h2, if_pos h3, Bool.false_eq_true, ↓reduceIte, Nat.reduceAdd, Nat.reduceMul, mj_tn0, mj_tn1, mj_tn2, mj_tn3]))
        · skip
          refine R_seg (φ := []) (pc' := 64) (L' := [.ref 1, .int (3), .int i, .int a]) (st' := [.long (-9223372036854775808)]) (σ' := (mj_KS N, (mj_upI I 1 13 (sp_fot (I 40 0) (I 40 1) (I 40 2) a i 1)), mj_PP c d r)) 2 rfl trivial ?_
          exact R_rl rfl rfl (mj_leaf (by simp only [s_X5_cell, if_neg h1, if_neg h2, if_neg h3, Bool.false_eq_true, ↓reduceIte, Nat.reduceAdd, Nat.reduceMul, mj_tn0, mj_tn1, mj_tn2, mj_tn3]) (by simp only [s_X5_cell, if_neg h1, if_neg h2, if_neg h3, Bool.false_eq_true, ↓reduceIte, Nat.reduceAdd, Nat.reduceMul, mj_tn0, mj_tn1, mj_tn2, mj_tn3]))
theorem mj_cp {i j n a b : Int32} (h1 : ¬ n < 0) (h2 : sp_hc a i n = true) (h3 : sp_hc b j n = true) (l1 : 0 ≤ a.toInt ∧ a.toInt ≤ 60) (l2 : 0 ≤ b.toInt ∧ b.toInt ≤ 60) : 0 ≤ i.toInt ∧ 0 ≤ j.toInt ∧ 0 ≤ n.toInt ∧ i.toInt + n.toInt ≤ ((60 : Nat) : Int) ∧ j.toInt + n.toInt ≤ ((60 : Nat) : Int) ∧ ((60 : Nat) : Int) < 2147483648 ∧ ((60 : Nat) : Int) < 2147483648 := by
  have a0 := mj_i0 h1
  have a1 := mj_hcS h2 a0 l1
  have a2 := mj_hcS h3 a0 l2
  omega
def s_X5_copy (s : Int32) (i : Int32) (v : Int32) (j : Int32) (n : Int32) (I : mj_I) : Int32 × mj_I := if ((s_X5_isSheet s I) : Int32) = 0 then ((s_X5_refuse (-1) I).1, (s_X5_refuse (-1) I).2) else (if ((s_X5_isSheet v I) : Int32) = 0 then ((s_X5_refuse (-1) I).1, (s_X5_refuse (-1) I).2) else (if (I (34 + 2 * s.toNatClampNeg) 0 : Int32) = 0 then ((s_X5_comeTo 1 I).1, (s_X5_comeTo 1 I).2) else (if (I (34 + 2 * v.toNatClampNeg) 0 : Int32) = 0 then ((s_X5_comeTo 1 I).1, (s_X5_comeTo 1 I).2) else (if (I (34 + 2 * s.toNatClampNeg) 1 : Int32) = I (34 + 2 * v.toNatClampNeg) 1 then (if (n : Int32) < 0 then ((s_X5_comeTo 3 I).1, (s_X5_comeTo 3 I).2) else (if sp_hc (I (34 + 2 * s.toNatClampNeg) 2) i n then (if sp_hc (I (34 + 2 * v.toNatClampNeg) 2) j n then (n, mj_cpy (mj_upI I 1 13 0) (34 + 2 * s.toNatClampNeg + 1) (34 + 2 * v.toNatClampNeg + 1) i j n) else ((s_X5_comeTo 3 I).1, (s_X5_comeTo 3 I).2)) else ((s_X5_comeTo 3 I).1, (s_X5_comeTo 3 I).2))) else ((s_X5_comeTo 2 I).1, (s_X5_comeTo 2 I).2)))))
set_option maxHeartbeats 8000000 in
theorem x_X5_copy (l : Launch) (b base : Nat) (D : va_G) (z : mj_K × (Int32 → Int32)) (N : Nat) (s : Int32) (i : Int32) (v : Int32) (j : Int32) (n : Int32) (I : mj_I) (c d r : Nat) (hl : ∀ j : Nat, j < 4 → 0 ≤ (I (34 + 2 * j) 2).toInt ∧ (I (34 + 2 * j) 2).toInt ≤ 60) : mj_Rn l b base D z mj_m_X5_copy 0 [.ref 1, .int s, .int i, .int v, .int j, .int n, mj_mk, mj_mk] [] (mj_KS N, I, mj_PP c d r) (mj_E N (some (.int (s_X5_copy s i v j n I).1)) (s_X5_copy s i v j n I).2 (mj_PP c d r)) := by
  refine R_seg (φ := []) (pc' := 1) (L' := [.ref 1, .int s, .int i, .int v, .int j, .int n, mj_mk, mj_mk]) (st' := [.int s]) (σ' := (mj_KS N, I, mj_PP c d r)) 1 rfl trivial ?_
  refine R_ce (idx := 75) (mid := 88) (kind := 1) (N := N) (M' := mj_m_X5_isSheet) (As := [.int s]) (rest := []) (I := I) (P := mj_PP c d r) (I' := I) (P' := mj_PP c d r) (v := some (.int (s_X5_isSheet s I))) rfl rfl rfl mj_mc88 mj_dc88 rfl rfl rfl rfl rfl rfl (x_X5_isSheet l b base D z N s I c d r) ?_
  refine R_seg (φ := []) (pc' := 4) (L' := [.ref 1, .int s, .int i, .int v, .int j, .int n, mj_mk, mj_mk]) (st' := [.int (s_X5_isSheet s I)]) (σ' := (mj_KS N, I, mj_PP c d r)) 0 rfl trivial ?_
  refine R_br (q := ((s_X5_isSheet s I) : Int32) = 0) (t := 14) (f := 7) (rest := []) rfl (fun h1 => ?_) (fun h1 => ?_)
  · skip
    refine R_seg (φ := []) (pc' := 16) (L' := [.ref 1, .int s, .int i, .int v, .int j, .int n, mj_mk, mj_mk]) (st' := [.int (-1), .ref 1]) (σ' := (mj_KS N, I, mj_PP c d r)) 2 rfl trivial ?_
    refine R_ce (idx := 79) (mid := 90) (kind := 0) (N := N) (M' := mj_m_X5_refuse) (As := [.ref 1, .int (-1)]) (rest := []) (I := I) (P := mj_PP c d r) (I' := (s_X5_refuse (-1) I).2) (P' := mj_PP c d r) (v := some (.int ((s_X5_refuse (-1) I).1))) rfl rfl rfl mj_mc90 mj_dc90 rfl rfl rfl rfl rfl rfl (x_X5_refuse l b base D z N (-1) I c d r) ?_
    refine R_seg (φ := []) (pc' := 19) (L' := [.ref 1, .int s, .int i, .int v, .int j, .int n, mj_mk, mj_mk]) (st' := [.int ((s_X5_refuse (-1) I).1)]) (σ' := (mj_KS N, (s_X5_refuse (-1) I).2, mj_PP c d r)) 0 rfl trivial ?_
    exact R_ri rfl rfl (mj_leaf (by first | (simp only [s_X5_copy, if_pos h1, Bool.false_eq_true, ↓reduceIte, Nat.reduceAdd, Nat.reduceMul, mj_tn0, mj_tn1, mj_tn2, mj_tn3]; done) | contradiction) (by first | (simp only [s_X5_copy, if_pos h1, Bool.false_eq_true, ↓reduceIte, Nat.reduceAdd, Nat.reduceMul, mj_tn0, mj_tn1, mj_tn2, mj_tn3]; done) | contradiction))
  · skip
    refine R_seg (φ := []) (pc' := 8) (L' := [.ref 1, .int s, .int i, .int v, .int j, .int n, mj_mk, mj_mk]) (st' := [.int v]) (σ' := (mj_KS N, I, mj_PP c d r)) 1 rfl trivial ?_
    refine R_ce (idx := 75) (mid := 88) (kind := 1) (N := N) (M' := mj_m_X5_isSheet) (As := [.int v]) (rest := []) (I := I) (P := mj_PP c d r) (I' := I) (P' := mj_PP c d r) (v := some (.int (s_X5_isSheet v I))) rfl rfl rfl mj_mc88 mj_dc88 rfl rfl rfl rfl rfl rfl (x_X5_isSheet l b base D z N v I c d r) ?_
    refine R_seg (φ := []) (pc' := 11) (L' := [.ref 1, .int s, .int i, .int v, .int j, .int n, mj_mk, mj_mk]) (st' := [.int (s_X5_isSheet v I)]) (σ' := (mj_KS N, I, mj_PP c d r)) 0 rfl trivial ?_
    refine R_br (q := ((s_X5_isSheet v I) : Int32) = 0) (t := 14) (f := 20) (rest := []) rfl (fun h2 => ?_) (fun h2 => ?_)
    · skip
      refine R_seg (φ := []) (pc' := 16) (L' := [.ref 1, .int s, .int i, .int v, .int j, .int n, mj_mk, mj_mk]) (st' := [.int (-1), .ref 1]) (σ' := (mj_KS N, I, mj_PP c d r)) 2 rfl trivial ?_
      refine R_ce (idx := 79) (mid := 90) (kind := 0) (N := N) (M' := mj_m_X5_refuse) (As := [.ref 1, .int (-1)]) (rest := []) (I := I) (P := mj_PP c d r) (I' := (s_X5_refuse (-1) I).2) (P' := mj_PP c d r) (v := some (.int ((s_X5_refuse (-1) I).1))) rfl rfl rfl mj_mc90 mj_dc90 rfl rfl rfl rfl rfl rfl (x_X5_refuse l b base D z N (-1) I c d r) ?_
      refine R_seg (φ := []) (pc' := 19) (L' := [.ref 1, .int s, .int i, .int v, .int j, .int n, mj_mk, mj_mk]) (st' := [.int ((s_X5_refuse (-1) I).1)]) (σ' := (mj_KS N, (s_X5_refuse (-1) I).2, mj_PP c d r)) 0 rfl trivial ?_
      exact R_ri rfl rfl (mj_leaf (by first | (simp only [s_X5_copy, if_neg h1, if_pos h2, Bool.false_eq_true, ↓reduceIte, Nat.reduceAdd, Nat.reduceMul, mj_tn0, mj_tn1, mj_tn2, mj_tn3]; done) | contradiction) (by first | (simp only [s_X5_copy, if_neg h1, if_pos h2, Bool.false_eq_true, ↓reduceIte, Nat.reduceAdd, Nat.reduceMul, mj_tn0, mj_tn1, mj_tn2, mj_tn3]; done) | contradiction))
    · skip
      rcases mj_sh4 h1 with rfl | rfl | rfl | rfl
      · skip
        refine R_seg (φ := []) (pc' := 21) (L' := [.ref 1, .int (0), .int i, .int v, .int j, .int n, mj_mk, mj_mk]) (st' := [.ref 1]) (σ' := (mj_KS N, I, mj_PP c d r)) 1 rfl trivial ?_
        rcases mj_sh4 h2 with rfl | rfl | rfl | rfl
        · skip
          refine R_seg (φ := [mj_in (0) 4, mj_in (0) 4]) (pc' := 41) (L' := [.ref 1, .int (0), .int i, .int (0), .int j, .int n, .ref 34, .ref 34]) (st' := [.int (I 34 0)]) (σ' := (mj_KS N, I, mj_PP c d r)) 11 rfl ⟨mj_in_d (by decide), mj_in_d (by decide), trivial⟩ ?_
          refine R_br (q := (I 34 0 : Int32) = 0) (t := 52) (f := 44) (rest := []) rfl (fun h3 => ?_) (fun h3 => ?_)
          · skip
            refine R_seg (φ := []) (pc' := 54) (L' := [.ref 1, .int (0), .int i, .int (0), .int j, .int n, .ref 34, .ref 34]) (st' := [.int 1, .ref 1]) (σ' := (mj_KS N, I, mj_PP c d r)) 2 rfl trivial ?_
            refine R_ce (idx := 90) (mid := 91) (kind := 0) (N := N) (M' := mj_m_X5_comeTo) (As := [.ref 1, .int 1]) (rest := []) (I := I) (P := mj_PP c d r) (I' := (s_X5_comeTo 1 I).2) (P' := mj_PP c d r) (v := some (.int ((s_X5_comeTo 1 I).1))) rfl rfl rfl mj_mc91 mj_dc91 rfl rfl rfl rfl rfl rfl (x_X5_comeTo l b base D z N 1 I c d r) ?_
            refine R_seg (φ := []) (pc' := 57) (L' := [.ref 1, .int (0), .int i, .int (0), .int j, .int n, .ref 34, .ref 34]) (st' := [.int ((s_X5_comeTo 1 I).1)]) (σ' := (mj_KS N, (s_X5_comeTo 1 I).2, mj_PP c d r)) 0 rfl trivial ?_
            exact R_ri rfl rfl (mj_leaf (by first | (simp only [s_X5_copy, if_neg h1, if_neg h2, if_pos h3, Bool.false_eq_true, ↓reduceIte, Nat.reduceAdd, Nat.reduceMul, mj_tn0, mj_tn1, mj_tn2, mj_tn3]; done) | contradiction) (by first | (simp only [s_X5_copy, if_neg h1, if_neg h2, if_pos h3, Bool.false_eq_true, ↓reduceIte, Nat.reduceAdd, Nat.reduceMul, mj_tn0, mj_tn1, mj_tn2, mj_tn3]; done) | contradiction))
          · skip
            refine R_seg (φ := []) (pc' := 49) (L' := [.ref 1, .int (0), .int i, .int (0), .int j, .int n, .ref 34, .ref 34]) (st' := [.int (I 34 0)]) (σ' := (mj_KS N, I, mj_PP c d r)) 2 rfl trivial ?_
            refine R_br (q := (I 34 0 : Int32) = 0) (t := 52) (f := 58) (rest := []) rfl (fun h4 => ?_) (fun h4 => ?_)
            · skip
              refine R_seg (φ := []) (pc' := 54) (L' := [.ref 1, .int (0), .int i, .int (0), .int j, .int n, .ref 34, .ref 34]) (st' := [.int 1, .ref 1]) (σ' := (mj_KS N, I, mj_PP c d r)) 2 rfl trivial ?_
              refine R_ce (idx := 90) (mid := 91) (kind := 0) (N := N) (M' := mj_m_X5_comeTo) (As := [.ref 1, .int 1]) (rest := []) (I := I) (P := mj_PP c d r) (I' := (s_X5_comeTo 1 I).2) (P' := mj_PP c d r) (v := some (.int ((s_X5_comeTo 1 I).1))) rfl rfl rfl mj_mc91 mj_dc91 rfl rfl rfl rfl rfl rfl (x_X5_comeTo l b base D z N 1 I c d r) ?_
              refine R_seg (φ := []) (pc' := 57) (L' := [.ref 1, .int (0), .int i, .int (0), .int j, .int n, .ref 34, .ref 34]) (st' := [.int ((s_X5_comeTo 1 I).1)]) (σ' := (mj_KS N, (s_X5_comeTo 1 I).2, mj_PP c d r)) 0 rfl trivial ?_
              exact R_ri rfl rfl (mj_leaf (by first | (simp only [s_X5_copy, if_neg h1, if_neg h2, if_neg h3, if_pos h4, Bool.false_eq_true, ↓reduceIte, Nat.reduceAdd, Nat.reduceMul, mj_tn0, mj_tn1, mj_tn2, mj_tn3]; done) | contradiction) (by first | (simp only [s_X5_copy, if_neg h1, if_neg h2, if_neg h3, if_pos h4, Bool.false_eq_true, ↓reduceIte, Nat.reduceAdd, Nat.reduceMul, mj_tn0, mj_tn1, mj_tn2, mj_tn3]; done) | contradiction))
            · skip
              refine R_seg (φ := []) (pc' := 68) (L' := [.ref 1, .int (0), .int i, .int (0), .int j, .int n, .ref 34, .ref 34]) (st' := [.int (I 34 1), .int (I 34 1)]) (σ' := (mj_KS N, I, mj_PP c d r)) 4 rfl trivial ?_
              refine R_br (q := (I 34 1 : Int32) = I 34 1) (t := 77) (f := 71) (rest := []) rfl (fun h5 => ?_) (fun h5 => ?_)
              · skip
                refine R_seg (φ := []) (pc' := 79) (L' := [.ref 1, .int (0), .int i, .int (0), .int j, .int n, .ref 34, .ref 34]) (st' := [.int n]) (σ' := (mj_KS N, I, mj_PP c d r)) 1 rfl trivial ?_
                refine R_br (q := (n : Int32) < 0) (t := 105) (f := 82) (rest := []) rfl (fun h6 => ?_) (fun h6 => ?_)
                · skip
                  refine R_seg (φ := []) (pc' := 107) (L' := [.ref 1, .int (0), .int i, .int (0), .int j, .int n, .ref 34, .ref 34]) (st' := [.int 3, .ref 1]) (σ' := (mj_KS N, I, mj_PP c d r)) 2 rfl trivial ?_
                  refine R_ce (idx := 90) (mid := 91) (kind := 0) (N := N) (M' := mj_m_X5_comeTo) (As := [.ref 1, .int 3]) (rest := []) (I := I) (P := mj_PP c d r) (I' := (s_X5_comeTo 3 I).2) (P' := mj_PP c d r) (v := some (.int ((s_X5_comeTo 3 I).1))) rfl rfl rfl mj_mc91 mj_dc91 rfl rfl rfl rfl rfl rfl (x_X5_comeTo l b base D z N 3 I c d r) ?_
                  refine R_seg (φ := []) (pc' := 110) (L' := [.ref 1, .int (0), .int i, .int (0), .int j, .int n, .ref 34, .ref 34]) (st' := [.int ((s_X5_comeTo 3 I).1)]) (σ' := (mj_KS N, (s_X5_comeTo 3 I).2, mj_PP c d r)) 0 rfl trivial ?_
                  exact R_ri rfl rfl (mj_leaf (by first | (simp only [s_X5_copy, if_neg h1, if_neg h2, if_neg h3, if_neg h4, if_pos h5, if_pos h6, Bool.false_eq_true, ↓reduceIte, Nat.reduceAdd, Nat.reduceMul, mj_tn0, mj_tn1, mj_tn2, mj_tn3]; done) | contradiction) (by first | (simp only [s_X5_copy, if_neg h1, if_neg h2, if_neg h3, if_neg h4, if_pos h5, if_pos h6, Bool.false_eq_true, ↓reduceIte, Nat.reduceAdd, Nat.reduceMul, mj_tn0, mj_tn1, mj_tn2, mj_tn3]; done) | contradiction))
                · skip
                  refine R_seg (φ := []) (pc' := 87) (L' := [.ref 1, .int (0), .int i, .int (0), .int j, .int n, .ref 34, .ref 34]) (st' := [.int n, .int i, .ref 34]) (σ' := (mj_KS N, I, mj_PP c d r)) 3 rfl trivial ?_
                  refine R_ce (idx := 242) (mid := 36) (kind := 3) (N := N) (M' := mj_m_X4_hasCells) (As := [.ref 34, .int i, .int n]) (rest := []) (I := I) (P := mj_PP c d r) (I' := I) (P' := mj_PP c d r) (v := some (.int (bI (sp_hc (I 34 2) i n)))) rfl rfl rfl mj_mc36 mj_dc36 rfl rfl rfl rfl rfl rfl (x_hasCells l b base D z N 34 (by decide) i n I c d r) ?_
                  refine R_seg (φ := []) (pc' := 90) (L' := [.ref 1, .int (0), .int i, .int (0), .int j, .int n, .ref 34, .ref 34]) (st' := [.int (bI (sp_hc (I 34 2) i n))]) (σ' := (mj_KS N, I, mj_PP c d r)) 0 rfl trivial ?_
                  refine R_br (q := (bI (sp_hc (I 34 2) i n) : Int32) = 0) (t := 105) (f := 93) (rest := []) rfl (fun h7 => ?_) (fun h7 => ?_)
                  · skip
                    replace h7 := bI_0.mp h7
                    refine R_seg (φ := []) (pc' := 107) (L' := [.ref 1, .int (0), .int i, .int (0), .int j, .int n, .ref 34, .ref 34]) (st' := [.int 3, .ref 1]) (σ' := (mj_KS N, I, mj_PP c d r)) 2 rfl trivial ?_
                    refine R_ce (idx := 90) (mid := 91) (kind := 0) (N := N) (M' := mj_m_X5_comeTo) (As := [.ref 1, .int 3]) (rest := []) (I := I) (P := mj_PP c d r) (I' := (s_X5_comeTo 3 I).2) (P' := mj_PP c d r) (v := some (.int ((s_X5_comeTo 3 I).1))) rfl rfl rfl mj_mc91 mj_dc91 rfl rfl rfl rfl rfl rfl (x_X5_comeTo l b base D z N 3 I c d r) ?_
                    refine R_seg (φ := []) (pc' := 110) (L' := [.ref 1, .int (0), .int i, .int (0), .int j, .int n, .ref 34, .ref 34]) (st' := [.int ((s_X5_comeTo 3 I).1)]) (σ' := (mj_KS N, (s_X5_comeTo 3 I).2, mj_PP c d r)) 0 rfl trivial ?_
                    exact R_ri rfl rfl (mj_leaf (by first | (simp only [s_X5_copy, if_neg h1, if_neg h2, if_neg h3, if_neg h4, if_pos h5, if_neg h6, h7, Bool.false_eq_true, ↓reduceIte, Nat.reduceAdd, Nat.reduceMul, mj_tn0, mj_tn1, mj_tn2, mj_tn3]; done) | contradiction) (by first | (simp only [s_X5_copy, if_neg h1, if_neg h2, if_neg h3, if_neg h4, if_pos h5, if_neg h6, h7, Bool.false_eq_true, ↓reduceIte, Nat.reduceAdd, Nat.reduceMul, mj_tn0, mj_tn1, mj_tn2, mj_tn3]; done) | contradiction))
                  · skip
                    replace h7 := bI_1 h7
                    refine R_seg (φ := []) (pc' := 99) (L' := [.ref 1, .int (0), .int i, .int (0), .int j, .int n, .ref 34, .ref 34]) (st' := [.int n, .int j, .ref 34]) (σ' := (mj_KS N, I, mj_PP c d r)) 3 rfl trivial ?_
                    refine R_ce (idx := 242) (mid := 36) (kind := 3) (N := N) (M' := mj_m_X4_hasCells) (As := [.ref 34, .int j, .int n]) (rest := []) (I := I) (P := mj_PP c d r) (I' := I) (P' := mj_PP c d r) (v := some (.int (bI (sp_hc (I 34 2) j n)))) rfl rfl rfl mj_mc36 mj_dc36 rfl rfl rfl rfl rfl rfl (x_hasCells l b base D z N 34 (by decide) j n I c d r) ?_
                    refine R_seg (φ := []) (pc' := 102) (L' := [.ref 1, .int (0), .int i, .int (0), .int j, .int n, .ref 34, .ref 34]) (st' := [.int (bI (sp_hc (I 34 2) j n))]) (σ' := (mj_KS N, I, mj_PP c d r)) 0 rfl trivial ?_
                    refine R_br (q := (bI (sp_hc (I 34 2) j n) : Int32) = 0) (t := 105) (f := 111) (rest := []) rfl (fun h8 => ?_) (fun h8 => ?_)
                    · skip
                      replace h8 := bI_0.mp h8
                      refine R_seg (φ := []) (pc' := 107) (L' := [.ref 1, .int (0), .int i, .int (0), .int j, .int n, .ref 34, .ref 34]) (st' := [.int 3, .ref 1]) (σ' := (mj_KS N, I, mj_PP c d r)) 2 rfl trivial ?_
                      refine R_ce (idx := 90) (mid := 91) (kind := 0) (N := N) (M' := mj_m_X5_comeTo) (As := [.ref 1, .int 3]) (rest := []) (I := I) (P := mj_PP c d r) (I' := (s_X5_comeTo 3 I).2) (P' := mj_PP c d r) (v := some (.int ((s_X5_comeTo 3 I).1))) rfl rfl rfl mj_mc91 mj_dc91 rfl rfl rfl rfl rfl rfl (x_X5_comeTo l b base D z N 3 I c d r) ?_
                      refine R_seg (φ := []) (pc' := 110) (L' := [.ref 1, .int (0), .int i, .int (0), .int j, .int n, .ref 34, .ref 34]) (st' := [.int ((s_X5_comeTo 3 I).1)]) (σ' := (mj_KS N, (s_X5_comeTo 3 I).2, mj_PP c d r)) 0 rfl trivial ?_
                      exact R_ri rfl rfl (mj_leaf (by first | (simp only [s_X5_copy, if_neg h1, if_neg h2, if_neg h3, if_neg h4, if_pos h5, if_neg h6, h7, h8, Bool.false_eq_true, ↓reduceIte, Nat.reduceAdd, Nat.reduceMul, mj_tn0, mj_tn1, mj_tn2, mj_tn3]; done) | contradiction) (by first | (simp only [s_X5_copy, if_neg h1, if_neg h2, if_neg h3, if_neg h4, if_pos h5, if_neg h6, h7, h8, Bool.false_eq_true, ↓reduceIte, Nat.reduceAdd, Nat.reduceMul, mj_tn0, mj_tn1, mj_tn2, mj_tn3]; done) | contradiction))
                    · skip
                      replace h8 := bI_1 h8
                      refine R_seg (φ := [0 ≤ (i : Int32).toInt ∧ 0 ≤ (j : Int32).toInt ∧ 0 ≤ (n : Int32).toInt ∧ (i : Int32).toInt + (n : Int32).toInt ≤ ((60 : Nat) : Int) ∧ (j : Int32).toInt + (n : Int32).toInt ≤ ((60 : Nat) : Int) ∧ ((60 : Nat) : Int) < 2147483648 ∧ ((60 : Nat) : Int) < 2147483648]) (pc' := 136) (L' := [.ref 1, .int (0), .int i, .int (0), .int j, .int n, .ref 34, .ref 34]) (st' := [.int n]) (σ' := (mj_KS N, mj_cpy (mj_upI I 1 13 0) 35 35 i j n, mj_PP c d r)) 12 rfl ⟨mj_cp h6 h7 h8 (hl 0 (by decide)) (hl 0 (by decide)), trivial⟩ ?_
                      exact R_ri rfl rfl (mj_leaf (by first | (simp only [s_X5_copy, if_neg h1, if_neg h2, if_neg h3, if_neg h4, if_pos h5, if_neg h6, h7, h8, Bool.false_eq_true, ↓reduceIte, Nat.reduceAdd, Nat.reduceMul, mj_tn0, mj_tn1, mj_tn2, mj_tn3]; done) | contradiction) (by first | (simp only [s_X5_copy, if_neg h1, if_neg h2, if_neg h3, if_neg h4, if_pos h5, if_neg h6, h7, h8, Bool.false_eq_true, ↓reduceIte, Nat.reduceAdd, Nat.reduceMul, mj_tn0, mj_tn1, mj_tn2, mj_tn3]; done) | contradiction))
              · skip
                refine R_seg (φ := []) (pc' := 73) (L' := [.ref 1, .int (0), .int i, .int (0), .int j, .int n, .ref 34, .ref 34]) (st' := [.int 2, .ref 1]) (σ' := (mj_KS N, I, mj_PP c d r)) 2 rfl trivial ?_
                refine R_ce (idx := 90) (mid := 91) (kind := 0) (N := N) (M' := mj_m_X5_comeTo) (As := [.ref 1, .int 2]) (rest := []) (I := I) (P := mj_PP c d r) (I' := (s_X5_comeTo 2 I).2) (P' := mj_PP c d r) (v := some (.int ((s_X5_comeTo 2 I).1))) rfl rfl rfl mj_mc91 mj_dc91 rfl rfl rfl rfl rfl rfl (x_X5_comeTo l b base D z N 2 I c d r) ?_
                refine R_seg (φ := []) (pc' := 76) (L' := [.ref 1, .int (0), .int i, .int (0), .int j, .int n, .ref 34, .ref 34]) (st' := [.int ((s_X5_comeTo 2 I).1)]) (σ' := (mj_KS N, (s_X5_comeTo 2 I).2, mj_PP c d r)) 0 rfl trivial ?_
                exact R_ri rfl rfl (mj_leaf (by first | (simp only [s_X5_copy, if_neg h1, if_neg h2, if_neg h3, if_neg h4, if_neg h5, Bool.false_eq_true, ↓reduceIte, Nat.reduceAdd, Nat.reduceMul, mj_tn0, mj_tn1, mj_tn2, mj_tn3]; done) | contradiction) (by first | (simp only [s_X5_copy, if_neg h1, if_neg h2, if_neg h3, if_neg h4, if_neg h5, Bool.false_eq_true, ↓reduceIte, Nat.reduceAdd, Nat.reduceMul, mj_tn0, mj_tn1, mj_tn2, mj_tn3]; done) | contradiction))
        · skip
          refine R_seg (φ := [mj_in (0) 4, mj_in (1) 4]) (pc' := 41) (L' := [.ref 1, .int (0), .int i, .int (1), .int j, .int n, .ref 34, .ref 36]) (st' := [.int (I 34 0)]) (σ' := (mj_KS N, I, mj_PP c d r)) 11 rfl ⟨mj_in_d (by decide), mj_in_d (by decide), trivial⟩ ?_
          refine R_br (q := (I 34 0 : Int32) = 0) (t := 52) (f := 44) (rest := []) rfl (fun h3 => ?_) (fun h3 => ?_)
          · skip
            refine R_seg (φ := []) (pc' := 54) (L' := [.ref 1, .int (0), .int i, .int (1), .int j, .int n, .ref 34, .ref 36]) (st' := [.int 1, .ref 1]) (σ' := (mj_KS N, I, mj_PP c d r)) 2 rfl trivial ?_
            refine R_ce (idx := 90) (mid := 91) (kind := 0) (N := N) (M' := mj_m_X5_comeTo) (As := [.ref 1, .int 1]) (rest := []) (I := I) (P := mj_PP c d r) (I' := (s_X5_comeTo 1 I).2) (P' := mj_PP c d r) (v := some (.int ((s_X5_comeTo 1 I).1))) rfl rfl rfl mj_mc91 mj_dc91 rfl rfl rfl rfl rfl rfl (x_X5_comeTo l b base D z N 1 I c d r) ?_
            refine R_seg (φ := []) (pc' := 57) (L' := [.ref 1, .int (0), .int i, .int (1), .int j, .int n, .ref 34, .ref 36]) (st' := [.int ((s_X5_comeTo 1 I).1)]) (σ' := (mj_KS N, (s_X5_comeTo 1 I).2, mj_PP c d r)) 0 rfl trivial ?_
            exact R_ri rfl rfl (mj_leaf (by first | (simp only [s_X5_copy, if_neg h1, if_neg h2, if_pos h3, Bool.false_eq_true, ↓reduceIte, Nat.reduceAdd, Nat.reduceMul, mj_tn0, mj_tn1, mj_tn2, mj_tn3]; done) | contradiction) (by first | (simp only [s_X5_copy, if_neg h1, if_neg h2, if_pos h3, Bool.false_eq_true, ↓reduceIte, Nat.reduceAdd, Nat.reduceMul, mj_tn0, mj_tn1, mj_tn2, mj_tn3]; done) | contradiction))
          · skip
            refine R_seg (φ := []) (pc' := 49) (L' := [.ref 1, .int (0), .int i, .int (1), .int j, .int n, .ref 34, .ref 36]) (st' := [.int (I 36 0)]) (σ' := (mj_KS N, I, mj_PP c d r)) 2 rfl trivial ?_
            refine R_br (q := (I 36 0 : Int32) = 0) (t := 52) (f := 58) (rest := []) rfl (fun h4 => ?_) (fun h4 => ?_)
            · skip
              refine R_seg (φ := []) (pc' := 54) (L' := [.ref 1, .int (0), .int i, .int (1), .int j, .int n, .ref 34, .ref 36]) (st' := [.int 1, .ref 1]) (σ' := (mj_KS N, I, mj_PP c d r)) 2 rfl trivial ?_
              refine R_ce (idx := 90) (mid := 91) (kind := 0) (N := N) (M' := mj_m_X5_comeTo) (As := [.ref 1, .int 1]) (rest := []) (I := I) (P := mj_PP c d r) (I' := (s_X5_comeTo 1 I).2) (P' := mj_PP c d r) (v := some (.int ((s_X5_comeTo 1 I).1))) rfl rfl rfl mj_mc91 mj_dc91 rfl rfl rfl rfl rfl rfl (x_X5_comeTo l b base D z N 1 I c d r) ?_
              refine R_seg (φ := []) (pc' := 57) (L' := [.ref 1, .int (0), .int i, .int (1), .int j, .int n, .ref 34, .ref 36]) (st' := [.int ((s_X5_comeTo 1 I).1)]) (σ' := (mj_KS N, (s_X5_comeTo 1 I).2, mj_PP c d r)) 0 rfl trivial ?_
              exact R_ri rfl rfl (mj_leaf (by first | (simp only [s_X5_copy, if_neg h1, if_neg h2, if_neg h3, if_pos h4, Bool.false_eq_true, ↓reduceIte, Nat.reduceAdd, Nat.reduceMul, mj_tn0, mj_tn1, mj_tn2, mj_tn3]; done) | contradiction) (by first | (simp only [s_X5_copy, if_neg h1, if_neg h2, if_neg h3, if_pos h4, Bool.false_eq_true, ↓reduceIte, Nat.reduceAdd, Nat.reduceMul, mj_tn0, mj_tn1, mj_tn2, mj_tn3]; done) | contradiction))
            · skip
              refine R_seg (φ := []) (pc' := 68) (L' := [.ref 1, .int (0), .int i, .int (1), .int j, .int n, .ref 34, .ref 36]) (st' := [.int (I 36 1), .int (I 34 1)]) (σ' := (mj_KS N, I, mj_PP c d r)) 4 rfl trivial ?_
              refine R_br (q := (I 34 1 : Int32) = I 36 1) (t := 77) (f := 71) (rest := []) rfl (fun h5 => ?_) (fun h5 => ?_)
              · skip
                refine R_seg (φ := []) (pc' := 79) (L' := [.ref 1, .int (0), .int i, .int (1), .int j, .int n, .ref 34, .ref 36]) (st' := [.int n]) (σ' := (mj_KS N, I, mj_PP c d r)) 1 rfl trivial ?_
                refine R_br (q := (n : Int32) < 0) (t := 105) (f := 82) (rest := []) rfl (fun h6 => ?_) (fun h6 => ?_)
                · skip
                  refine R_seg (φ := []) (pc' := 107) (L' := [.ref 1, .int (0), .int i, .int (1), .int j, .int n, .ref 34, .ref 36]) (st' := [.int 3, .ref 1]) (σ' := (mj_KS N, I, mj_PP c d r)) 2 rfl trivial ?_
                  refine R_ce (idx := 90) (mid := 91) (kind := 0) (N := N) (M' := mj_m_X5_comeTo) (As := [.ref 1, .int 3]) (rest := []) (I := I) (P := mj_PP c d r) (I' := (s_X5_comeTo 3 I).2) (P' := mj_PP c d r) (v := some (.int ((s_X5_comeTo 3 I).1))) rfl rfl rfl mj_mc91 mj_dc91 rfl rfl rfl rfl rfl rfl (x_X5_comeTo l b base D z N 3 I c d r) ?_
                  refine R_seg (φ := []) (pc' := 110) (L' := [.ref 1, .int (0), .int i, .int (1), .int j, .int n, .ref 34, .ref 36]) (st' := [.int ((s_X5_comeTo 3 I).1)]) (σ' := (mj_KS N, (s_X5_comeTo 3 I).2, mj_PP c d r)) 0 rfl trivial ?_
                  exact R_ri rfl rfl (mj_leaf (by first | (simp only [s_X5_copy, if_neg h1, if_neg h2, if_neg h3, if_neg h4, if_pos h5, if_pos h6, Bool.false_eq_true, ↓reduceIte, Nat.reduceAdd, Nat.reduceMul, mj_tn0, mj_tn1, mj_tn2, mj_tn3]; done) | contradiction) (by first | (simp only [s_X5_copy, if_neg h1, if_neg h2, if_neg h3, if_neg h4, if_pos h5, if_pos h6, Bool.false_eq_true, ↓reduceIte, Nat.reduceAdd, Nat.reduceMul, mj_tn0, mj_tn1, mj_tn2, mj_tn3]; done) | contradiction))
                · skip
                  refine R_seg (φ := []) (pc' := 87) (L' := [.ref 1, .int (0), .int i, .int (1), .int j, .int n, .ref 34, .ref 36]) (st' := [.int n, .int i, .ref 34]) (σ' := (mj_KS N, I, mj_PP c d r)) 3 rfl trivial ?_
                  refine R_ce (idx := 242) (mid := 36) (kind := 3) (N := N) (M' := mj_m_X4_hasCells) (As := [.ref 34, .int i, .int n]) (rest := []) (I := I) (P := mj_PP c d r) (I' := I) (P' := mj_PP c d r) (v := some (.int (bI (sp_hc (I 34 2) i n)))) rfl rfl rfl mj_mc36 mj_dc36 rfl rfl rfl rfl rfl rfl (x_hasCells l b base D z N 34 (by decide) i n I c d r) ?_
                  refine R_seg (φ := []) (pc' := 90) (L' := [.ref 1, .int (0), .int i, .int (1), .int j, .int n, .ref 34, .ref 36]) (st' := [.int (bI (sp_hc (I 34 2) i n))]) (σ' := (mj_KS N, I, mj_PP c d r)) 0 rfl trivial ?_
                  refine R_br (q := (bI (sp_hc (I 34 2) i n) : Int32) = 0) (t := 105) (f := 93) (rest := []) rfl (fun h7 => ?_) (fun h7 => ?_)
                  · skip
                    replace h7 := bI_0.mp h7
                    refine R_seg (φ := []) (pc' := 107) (L' := [.ref 1, .int (0), .int i, .int (1), .int j, .int n, .ref 34, .ref 36]) (st' := [.int 3, .ref 1]) (σ' := (mj_KS N, I, mj_PP c d r)) 2 rfl trivial ?_
                    refine R_ce (idx := 90) (mid := 91) (kind := 0) (N := N) (M' := mj_m_X5_comeTo) (As := [.ref 1, .int 3]) (rest := []) (I := I) (P := mj_PP c d r) (I' := (s_X5_comeTo 3 I).2) (P' := mj_PP c d r) (v := some (.int ((s_X5_comeTo 3 I).1))) rfl rfl rfl mj_mc91 mj_dc91 rfl rfl rfl rfl rfl rfl (x_X5_comeTo l b base D z N 3 I c d r) ?_
                    refine R_seg (φ := []) (pc' := 110) (L' := [.ref 1, .int (0), .int i, .int (1), .int j, .int n, .ref 34, .ref 36]) (st' := [.int ((s_X5_comeTo 3 I).1)]) (σ' := (mj_KS N, (s_X5_comeTo 3 I).2, mj_PP c d r)) 0 rfl trivial ?_
                    exact R_ri rfl rfl (mj_leaf (by first | (simp only [s_X5_copy, if_neg h1, if_neg h2, if_neg h3, if_neg h4, if_pos h5, if_neg h6, h7, Bool.false_eq_true, ↓reduceIte, Nat.reduceAdd, Nat.reduceMul, mj_tn0, mj_tn1, mj_tn2, mj_tn3]; done) | contradiction) (by first | (simp only [s_X5_copy, if_neg h1, if_neg h2, if_neg h3, if_neg h4, if_pos h5, if_neg h6, h7, Bool.false_eq_true, ↓reduceIte, Nat.reduceAdd, Nat.reduceMul, mj_tn0, mj_tn1, mj_tn2, mj_tn3]; done) | contradiction))
                  · skip
                    replace h7 := bI_1 h7
                    refine R_seg (φ := []) (pc' := 99) (L' := [.ref 1, .int (0), .int i, .int (1), .int j, .int n, .ref 34, .ref 36]) (st' := [.int n, .int j, .ref 36]) (σ' := (mj_KS N, I, mj_PP c d r)) 3 rfl trivial ?_
                    refine R_ce (idx := 242) (mid := 36) (kind := 3) (N := N) (M' := mj_m_X4_hasCells) (As := [.ref 36, .int j, .int n]) (rest := []) (I := I) (P := mj_PP c d r) (I' := I) (P' := mj_PP c d r) (v := some (.int (bI (sp_hc (I 36 2) j n)))) rfl rfl rfl mj_mc36 mj_dc36 rfl rfl rfl rfl rfl rfl (x_hasCells l b base D z N 36 (by decide) j n I c d r) ?_
                    refine R_seg (φ := []) (pc' := 102) (L' := [.ref 1, .int (0), .int i, .int (1), .int j, .int n, .ref 34, .ref 36]) (st' := [.int (bI (sp_hc (I 36 2) j n))]) (σ' := (mj_KS N, I, mj_PP c d r)) 0 rfl trivial ?_
                    refine R_br (q := (bI (sp_hc (I 36 2) j n) : Int32) = 0) (t := 105) (f := 111) (rest := []) rfl (fun h8 => ?_) (fun h8 => ?_)
                    · skip
                      replace h8 := bI_0.mp h8
                      refine R_seg (φ := []) (pc' := 107) (L' := [.ref 1, .int (0), .int i, .int (1), .int j, .int n, .ref 34, .ref 36]) (st' := [.int 3, .ref 1]) (σ' := (mj_KS N, I, mj_PP c d r)) 2 rfl trivial ?_
                      refine R_ce (idx := 90) (mid := 91) (kind := 0) (N := N) (M' := mj_m_X5_comeTo) (As := [.ref 1, .int 3]) (rest := []) (I := I) (P := mj_PP c d r) (I' := (s_X5_comeTo 3 I).2) (P' := mj_PP c d r) (v := some (.int ((s_X5_comeTo 3 I).1))) rfl rfl rfl mj_mc91 mj_dc91 rfl rfl rfl rfl rfl rfl (x_X5_comeTo l b base D z N 3 I c d r) ?_
                      refine R_seg (φ := []) (pc' := 110) (L' := [.ref 1, .int (0), .int i, .int (1), .int j, .int n, .ref 34, .ref 36]) (st' := [.int ((s_X5_comeTo 3 I).1)]) (σ' := (mj_KS N, (s_X5_comeTo 3 I).2, mj_PP c d r)) 0 rfl trivial ?_
                      exact R_ri rfl rfl (mj_leaf (by first | (simp only [s_X5_copy, if_neg h1, if_neg h2, if_neg h3, if_neg h4, if_pos h5, if_neg h6, h7, h8, Bool.false_eq_true, ↓reduceIte, Nat.reduceAdd, Nat.reduceMul, mj_tn0, mj_tn1, mj_tn2, mj_tn3]; done) | contradiction) (by first | (simp only [s_X5_copy, if_neg h1, if_neg h2, if_neg h3, if_neg h4, if_pos h5, if_neg h6, h7, h8, Bool.false_eq_true, ↓reduceIte, Nat.reduceAdd, Nat.reduceMul, mj_tn0, mj_tn1, mj_tn2, mj_tn3]; done) | contradiction))
                    · skip
                      replace h8 := bI_1 h8
                      refine R_seg (φ := [0 ≤ (i : Int32).toInt ∧ 0 ≤ (j : Int32).toInt ∧ 0 ≤ (n : Int32).toInt ∧ (i : Int32).toInt + (n : Int32).toInt ≤ ((60 : Nat) : Int) ∧ (j : Int32).toInt + (n : Int32).toInt ≤ ((60 : Nat) : Int) ∧ ((60 : Nat) : Int) < 2147483648 ∧ ((60 : Nat) : Int) < 2147483648]) (pc' := 136) (L' := [.ref 1, .int (0), .int i, .int (1), .int j, .int n, .ref 34, .ref 36]) (st' := [.int n]) (σ' := (mj_KS N, mj_cpy (mj_upI I 1 13 0) 35 37 i j n, mj_PP c d r)) 12 rfl ⟨mj_cp h6 h7 h8 (hl 0 (by decide)) (hl 1 (by decide)), trivial⟩ ?_
                      exact R_ri rfl rfl (mj_leaf (by first | (simp only [s_X5_copy, if_neg h1, if_neg h2, if_neg h3, if_neg h4, if_pos h5, if_neg h6, h7, h8, Bool.false_eq_true, ↓reduceIte, Nat.reduceAdd, Nat.reduceMul, mj_tn0, mj_tn1, mj_tn2, mj_tn3]; done) | contradiction) (by first | (simp only [s_X5_copy, if_neg h1, if_neg h2, if_neg h3, if_neg h4, if_pos h5, if_neg h6, h7, h8, Bool.false_eq_true, ↓reduceIte, Nat.reduceAdd, Nat.reduceMul, mj_tn0, mj_tn1, mj_tn2, mj_tn3]; done) | contradiction))
              · skip
                refine R_seg (φ := []) (pc' := 73) (L' := [.ref 1, .int (0), .int i, .int (1), .int j, .int n, .ref 34, .ref 36]) (st' := [.int 2, .ref 1]) (σ' := (mj_KS N, I, mj_PP c d r)) 2 rfl trivial ?_
                refine R_ce (idx := 90) (mid := 91) (kind := 0) (N := N) (M' := mj_m_X5_comeTo) (As := [.ref 1, .int 2]) (rest := []) (I := I) (P := mj_PP c d r) (I' := (s_X5_comeTo 2 I).2) (P' := mj_PP c d r) (v := some (.int ((s_X5_comeTo 2 I).1))) rfl rfl rfl mj_mc91 mj_dc91 rfl rfl rfl rfl rfl rfl (x_X5_comeTo l b base D z N 2 I c d r) ?_
                refine R_seg (φ := []) (pc' := 76) (L' := [.ref 1, .int (0), .int i, .int (1), .int j, .int n, .ref 34, .ref 36]) (st' := [.int ((s_X5_comeTo 2 I).1)]) (σ' := (mj_KS N, (s_X5_comeTo 2 I).2, mj_PP c d r)) 0 rfl trivial ?_
                exact R_ri rfl rfl (mj_leaf (by first | (simp only [s_X5_copy, if_neg h1, if_neg h2, if_neg h3, if_neg h4, if_neg h5, Bool.false_eq_true, ↓reduceIte, Nat.reduceAdd, Nat.reduceMul, mj_tn0, mj_tn1, mj_tn2, mj_tn3]; done) | contradiction) (by first | (simp only [s_X5_copy, if_neg h1, if_neg h2, if_neg h3, if_neg h4, if_neg h5, Bool.false_eq_true, ↓reduceIte, Nat.reduceAdd, Nat.reduceMul, mj_tn0, mj_tn1, mj_tn2, mj_tn3]; done) | contradiction))
        · skip
          refine R_seg (φ := [mj_in (0) 4, mj_in (2) 4]) (pc' := 41) (L' := [.ref 1, .int (0), .int i, .int (2), .int j, .int n, .ref 34, .ref 38]) (st' := [.int (I 34 0)]) (σ' := (mj_KS N, I, mj_PP c d r)) 11 rfl ⟨mj_in_d (by decide), mj_in_d (by decide), trivial⟩ ?_
          refine R_br (q := (I 34 0 : Int32) = 0) (t := 52) (f := 44) (rest := []) rfl (fun h3 => ?_) (fun h3 => ?_)
          · skip
            refine R_seg (φ := []) (pc' := 54) (L' := [.ref 1, .int (0), .int i, .int (2), .int j, .int n, .ref 34, .ref 38]) (st' := [.int 1, .ref 1]) (σ' := (mj_KS N, I, mj_PP c d r)) 2 rfl trivial ?_
            refine R_ce (idx := 90) (mid := 91) (kind := 0) (N := N) (M' := mj_m_X5_comeTo) (As := [.ref 1, .int 1]) (rest := []) (I := I) (P := mj_PP c d r) (I' := (s_X5_comeTo 1 I).2) (P' := mj_PP c d r) (v := some (.int ((s_X5_comeTo 1 I).1))) rfl rfl rfl mj_mc91 mj_dc91 rfl rfl rfl rfl rfl rfl (x_X5_comeTo l b base D z N 1 I c d r) ?_
            refine R_seg (φ := []) (pc' := 57) (L' := [.ref 1, .int (0), .int i, .int (2), .int j, .int n, .ref 34, .ref 38]) (st' := [.int ((s_X5_comeTo 1 I).1)]) (σ' := (mj_KS N, (s_X5_comeTo 1 I).2, mj_PP c d r)) 0 rfl trivial ?_
            exact R_ri rfl rfl (mj_leaf (by first | (simp only [s_X5_copy, if_neg h1, if_neg h2, if_pos h3, Bool.false_eq_true, ↓reduceIte, Nat.reduceAdd, Nat.reduceMul, mj_tn0, mj_tn1, mj_tn2, mj_tn3]; done) | contradiction) (by first | (simp only [s_X5_copy, if_neg h1, if_neg h2, if_pos h3, Bool.false_eq_true, ↓reduceIte, Nat.reduceAdd, Nat.reduceMul, mj_tn0, mj_tn1, mj_tn2, mj_tn3]; done) | contradiction))
          · skip
            refine R_seg (φ := []) (pc' := 49) (L' := [.ref 1, .int (0), .int i, .int (2), .int j, .int n, .ref 34, .ref 38]) (st' := [.int (I 38 0)]) (σ' := (mj_KS N, I, mj_PP c d r)) 2 rfl trivial ?_
            refine R_br (q := (I 38 0 : Int32) = 0) (t := 52) (f := 58) (rest := []) rfl (fun h4 => ?_) (fun h4 => ?_)
            · skip
              refine R_seg (φ := []) (pc' := 54) (L' := [.ref 1, .int (0), .int i, .int (2), .int j, .int n, .ref 34, .ref 38]) (st' := [.int 1, .ref 1]) (σ' := (mj_KS N, I, mj_PP c d r)) 2 rfl trivial ?_
              refine R_ce (idx := 90) (mid := 91) (kind := 0) (N := N) (M' := mj_m_X5_comeTo) (As := [.ref 1, .int 1]) (rest := []) (I := I) (P := mj_PP c d r) (I' := (s_X5_comeTo 1 I).2) (P' := mj_PP c d r) (v := some (.int ((s_X5_comeTo 1 I).1))) rfl rfl rfl mj_mc91 mj_dc91 rfl rfl rfl rfl rfl rfl (x_X5_comeTo l b base D z N 1 I c d r) ?_
              refine R_seg (φ := []) (pc' := 57) (L' := [.ref 1, .int (0), .int i, .int (2), .int j, .int n, .ref 34, .ref 38]) (st' := [.int ((s_X5_comeTo 1 I).1)]) (σ' := (mj_KS N, (s_X5_comeTo 1 I).2, mj_PP c d r)) 0 rfl trivial ?_
              exact R_ri rfl rfl (mj_leaf (by first | (simp only [s_X5_copy, if_neg h1, if_neg h2, if_neg h3, if_pos h4, Bool.false_eq_true, ↓reduceIte, Nat.reduceAdd, Nat.reduceMul, mj_tn0, mj_tn1, mj_tn2, mj_tn3]; done) | contradiction) (by first | (simp only [s_X5_copy, if_neg h1, if_neg h2, if_neg h3, if_pos h4, Bool.false_eq_true, ↓reduceIte, Nat.reduceAdd, Nat.reduceMul, mj_tn0, mj_tn1, mj_tn2, mj_tn3]; done) | contradiction))
            · skip
              refine R_seg (φ := []) (pc' := 68) (L' := [.ref 1, .int (0), .int i, .int (2), .int j, .int n, .ref 34, .ref 38]) (st' := [.int (I 38 1), .int (I 34 1)]) (σ' := (mj_KS N, I, mj_PP c d r)) 4 rfl trivial ?_
              refine R_br (q := (I 34 1 : Int32) = I 38 1) (t := 77) (f := 71) (rest := []) rfl (fun h5 => ?_) (fun h5 => ?_)
              · skip
                refine R_seg (φ := []) (pc' := 79) (L' := [.ref 1, .int (0), .int i, .int (2), .int j, .int n, .ref 34, .ref 38]) (st' := [.int n]) (σ' := (mj_KS N, I, mj_PP c d r)) 1 rfl trivial ?_
                refine R_br (q := (n : Int32) < 0) (t := 105) (f := 82) (rest := []) rfl (fun h6 => ?_) (fun h6 => ?_)
                · skip
                  refine R_seg (φ := []) (pc' := 107) (L' := [.ref 1, .int (0), .int i, .int (2), .int j, .int n, .ref 34, .ref 38]) (st' := [.int 3, .ref 1]) (σ' := (mj_KS N, I, mj_PP c d r)) 2 rfl trivial ?_
                  refine R_ce (idx := 90) (mid := 91) (kind := 0) (N := N) (M' := mj_m_X5_comeTo) (As := [.ref 1, .int 3]) (rest := []) (I := I) (P := mj_PP c d r) (I' := (s_X5_comeTo 3 I).2) (P' := mj_PP c d r) (v := some (.int ((s_X5_comeTo 3 I).1))) rfl rfl rfl mj_mc91 mj_dc91 rfl rfl rfl rfl rfl rfl (x_X5_comeTo l b base D z N 3 I c d r) ?_
                  refine R_seg (φ := []) (pc' := 110) (L' := [.ref 1, .int (0), .int i, .int (2), .int j, .int n, .ref 34, .ref 38]) (st' := [.int ((s_X5_comeTo 3 I).1)]) (σ' := (mj_KS N, (s_X5_comeTo 3 I).2, mj_PP c d r)) 0 rfl trivial ?_
                  exact R_ri rfl rfl (mj_leaf (by first | (simp only [s_X5_copy, if_neg h1, if_neg h2, if_neg h3, if_neg h4, if_pos h5, if_pos h6, Bool.false_eq_true, ↓reduceIte, Nat.reduceAdd, Nat.reduceMul, mj_tn0, mj_tn1, mj_tn2, mj_tn3]; done) | contradiction) (by first | (simp only [s_X5_copy, if_neg h1, if_neg h2, if_neg h3, if_neg h4, if_pos h5, if_pos h6, Bool.false_eq_true, ↓reduceIte, Nat.reduceAdd, Nat.reduceMul, mj_tn0, mj_tn1, mj_tn2, mj_tn3]; done) | contradiction))
                · skip
                  refine R_seg (φ := []) (pc' := 87) (L' := [.ref 1, .int (0), .int i, .int (2), .int j, .int n, .ref 34, .ref 38]) (st' := [.int n, .int i, .ref 34]) (σ' := (mj_KS N, I, mj_PP c d r)) 3 rfl trivial ?_
                  refine R_ce (idx := 242) (mid := 36) (kind := 3) (N := N) (M' := mj_m_X4_hasCells) (As := [.ref 34, .int i, .int n]) (rest := []) (I := I) (P := mj_PP c d r) (I' := I) (P' := mj_PP c d r) (v := some (.int (bI (sp_hc (I 34 2) i n)))) rfl rfl rfl mj_mc36 mj_dc36 rfl rfl rfl rfl rfl rfl (x_hasCells l b base D z N 34 (by decide) i n I c d r) ?_
                  refine R_seg (φ := []) (pc' := 90) (L' := [.ref 1, .int (0), .int i, .int (2), .int j, .int n, .ref 34, .ref 38]) (st' := [.int (bI (sp_hc (I 34 2) i n))]) (σ' := (mj_KS N, I, mj_PP c d r)) 0 rfl trivial ?_
                  refine R_br (q := (bI (sp_hc (I 34 2) i n) : Int32) = 0) (t := 105) (f := 93) (rest := []) rfl (fun h7 => ?_) (fun h7 => ?_)
                  · skip
                    replace h7 := bI_0.mp h7
                    refine R_seg (φ := []) (pc' := 107) (L' := [.ref 1, .int (0), .int i, .int (2), .int j, .int n, .ref 34, .ref 38]) (st' := [.int 3, .ref 1]) (σ' := (mj_KS N, I, mj_PP c d r)) 2 rfl trivial ?_
                    refine R_ce (idx := 90) (mid := 91) (kind := 0) (N := N) (M' := mj_m_X5_comeTo) (As := [.ref 1, .int 3]) (rest := []) (I := I) (P := mj_PP c d r) (I' := (s_X5_comeTo 3 I).2) (P' := mj_PP c d r) (v := some (.int ((s_X5_comeTo 3 I).1))) rfl rfl rfl mj_mc91 mj_dc91 rfl rfl rfl rfl rfl rfl (x_X5_comeTo l b base D z N 3 I c d r) ?_
                    refine R_seg (φ := []) (pc' := 110) (L' := [.ref 1, .int (0), .int i, .int (2), .int j, .int n, .ref 34, .ref 38]) (st' := [.int ((s_X5_comeTo 3 I).1)]) (σ' := (mj_KS N, (s_X5_comeTo 3 I).2, mj_PP c d r)) 0 rfl trivial ?_
                    exact R_ri rfl rfl (mj_leaf (by first | (simp only [s_X5_copy, if_neg h1, if_neg h2, if_neg h3, if_neg h4, if_pos h5, if_neg h6, h7, Bool.false_eq_true, ↓reduceIte, Nat.reduceAdd, Nat.reduceMul, mj_tn0, mj_tn1, mj_tn2, mj_tn3]; done) | contradiction) (by first | (simp only [s_X5_copy, if_neg h1, if_neg h2, if_neg h3, if_neg h4, if_pos h5, if_neg h6, h7, Bool.false_eq_true, ↓reduceIte, Nat.reduceAdd, Nat.reduceMul, mj_tn0, mj_tn1, mj_tn2, mj_tn3]; done) | contradiction))
                  · skip
                    replace h7 := bI_1 h7
                    refine R_seg (φ := []) (pc' := 99) (L' := [.ref 1, .int (0), .int i, .int (2), .int j, .int n, .ref 34, .ref 38]) (st' := [.int n, .int j, .ref 38]) (σ' := (mj_KS N, I, mj_PP c d r)) 3 rfl trivial ?_
                    refine R_ce (idx := 242) (mid := 36) (kind := 3) (N := N) (M' := mj_m_X4_hasCells) (As := [.ref 38, .int j, .int n]) (rest := []) (I := I) (P := mj_PP c d r) (I' := I) (P' := mj_PP c d r) (v := some (.int (bI (sp_hc (I 38 2) j n)))) rfl rfl rfl mj_mc36 mj_dc36 rfl rfl rfl rfl rfl rfl (x_hasCells l b base D z N 38 (by decide) j n I c d r) ?_
                    refine R_seg (φ := []) (pc' := 102) (L' := [.ref 1, .int (0), .int i, .int (2), .int j, .int n, .ref 34, .ref 38]) (st' := [.int (bI (sp_hc (I 38 2) j n))]) (σ' := (mj_KS N, I, mj_PP c d r)) 0 rfl trivial ?_
                    refine R_br (q := (bI (sp_hc (I 38 2) j n) : Int32) = 0) (t := 105) (f := 111) (rest := []) rfl (fun h8 => ?_) (fun h8 => ?_)
                    · skip
                      replace h8 := bI_0.mp h8
                      refine R_seg (φ := []) (pc' := 107) (L' := [.ref 1, .int (0), .int i, .int (2), .int j, .int n, .ref 34, .ref 38]) (st' := [.int 3, .ref 1]) (σ' := (mj_KS N, I, mj_PP c d r)) 2 rfl trivial ?_
                      refine R_ce (idx := 90) (mid := 91) (kind := 0) (N := N) (M' := mj_m_X5_comeTo) (As := [.ref 1, .int 3]) (rest := []) (I := I) (P := mj_PP c d r) (I' := (s_X5_comeTo 3 I).2) (P' := mj_PP c d r) (v := some (.int ((s_X5_comeTo 3 I).1))) rfl rfl rfl mj_mc91 mj_dc91 rfl rfl rfl rfl rfl rfl (x_X5_comeTo l b base D z N 3 I c d r) ?_
                      refine R_seg (φ := []) (pc' := 110) (L' := [.ref 1, .int (0), .int i, .int (2), .int j, .int n, .ref 34, .ref 38]) (st' := [.int ((s_X5_comeTo 3 I).1)]) (σ' := (mj_KS N, (s_X5_comeTo 3 I).2, mj_PP c d r)) 0 rfl trivial ?_
                      exact R_ri rfl rfl (mj_leaf (by first | (simp only [s_X5_copy, if_neg h1, if_neg h2, if_neg h3, if_neg h4, if_pos h5, if_neg h6, h7, h8, Bool.false_eq_true, ↓reduceIte, Nat.reduceAdd, Nat.reduceMul, mj_tn0, mj_tn1, mj_tn2, mj_tn3]; done) | contradiction) (by first | (simp only [s_X5_copy, if_neg h1, if_neg h2, if_neg h3, if_neg h4, if_pos h5, if_neg h6, h7, h8, Bool.false_eq_true, ↓reduceIte, Nat.reduceAdd, Nat.reduceMul, mj_tn0, mj_tn1, mj_tn2, mj_tn3]; done) | contradiction))
                    · skip
                      replace h8 := bI_1 h8
                      refine R_seg (φ := [0 ≤ (i : Int32).toInt ∧ 0 ≤ (j : Int32).toInt ∧ 0 ≤ (n : Int32).toInt ∧ (i : Int32).toInt + (n : Int32).toInt ≤ ((60 : Nat) : Int) ∧ (j : Int32).toInt + (n : Int32).toInt ≤ ((60 : Nat) : Int) ∧ ((60 : Nat) : Int) < 2147483648 ∧ ((60 : Nat) : Int) < 2147483648]) (pc' := 136) (L' := [.ref 1, .int (0), .int i, .int (2), .int j, .int n, .ref 34, .ref 38]) (st' := [.int n]) (σ' := (mj_KS N, mj_cpy (mj_upI I 1 13 0) 35 39 i j n, mj_PP c d r)) 12 rfl ⟨mj_cp h6 h7 h8 (hl 0 (by decide)) (hl 2 (by decide)), trivial⟩ ?_
                      exact R_ri rfl rfl (mj_leaf (by first | (simp only [s_X5_copy, if_neg h1, if_neg h2, if_neg h3, if_neg h4, if_pos h5, if_neg h6, h7, h8, Bool.false_eq_true, ↓reduceIte, Nat.reduceAdd, Nat.reduceMul, mj_tn0, mj_tn1, mj_tn2, mj_tn3]; done) | contradiction) (by first | (simp only [s_X5_copy, if_neg h1, if_neg h2, if_neg h3, if_neg h4, if_pos h5, if_neg h6, h7, h8, Bool.false_eq_true, ↓reduceIte, Nat.reduceAdd, Nat.reduceMul, mj_tn0, mj_tn1, mj_tn2, mj_tn3]; done) | contradiction))
              · skip
                refine R_seg (φ := []) (pc' := 73) (L' := [.ref 1, .int (0), .int i, .int (2), .int j, .int n, .ref 34, .ref 38]) (st' := [.int 2, .ref 1]) (σ' := (mj_KS N, I, mj_PP c d r)) 2 rfl trivial ?_
                refine R_ce (idx := 90) (mid := 91) (kind := 0) (N := N) (M' := mj_m_X5_comeTo) (As := [.ref 1, .int 2]) (rest := []) (I := I) (P := mj_PP c d r) (I' := (s_X5_comeTo 2 I).2) (P' := mj_PP c d r) (v := some (.int ((s_X5_comeTo 2 I).1))) rfl rfl rfl mj_mc91 mj_dc91 rfl rfl rfl rfl rfl rfl (x_X5_comeTo l b base D z N 2 I c d r) ?_
                refine R_seg (φ := []) (pc' := 76) (L' := [.ref 1, .int (0), .int i, .int (2), .int j, .int n, .ref 34, .ref 38]) (st' := [.int ((s_X5_comeTo 2 I).1)]) (σ' := (mj_KS N, (s_X5_comeTo 2 I).2, mj_PP c d r)) 0 rfl trivial ?_
                exact R_ri rfl rfl (mj_leaf (by first | (simp only [s_X5_copy, if_neg h1, if_neg h2, if_neg h3, if_neg h4, if_neg h5, Bool.false_eq_true, ↓reduceIte, Nat.reduceAdd, Nat.reduceMul, mj_tn0, mj_tn1, mj_tn2, mj_tn3]; done) | contradiction) (by first | (simp only [s_X5_copy, if_neg h1, if_neg h2, if_neg h3, if_neg h4, if_neg h5, Bool.false_eq_true, ↓reduceIte, Nat.reduceAdd, Nat.reduceMul, mj_tn0, mj_tn1, mj_tn2, mj_tn3]; done) | contradiction))
        · skip
          refine R_seg (φ := [mj_in (0) 4, mj_in (3) 4]) (pc' := 41) (L' := [.ref 1, .int (0), .int i, .int (3), .int j, .int n, .ref 34, .ref 40]) (st' := [.int (I 34 0)]) (σ' := (mj_KS N, I, mj_PP c d r)) 11 rfl ⟨mj_in_d (by decide), mj_in_d (by decide), trivial⟩ ?_
          refine R_br (q := (I 34 0 : Int32) = 0) (t := 52) (f := 44) (rest := []) rfl (fun h3 => ?_) (fun h3 => ?_)
          · skip
            refine R_seg (φ := []) (pc' := 54) (L' := [.ref 1, .int (0), .int i, .int (3), .int j, .int n, .ref 34, .ref 40]) (st' := [.int 1, .ref 1]) (σ' := (mj_KS N, I, mj_PP c d r)) 2 rfl trivial ?_
            refine R_ce (idx := 90) (mid := 91) (kind := 0) (N := N) (M' := mj_m_X5_comeTo) (As := [.ref 1, .int 1]) (rest := []) (I := I) (P := mj_PP c d r) (I' := (s_X5_comeTo 1 I).2) (P' := mj_PP c d r) (v := some (.int ((s_X5_comeTo 1 I).1))) rfl rfl rfl mj_mc91 mj_dc91 rfl rfl rfl rfl rfl rfl (x_X5_comeTo l b base D z N 1 I c d r) ?_
            refine R_seg (φ := []) (pc' := 57) (L' := [.ref 1, .int (0), .int i, .int (3), .int j, .int n, .ref 34, .ref 40]) (st' := [.int ((s_X5_comeTo 1 I).1)]) (σ' := (mj_KS N, (s_X5_comeTo 1 I).2, mj_PP c d r)) 0 rfl trivial ?_
            exact R_ri rfl rfl (mj_leaf (by first | (simp only [s_X5_copy, if_neg h1, if_neg h2, if_pos h3, Bool.false_eq_true, ↓reduceIte, Nat.reduceAdd, Nat.reduceMul, mj_tn0, mj_tn1, mj_tn2, mj_tn3]; done) | contradiction) (by first | (simp only [s_X5_copy, if_neg h1, if_neg h2, if_pos h3, Bool.false_eq_true, ↓reduceIte, Nat.reduceAdd, Nat.reduceMul, mj_tn0, mj_tn1, mj_tn2, mj_tn3]; done) | contradiction))
          · skip
            refine R_seg (φ := []) (pc' := 49) (L' := [.ref 1, .int (0), .int i, .int (3), .int j, .int n, .ref 34, .ref 40]) (st' := [.int (I 40 0)]) (σ' := (mj_KS N, I, mj_PP c d r)) 2 rfl trivial ?_
            refine R_br (q := (I 40 0 : Int32) = 0) (t := 52) (f := 58) (rest := []) rfl (fun h4 => ?_) (fun h4 => ?_)
            · skip
              refine R_seg (φ := []) (pc' := 54) (L' := [.ref 1, .int (0), .int i, .int (3), .int j, .int n, .ref 34, .ref 40]) (st' := [.int 1, .ref 1]) (σ' := (mj_KS N, I, mj_PP c d r)) 2 rfl trivial ?_
              refine R_ce (idx := 90) (mid := 91) (kind := 0) (N := N) (M' := mj_m_X5_comeTo) (As := [.ref 1, .int 1]) (rest := []) (I := I) (P := mj_PP c d r) (I' := (s_X5_comeTo 1 I).2) (P' := mj_PP c d r) (v := some (.int ((s_X5_comeTo 1 I).1))) rfl rfl rfl mj_mc91 mj_dc91 rfl rfl rfl rfl rfl rfl (x_X5_comeTo l b base D z N 1 I c d r) ?_
              refine R_seg (φ := []) (pc' := 57) (L' := [.ref 1, .int (0), .int i, .int (3), .int j, .int n, .ref 34, .ref 40]) (st' := [.int ((s_X5_comeTo 1 I).1)]) (σ' := (mj_KS N, (s_X5_comeTo 1 I).2, mj_PP c d r)) 0 rfl trivial ?_
              exact R_ri rfl rfl (mj_leaf (by first | (simp only [s_X5_copy, if_neg h1, if_neg h2, if_neg h3, if_pos h4, Bool.false_eq_true, ↓reduceIte, Nat.reduceAdd, Nat.reduceMul, mj_tn0, mj_tn1, mj_tn2, mj_tn3]; done) | contradiction) (by first | (simp only [s_X5_copy, if_neg h1, if_neg h2, if_neg h3, if_pos h4, Bool.false_eq_true, ↓reduceIte, Nat.reduceAdd, Nat.reduceMul, mj_tn0, mj_tn1, mj_tn2, mj_tn3]; done) | contradiction))
            · skip
              refine R_seg (φ := []) (pc' := 68) (L' := [.ref 1, .int (0), .int i, .int (3), .int j, .int n, .ref 34, .ref 40]) (st' := [.int (I 40 1), .int (I 34 1)]) (σ' := (mj_KS N, I, mj_PP c d r)) 4 rfl trivial ?_
              refine R_br (q := (I 34 1 : Int32) = I 40 1) (t := 77) (f := 71) (rest := []) rfl (fun h5 => ?_) (fun h5 => ?_)
              · skip
                refine R_seg (φ := []) (pc' := 79) (L' := [.ref 1, .int (0), .int i, .int (3), .int j, .int n, .ref 34, .ref 40]) (st' := [.int n]) (σ' := (mj_KS N, I, mj_PP c d r)) 1 rfl trivial ?_
                refine R_br (q := (n : Int32) < 0) (t := 105) (f := 82) (rest := []) rfl (fun h6 => ?_) (fun h6 => ?_)
                · skip
                  refine R_seg (φ := []) (pc' := 107) (L' := [.ref 1, .int (0), .int i, .int (3), .int j, .int n, .ref 34, .ref 40]) (st' := [.int 3, .ref 1]) (σ' := (mj_KS N, I, mj_PP c d r)) 2 rfl trivial ?_
                  refine R_ce (idx := 90) (mid := 91) (kind := 0) (N := N) (M' := mj_m_X5_comeTo) (As := [.ref 1, .int 3]) (rest := []) (I := I) (P := mj_PP c d r) (I' := (s_X5_comeTo 3 I).2) (P' := mj_PP c d r) (v := some (.int ((s_X5_comeTo 3 I).1))) rfl rfl rfl mj_mc91 mj_dc91 rfl rfl rfl rfl rfl rfl (x_X5_comeTo l b base D z N 3 I c d r) ?_
                  refine R_seg (φ := []) (pc' := 110) (L' := [.ref 1, .int (0), .int i, .int (3), .int j, .int n, .ref 34, .ref 40]) (st' := [.int ((s_X5_comeTo 3 I).1)]) (σ' := (mj_KS N, (s_X5_comeTo 3 I).2, mj_PP c d r)) 0 rfl trivial ?_
                  exact R_ri rfl rfl (mj_leaf (by first | (simp only [s_X5_copy, if_neg h1, if_neg h2, if_neg h3, if_neg h4, if_pos h5, if_pos h6, Bool.false_eq_true, ↓reduceIte, Nat.reduceAdd, Nat.reduceMul, mj_tn0, mj_tn1, mj_tn2, mj_tn3]; done) | contradiction) (by first | (simp only [s_X5_copy, if_neg h1, if_neg h2, if_neg h3, if_neg h4, if_pos h5, if_pos h6, Bool.false_eq_true, ↓reduceIte, Nat.reduceAdd, Nat.reduceMul, mj_tn0, mj_tn1, mj_tn2, mj_tn3]; done) | contradiction))
                · skip
                  refine R_seg (φ := []) (pc' := 87) (L' := [.ref 1, .int (0), .int i, .int (3), .int j, .int n, .ref 34, .ref 40]) (st' := [.int n, .int i, .ref 34]) (σ' := (mj_KS N, I, mj_PP c d r)) 3 rfl trivial ?_
                  refine R_ce (idx := 242) (mid := 36) (kind := 3) (N := N) (M' := mj_m_X4_hasCells) (As := [.ref 34, .int i, .int n]) (rest := []) (I := I) (P := mj_PP c d r) (I' := I) (P' := mj_PP c d r) (v := some (.int (bI (sp_hc (I 34 2) i n)))) rfl rfl rfl mj_mc36 mj_dc36 rfl rfl rfl rfl rfl rfl (x_hasCells l b base D z N 34 (by decide) i n I c d r) ?_
                  refine R_seg (φ := []) (pc' := 90) (L' := [.ref 1, .int (0), .int i, .int (3), .int j, .int n, .ref 34, .ref 40]) (st' := [.int (bI (sp_hc (I 34 2) i n))]) (σ' := (mj_KS N, I, mj_PP c d r)) 0 rfl trivial ?_
                  refine R_br (q := (bI (sp_hc (I 34 2) i n) : Int32) = 0) (t := 105) (f := 93) (rest := []) rfl (fun h7 => ?_) (fun h7 => ?_)
                  · skip
                    replace h7 := bI_0.mp h7
                    refine R_seg (φ := []) (pc' := 107) (L' := [.ref 1, .int (0), .int i, .int (3), .int j, .int n, .ref 34, .ref 40]) (st' := [.int 3, .ref 1]) (σ' := (mj_KS N, I, mj_PP c d r)) 2 rfl trivial ?_
                    refine R_ce (idx := 90) (mid := 91) (kind := 0) (N := N) (M' := mj_m_X5_comeTo) (As := [.ref 1, .int 3]) (rest := []) (I := I) (P := mj_PP c d r) (I' := (s_X5_comeTo 3 I).2) (P' := mj_PP c d r) (v := some (.int ((s_X5_comeTo 3 I).1))) rfl rfl rfl mj_mc91 mj_dc91 rfl rfl rfl rfl rfl rfl (x_X5_comeTo l b base D z N 3 I c d r) ?_
                    refine R_seg (φ := []) (pc' := 110) (L' := [.ref 1, .int (0), .int i, .int (3), .int j, .int n, .ref 34, .ref 40]) (st' := [.int ((s_X5_comeTo 3 I).1)]) (σ' := (mj_KS N, (s_X5_comeTo 3 I).2, mj_PP c d r)) 0 rfl trivial ?_
                    exact R_ri rfl rfl (mj_leaf (by first | (simp only [s_X5_copy, if_neg h1, if_neg h2, if_neg h3, if_neg h4, if_pos h5, if_neg h6, h7, Bool.false_eq_true, ↓reduceIte, Nat.reduceAdd, Nat.reduceMul, mj_tn0, mj_tn1, mj_tn2, mj_tn3]; done) | contradiction) (by first | (simp only [s_X5_copy, if_neg h1, if_neg h2, if_neg h3, if_neg h4, if_pos h5, if_neg h6, h7, Bool.false_eq_true, ↓reduceIte, Nat.reduceAdd, Nat.reduceMul, mj_tn0, mj_tn1, mj_tn2, mj_tn3]; done) | contradiction))
                  · skip
                    replace h7 := bI_1 h7
                    refine R_seg (φ := []) (pc' := 99) (L' := [.ref 1, .int (0), .int i, .int (3), .int j, .int n, .ref 34, .ref 40]) (st' := [.int n, .int j, .ref 40]) (σ' := (mj_KS N, I, mj_PP c d r)) 3 rfl trivial ?_
                    refine R_ce (idx := 242) (mid := 36) (kind := 3) (N := N) (M' := mj_m_X4_hasCells) (As := [.ref 40, .int j, .int n]) (rest := []) (I := I) (P := mj_PP c d r) (I' := I) (P' := mj_PP c d r) (v := some (.int (bI (sp_hc (I 40 2) j n)))) rfl rfl rfl mj_mc36 mj_dc36 rfl rfl rfl rfl rfl rfl (x_hasCells l b base D z N 40 (by decide) j n I c d r) ?_
                    refine R_seg (φ := []) (pc' := 102) (L' := [.ref 1, .int (0), .int i, .int (3), .int j, .int n, .ref 34, .ref 40]) (st' := [.int (bI (sp_hc (I 40 2) j n))]) (σ' := (mj_KS N, I, mj_PP c d r)) 0 rfl trivial ?_
                    refine R_br (q := (bI (sp_hc (I 40 2) j n) : Int32) = 0) (t := 105) (f := 111) (rest := []) rfl (fun h8 => ?_) (fun h8 => ?_)
                    · skip
                      replace h8 := bI_0.mp h8
                      refine R_seg (φ := []) (pc' := 107) (L' := [.ref 1, .int (0), .int i, .int (3), .int j, .int n, .ref 34, .ref 40]) (st' := [.int 3, .ref 1]) (σ' := (mj_KS N, I, mj_PP c d r)) 2 rfl trivial ?_
                      refine R_ce (idx := 90) (mid := 91) (kind := 0) (N := N) (M' := mj_m_X5_comeTo) (As := [.ref 1, .int 3]) (rest := []) (I := I) (P := mj_PP c d r) (I' := (s_X5_comeTo 3 I).2) (P' := mj_PP c d r) (v := some (.int ((s_X5_comeTo 3 I).1))) rfl rfl rfl mj_mc91 mj_dc91 rfl rfl rfl rfl rfl rfl (x_X5_comeTo l b base D z N 3 I c d r) ?_
                      refine R_seg (φ := []) (pc' := 110) (L' := [.ref 1, .int (0), .int i, .int (3), .int j, .int n, .ref 34, .ref 40]) (st' := [.int ((s_X5_comeTo 3 I).1)]) (σ' := (mj_KS N, (s_X5_comeTo 3 I).2, mj_PP c d r)) 0 rfl trivial ?_
                      exact R_ri rfl rfl (mj_leaf (by first | (simp only [s_X5_copy, if_neg h1, if_neg h2, if_neg h3, if_neg h4, if_pos h5, if_neg h6, h7, h8, Bool.false_eq_true, ↓reduceIte, Nat.reduceAdd, Nat.reduceMul, mj_tn0, mj_tn1, mj_tn2, mj_tn3]; done) | contradiction) (by first | (simp only [s_X5_copy, if_neg h1, if_neg h2, if_neg h3, if_neg h4, if_pos h5, if_neg h6, h7, h8, Bool.false_eq_true, ↓reduceIte, Nat.reduceAdd, Nat.reduceMul, mj_tn0, mj_tn1, mj_tn2, mj_tn3]; done) | contradiction))
                    · skip
                      replace h8 := bI_1 h8
                      refine R_seg (φ := [0 ≤ (i : Int32).toInt ∧ 0 ≤ (j : Int32).toInt ∧ 0 ≤ (n : Int32).toInt ∧ (i : Int32).toInt + (n : Int32).toInt ≤ ((60 : Nat) : Int) ∧ (j : Int32).toInt + (n : Int32).toInt ≤ ((60 : Nat) : Int) ∧ ((60 : Nat) : Int) < 2147483648 ∧ ((60 : Nat) : Int) < 2147483648]) (pc' := 136) (L' := [.ref 1, .int (0), .int i, .int (3), .int j, .int n, .ref 34, .ref 40]) (st' := [.int n]) (σ' := (mj_KS N, mj_cpy (mj_upI I 1 13 0) 35 41 i j n, mj_PP c d r)) 12 rfl ⟨mj_cp h6 h7 h8 (hl 0 (by decide)) (hl 3 (by decide)), trivial⟩ ?_
                      exact R_ri rfl rfl (mj_leaf (by first | (simp only [s_X5_copy, if_neg h1, if_neg h2, if_neg h3, if_neg h4, if_pos h5, if_neg h6, h7, h8, Bool.false_eq_true, ↓reduceIte, Nat.reduceAdd, Nat.reduceMul, mj_tn0, mj_tn1, mj_tn2, mj_tn3]; done) | contradiction) (by first | (simp only [s_X5_copy, if_neg h1, if_neg h2, if_neg h3, if_neg h4, if_pos h5, if_neg h6, h7, h8, Bool.false_eq_true, ↓reduceIte, Nat.reduceAdd, Nat.reduceMul, mj_tn0, mj_tn1, mj_tn2, mj_tn3]; done) | contradiction))
              · skip
                refine R_seg (φ := []) (pc' := 73) (L' := [.ref 1, .int (0), .int i, .int (3), .int j, .int n, .ref 34, .ref 40]) (st' := [.int 2, .ref 1]) (σ' := (mj_KS N, I, mj_PP c d r)) 2 rfl trivial ?_
                refine R_ce (idx := 90) (mid := 91) (kind := 0) (N := N) (M' := mj_m_X5_comeTo) (As := [.ref 1, .int 2]) (rest := []) (I := I) (P := mj_PP c d r) (I' := (s_X5_comeTo 2 I).2) (P' := mj_PP c d r) (v := some (.int ((s_X5_comeTo 2 I).1))) rfl rfl rfl mj_mc91 mj_dc91 rfl rfl rfl rfl rfl rfl (x_X5_comeTo l b base D z N 2 I c d r) ?_
                refine R_seg (φ := []) (pc' := 76) (L' := [.ref 1, .int (0), .int i, .int (3), .int j, .int n, .ref 34, .ref 40]) (st' := [.int ((s_X5_comeTo 2 I).1)]) (σ' := (mj_KS N, (s_X5_comeTo 2 I).2, mj_PP c d r)) 0 rfl trivial ?_
                exact R_ri rfl rfl (mj_leaf (by first | (simp only [s_X5_copy, if_neg h1, if_neg h2, if_neg h3, if_neg h4, if_neg h5, Bool.false_eq_true, ↓reduceIte, Nat.reduceAdd, Nat.reduceMul, mj_tn0, mj_tn1, mj_tn2, mj_tn3]; done) | contradiction) (by first | (simp only [s_X5_copy, if_neg h1, if_neg h2, if_neg h3, if_neg h4, if_neg h5, Bool.false_eq_true, ↓reduceIte, Nat.reduceAdd, Nat.reduceMul, mj_tn0, mj_tn1, mj_tn2, mj_tn3]; done) | contradiction))
      · skip
        refine R_seg (φ := []) (pc' := 21) (L' := [.ref 1, .int (1), .int i, .int v, .int j, .int n, mj_mk, mj_mk]) (st' := [.ref 1]) (σ' := (mj_KS N, I, mj_PP c d r)) 1 rfl trivial ?_
        rcases mj_sh4 h2 with rfl | rfl | rfl | rfl
        · skip
          refine R_seg (φ := [mj_in (1) 4, mj_in (0) 4]) (pc' := 41) (L' := [.ref 1, .int (1), .int i, .int (0), .int j, .int n, .ref 36, .ref 34]) (st' := [.int (I 36 0)]) (σ' := (mj_KS N, I, mj_PP c d r)) 11 rfl ⟨mj_in_d (by decide), mj_in_d (by decide), trivial⟩ ?_
          refine R_br (q := (I 36 0 : Int32) = 0) (t := 52) (f := 44) (rest := []) rfl (fun h3 => ?_) (fun h3 => ?_)
          · skip
            refine R_seg (φ := []) (pc' := 54) (L' := [.ref 1, .int (1), .int i, .int (0), .int j, .int n, .ref 36, .ref 34]) (st' := [.int 1, .ref 1]) (σ' := (mj_KS N, I, mj_PP c d r)) 2 rfl trivial ?_
            refine R_ce (idx := 90) (mid := 91) (kind := 0) (N := N) (M' := mj_m_X5_comeTo) (As := [.ref 1, .int 1]) (rest := []) (I := I) (P := mj_PP c d r) (I' := (s_X5_comeTo 1 I).2) (P' := mj_PP c d r) (v := some (.int ((s_X5_comeTo 1 I).1))) rfl rfl rfl mj_mc91 mj_dc91 rfl rfl rfl rfl rfl rfl (x_X5_comeTo l b base D z N 1 I c d r) ?_
            refine R_seg (φ := []) (pc' := 57) (L' := [.ref 1, .int (1), .int i, .int (0), .int j, .int n, .ref 36, .ref 34]) (st' := [.int ((s_X5_comeTo 1 I).1)]) (σ' := (mj_KS N, (s_X5_comeTo 1 I).2, mj_PP c d r)) 0 rfl trivial ?_
            exact R_ri rfl rfl (mj_leaf (by first | (simp only [s_X5_copy, if_neg h1, if_neg h2, if_pos h3, Bool.false_eq_true, ↓reduceIte, Nat.reduceAdd, Nat.reduceMul, mj_tn0, mj_tn1, mj_tn2, mj_tn3]; done) | contradiction) (by first | (simp only [s_X5_copy, if_neg h1, if_neg h2, if_pos h3, Bool.false_eq_true, ↓reduceIte, Nat.reduceAdd, Nat.reduceMul, mj_tn0, mj_tn1, mj_tn2, mj_tn3]; done) | contradiction))
          · skip
            refine R_seg (φ := []) (pc' := 49) (L' := [.ref 1, .int (1), .int i, .int (0), .int j, .int n, .ref 36, .ref 34]) (st' := [.int (I 34 0)]) (σ' := (mj_KS N, I, mj_PP c d r)) 2 rfl trivial ?_
            refine R_br (q := (I 34 0 : Int32) = 0) (t := 52) (f := 58) (rest := []) rfl (fun h4 => ?_) (fun h4 => ?_)
            · skip
              refine R_seg (φ := []) (pc' := 54) (L' := [.ref 1, .int (1), .int i, .int (0), .int j, .int n, .ref 36, .ref 34]) (st' := [.int 1, .ref 1]) (σ' := (mj_KS N, I, mj_PP c d r)) 2 rfl trivial ?_
              refine R_ce (idx := 90) (mid := 91) (kind := 0) (N := N) (M' := mj_m_X5_comeTo) (As := [.ref 1, .int 1]) (rest := []) (I := I) (P := mj_PP c d r) (I' := (s_X5_comeTo 1 I).2) (P' := mj_PP c d r) (v := some (.int ((s_X5_comeTo 1 I).1))) rfl rfl rfl mj_mc91 mj_dc91 rfl rfl rfl rfl rfl rfl (x_X5_comeTo l b base D z N 1 I c d r) ?_
              refine R_seg (φ := []) (pc' := 57) (L' := [.ref 1, .int (1), .int i, .int (0), .int j, .int n, .ref 36, .ref 34]) (st' := [.int ((s_X5_comeTo 1 I).1)]) (σ' := (mj_KS N, (s_X5_comeTo 1 I).2, mj_PP c d r)) 0 rfl trivial ?_
              exact R_ri rfl rfl (mj_leaf (by first | (simp only [s_X5_copy, if_neg h1, if_neg h2, if_neg h3, if_pos h4, Bool.false_eq_true, ↓reduceIte, Nat.reduceAdd, Nat.reduceMul, mj_tn0, mj_tn1, mj_tn2, mj_tn3]; done) | contradiction) (by first | (simp only [s_X5_copy, if_neg h1, if_neg h2, if_neg h3, if_pos h4, Bool.false_eq_true, ↓reduceIte, Nat.reduceAdd, Nat.reduceMul, mj_tn0, mj_tn1, mj_tn2, mj_tn3]; done) | contradiction))
            · skip
              refine R_seg (φ := []) (pc' := 68) (L' := [.ref 1, .int (1), .int i, .int (0), .int j, .int n, .ref 36, .ref 34]) (st' := [.int (I 34 1), .int (I 36 1)]) (σ' := (mj_KS N, I, mj_PP c d r)) 4 rfl trivial ?_
              refine R_br (q := (I 36 1 : Int32) = I 34 1) (t := 77) (f := 71) (rest := []) rfl (fun h5 => ?_) (fun h5 => ?_)
              · skip
                refine R_seg (φ := []) (pc' := 79) (L' := [.ref 1, .int (1), .int i, .int (0), .int j, .int n, .ref 36, .ref 34]) (st' := [.int n]) (σ' := (mj_KS N, I, mj_PP c d r)) 1 rfl trivial ?_
                refine R_br (q := (n : Int32) < 0) (t := 105) (f := 82) (rest := []) rfl (fun h6 => ?_) (fun h6 => ?_)
                · skip
                  refine R_seg (φ := []) (pc' := 107) (L' := [.ref 1, .int (1), .int i, .int (0), .int j, .int n, .ref 36, .ref 34]) (st' := [.int 3, .ref 1]) (σ' := (mj_KS N, I, mj_PP c d r)) 2 rfl trivial ?_
                  refine R_ce (idx := 90) (mid := 91) (kind := 0) (N := N) (M' := mj_m_X5_comeTo) (As := [.ref 1, .int 3]) (rest := []) (I := I) (P := mj_PP c d r) (I' := (s_X5_comeTo 3 I).2) (P' := mj_PP c d r) (v := some (.int ((s_X5_comeTo 3 I).1))) rfl rfl rfl mj_mc91 mj_dc91 rfl rfl rfl rfl rfl rfl (x_X5_comeTo l b base D z N 3 I c d r) ?_
                  refine R_seg (φ := []) (pc' := 110) (L' := [.ref 1, .int (1), .int i, .int (0), .int j, .int n, .ref 36, .ref 34]) (st' := [.int ((s_X5_comeTo 3 I).1)]) (σ' := (mj_KS N, (s_X5_comeTo 3 I).2, mj_PP c d r)) 0 rfl trivial ?_
                  exact R_ri rfl rfl (mj_leaf (by first | (simp only [s_X5_copy, if_neg h1, if_neg h2, if_neg h3, if_neg h4, if_pos h5, if_pos h6, Bool.false_eq_true, ↓reduceIte, Nat.reduceAdd, Nat.reduceMul, mj_tn0, mj_tn1, mj_tn2, mj_tn3]; done) | contradiction) (by first | (simp only [s_X5_copy, if_neg h1, if_neg h2, if_neg h3, if_neg h4, if_pos h5, if_pos h6, Bool.false_eq_true, ↓reduceIte, Nat.reduceAdd, Nat.reduceMul, mj_tn0, mj_tn1, mj_tn2, mj_tn3]; done) | contradiction))
                · skip
                  refine R_seg (φ := []) (pc' := 87) (L' := [.ref 1, .int (1), .int i, .int (0), .int j, .int n, .ref 36, .ref 34]) (st' := [.int n, .int i, .ref 36]) (σ' := (mj_KS N, I, mj_PP c d r)) 3 rfl trivial ?_
                  refine R_ce (idx := 242) (mid := 36) (kind := 3) (N := N) (M' := mj_m_X4_hasCells) (As := [.ref 36, .int i, .int n]) (rest := []) (I := I) (P := mj_PP c d r) (I' := I) (P' := mj_PP c d r) (v := some (.int (bI (sp_hc (I 36 2) i n)))) rfl rfl rfl mj_mc36 mj_dc36 rfl rfl rfl rfl rfl rfl (x_hasCells l b base D z N 36 (by decide) i n I c d r) ?_
                  refine R_seg (φ := []) (pc' := 90) (L' := [.ref 1, .int (1), .int i, .int (0), .int j, .int n, .ref 36, .ref 34]) (st' := [.int (bI (sp_hc (I 36 2) i n))]) (σ' := (mj_KS N, I, mj_PP c d r)) 0 rfl trivial ?_
                  refine R_br (q := (bI (sp_hc (I 36 2) i n) : Int32) = 0) (t := 105) (f := 93) (rest := []) rfl (fun h7 => ?_) (fun h7 => ?_)
                  · skip
                    replace h7 := bI_0.mp h7
                    refine R_seg (φ := []) (pc' := 107) (L' := [.ref 1, .int (1), .int i, .int (0), .int j, .int n, .ref 36, .ref 34]) (st' := [.int 3, .ref 1]) (σ' := (mj_KS N, I, mj_PP c d r)) 2 rfl trivial ?_
                    refine R_ce (idx := 90) (mid := 91) (kind := 0) (N := N) (M' := mj_m_X5_comeTo) (As := [.ref 1, .int 3]) (rest := []) (I := I) (P := mj_PP c d r) (I' := (s_X5_comeTo 3 I).2) (P' := mj_PP c d r) (v := some (.int ((s_X5_comeTo 3 I).1))) rfl rfl rfl mj_mc91 mj_dc91 rfl rfl rfl rfl rfl rfl (x_X5_comeTo l b base D z N 3 I c d r) ?_
                    refine R_seg (φ := []) (pc' := 110) (L' := [.ref 1, .int (1), .int i, .int (0), .int j, .int n, .ref 36, .ref 34]) (st' := [.int ((s_X5_comeTo 3 I).1)]) (σ' := (mj_KS N, (s_X5_comeTo 3 I).2, mj_PP c d r)) 0 rfl trivial ?_
                    exact R_ri rfl rfl (mj_leaf (by first | (simp only [s_X5_copy, if_neg h1, if_neg h2, if_neg h3, if_neg h4, if_pos h5, if_neg h6, h7, Bool.false_eq_true, ↓reduceIte, Nat.reduceAdd, Nat.reduceMul, mj_tn0, mj_tn1, mj_tn2, mj_tn3]; done) | contradiction) (by first | (simp only [s_X5_copy, if_neg h1, if_neg h2, if_neg h3, if_neg h4, if_pos h5, if_neg h6, h7, Bool.false_eq_true, ↓reduceIte, Nat.reduceAdd, Nat.reduceMul, mj_tn0, mj_tn1, mj_tn2, mj_tn3]; done) | contradiction))
                  · skip
                    replace h7 := bI_1 h7
                    refine R_seg (φ := []) (pc' := 99) (L' := [.ref 1, .int (1), .int i, .int (0), .int j, .int n, .ref 36, .ref 34]) (st' := [.int n, .int j, .ref 34]) (σ' := (mj_KS N, I, mj_PP c d r)) 3 rfl trivial ?_
                    refine R_ce (idx := 242) (mid := 36) (kind := 3) (N := N) (M' := mj_m_X4_hasCells) (As := [.ref 34, .int j, .int n]) (rest := []) (I := I) (P := mj_PP c d r) (I' := I) (P' := mj_PP c d r) (v := some (.int (bI (sp_hc (I 34 2) j n)))) rfl rfl rfl mj_mc36 mj_dc36 rfl rfl rfl rfl rfl rfl (x_hasCells l b base D z N 34 (by decide) j n I c d r) ?_
                    refine R_seg (φ := []) (pc' := 102) (L' := [.ref 1, .int (1), .int i, .int (0), .int j, .int n, .ref 36, .ref 34]) (st' := [.int (bI (sp_hc (I 34 2) j n))]) (σ' := (mj_KS N, I, mj_PP c d r)) 0 rfl trivial ?_
                    refine R_br (q := (bI (sp_hc (I 34 2) j n) : Int32) = 0) (t := 105) (f := 111) (rest := []) rfl (fun h8 => ?_) (fun h8 => ?_)
                    · skip
                      replace h8 := bI_0.mp h8
                      refine R_seg (φ := []) (pc' := 107) (L' := [.ref 1, .int (1), .int i, .int (0), .int j, .int n, .ref 36, .ref 34]) (st' := [.int 3, .ref 1]) (σ' := (mj_KS N, I, mj_PP c d r)) 2 rfl trivial ?_
                      refine R_ce (idx := 90) (mid := 91) (kind := 0) (N := N) (M' := mj_m_X5_comeTo) (As := [.ref 1, .int 3]) (rest := []) (I := I) (P := mj_PP c d r) (I' := (s_X5_comeTo 3 I).2) (P' := mj_PP c d r) (v := some (.int ((s_X5_comeTo 3 I).1))) rfl rfl rfl mj_mc91 mj_dc91 rfl rfl rfl rfl rfl rfl (x_X5_comeTo l b base D z N 3 I c d r) ?_
                      refine R_seg (φ := []) (pc' := 110) (L' := [.ref 1, .int (1), .int i, .int (0), .int j, .int n, .ref 36, .ref 34]) (st' := [.int ((s_X5_comeTo 3 I).1)]) (σ' := (mj_KS N, (s_X5_comeTo 3 I).2, mj_PP c d r)) 0 rfl trivial ?_
                      exact R_ri rfl rfl (mj_leaf (by first | (simp only [s_X5_copy, if_neg h1, if_neg h2, if_neg h3, if_neg h4, if_pos h5, if_neg h6, h7, h8, Bool.false_eq_true, ↓reduceIte, Nat.reduceAdd, Nat.reduceMul, mj_tn0, mj_tn1, mj_tn2, mj_tn3]; done) | contradiction) (by first | (simp only [s_X5_copy, if_neg h1, if_neg h2, if_neg h3, if_neg h4, if_pos h5, if_neg h6, h7, h8, Bool.false_eq_true, ↓reduceIte, Nat.reduceAdd, Nat.reduceMul, mj_tn0, mj_tn1, mj_tn2, mj_tn3]; done) | contradiction))
                    · skip
                      replace h8 := bI_1 h8
                      refine R_seg (φ := [0 ≤ (i : Int32).toInt ∧ 0 ≤ (j : Int32).toInt ∧ 0 ≤ (n : Int32).toInt ∧ (i : Int32).toInt + (n : Int32).toInt ≤ ((60 : Nat) : Int) ∧ (j : Int32).toInt + (n : Int32).toInt ≤ ((60 : Nat) : Int) ∧ ((60 : Nat) : Int) < 2147483648 ∧ ((60 : Nat) : Int) < 2147483648]) (pc' := 136) (L' := [.ref 1, .int (1), .int i, .int (0), .int j, .int n, .ref 36, .ref 34]) (st' := [.int n]) (σ' := (mj_KS N, mj_cpy (mj_upI I 1 13 0) 37 35 i j n, mj_PP c d r)) 12 rfl ⟨mj_cp h6 h7 h8 (hl 1 (by decide)) (hl 0 (by decide)), trivial⟩ ?_
                      exact R_ri rfl rfl (mj_leaf (by first | (simp only [s_X5_copy, if_neg h1, if_neg h2, if_neg h3, if_neg h4, if_pos h5, if_neg h6, h7, h8, Bool.false_eq_true, ↓reduceIte, Nat.reduceAdd, Nat.reduceMul, mj_tn0, mj_tn1, mj_tn2, mj_tn3]; done) | contradiction) (by first | (simp only [s_X5_copy, if_neg h1, if_neg h2, if_neg h3, if_neg h4, if_pos h5, if_neg h6, h7, h8, Bool.false_eq_true, ↓reduceIte, Nat.reduceAdd, Nat.reduceMul, mj_tn0, mj_tn1, mj_tn2, mj_tn3]; done) | contradiction))
              · skip
                refine R_seg (φ := []) (pc' := 73) (L' := [.ref 1, .int (1), .int i, .int (0), .int j, .int n, .ref 36, .ref 34]) (st' := [.int 2, .ref 1]) (σ' := (mj_KS N, I, mj_PP c d r)) 2 rfl trivial ?_
                refine R_ce (idx := 90) (mid := 91) (kind := 0) (N := N) (M' := mj_m_X5_comeTo) (As := [.ref 1, .int 2]) (rest := []) (I := I) (P := mj_PP c d r) (I' := (s_X5_comeTo 2 I).2) (P' := mj_PP c d r) (v := some (.int ((s_X5_comeTo 2 I).1))) rfl rfl rfl mj_mc91 mj_dc91 rfl rfl rfl rfl rfl rfl (x_X5_comeTo l b base D z N 2 I c d r) ?_
                refine R_seg (φ := []) (pc' := 76) (L' := [.ref 1, .int (1), .int i, .int (0), .int j, .int n, .ref 36, .ref 34]) (st' := [.int ((s_X5_comeTo 2 I).1)]) (σ' := (mj_KS N, (s_X5_comeTo 2 I).2, mj_PP c d r)) 0 rfl trivial ?_
                exact R_ri rfl rfl (mj_leaf (by first | (simp only [s_X5_copy, if_neg h1, if_neg h2, if_neg h3, if_neg h4, if_neg h5, Bool.false_eq_true, ↓reduceIte, Nat.reduceAdd, Nat.reduceMul, mj_tn0, mj_tn1, mj_tn2, mj_tn3]; done) | contradiction) (by first | (simp only [s_X5_copy, if_neg h1, if_neg h2, if_neg h3, if_neg h4, if_neg h5, Bool.false_eq_true, ↓reduceIte, Nat.reduceAdd, Nat.reduceMul, mj_tn0, mj_tn1, mj_tn2, mj_tn3]; done) | contradiction))
        · skip
          refine R_seg (φ := [mj_in (1) 4, mj_in (1) 4]) (pc' := 41) (L' := [.ref 1, .int (1), .int i, .int (1), .int j, .int n, .ref 36, .ref 36]) (st' := [.int (I 36 0)]) (σ' := (mj_KS N, I, mj_PP c d r)) 11 rfl ⟨mj_in_d (by decide), mj_in_d (by decide), trivial⟩ ?_
          refine R_br (q := (I 36 0 : Int32) = 0) (t := 52) (f := 44) (rest := []) rfl (fun h3 => ?_) (fun h3 => ?_)
          · skip
            refine R_seg (φ := []) (pc' := 54) (L' := [.ref 1, .int (1), .int i, .int (1), .int j, .int n, .ref 36, .ref 36]) (st' := [.int 1, .ref 1]) (σ' := (mj_KS N, I, mj_PP c d r)) 2 rfl trivial ?_
            refine R_ce (idx := 90) (mid := 91) (kind := 0) (N := N) (M' := mj_m_X5_comeTo) (As := [.ref 1, .int 1]) (rest := []) (I := I) (P := mj_PP c d r) (I' := (s_X5_comeTo 1 I).2) (P' := mj_PP c d r) (v := some (.int ((s_X5_comeTo 1 I).1))) rfl rfl rfl mj_mc91 mj_dc91 rfl rfl rfl rfl rfl rfl (x_X5_comeTo l b base D z N 1 I c d r) ?_
            refine R_seg (φ := []) (pc' := 57) (L' := [.ref 1, .int (1), .int i, .int (1), .int j, .int n, .ref 36, .ref 36]) (st' := [.int ((s_X5_comeTo 1 I).1)]) (σ' := (mj_KS N, (s_X5_comeTo 1 I).2, mj_PP c d r)) 0 rfl trivial ?_
            exact R_ri rfl rfl (mj_leaf (by first | (simp only [s_X5_copy, if_neg h1, if_neg h2, if_pos h3, Bool.false_eq_true, ↓reduceIte, Nat.reduceAdd, Nat.reduceMul, mj_tn0, mj_tn1, mj_tn2, mj_tn3]; done) | contradiction) (by first | (simp only [s_X5_copy, if_neg h1, if_neg h2, if_pos h3, Bool.false_eq_true, ↓reduceIte, Nat.reduceAdd, Nat.reduceMul, mj_tn0, mj_tn1, mj_tn2, mj_tn3]; done) | contradiction))
          · skip
            refine R_seg (φ := []) (pc' := 49) (L' := [.ref 1, .int (1), .int i, .int (1), .int j, .int n, .ref 36, .ref 36]) (st' := [.int (I 36 0)]) (σ' := (mj_KS N, I, mj_PP c d r)) 2 rfl trivial ?_
            refine R_br (q := (I 36 0 : Int32) = 0) (t := 52) (f := 58) (rest := []) rfl (fun h4 => ?_) (fun h4 => ?_)
            · skip
              refine R_seg (φ := []) (pc' := 54) (L' := [.ref 1, .int (1), .int i, .int (1), .int j, .int n, .ref 36, .ref 36]) (st' := [.int 1, .ref 1]) (σ' := (mj_KS N, I, mj_PP c d r)) 2 rfl trivial ?_
              refine R_ce (idx := 90) (mid := 91) (kind := 0) (N := N) (M' := mj_m_X5_comeTo) (As := [.ref 1, .int 1]) (rest := []) (I := I) (P := mj_PP c d r) (I' := (s_X5_comeTo 1 I).2) (P' := mj_PP c d r) (v := some (.int ((s_X5_comeTo 1 I).1))) rfl rfl rfl mj_mc91 mj_dc91 rfl rfl rfl rfl rfl rfl (x_X5_comeTo l b base D z N 1 I c d r) ?_
              refine R_seg (φ := []) (pc' := 57) (L' := [.ref 1, .int (1), .int i, .int (1), .int j, .int n, .ref 36, .ref 36]) (st' := [.int ((s_X5_comeTo 1 I).1)]) (σ' := (mj_KS N, (s_X5_comeTo 1 I).2, mj_PP c d r)) 0 rfl trivial ?_
              exact R_ri rfl rfl (mj_leaf (by first | (simp only [s_X5_copy, if_neg h1, if_neg h2, if_neg h3, if_pos h4, Bool.false_eq_true, ↓reduceIte, Nat.reduceAdd, Nat.reduceMul, mj_tn0, mj_tn1, mj_tn2, mj_tn3]; done) | contradiction) (by first | (simp only [s_X5_copy, if_neg h1, if_neg h2, if_neg h3, if_pos h4, Bool.false_eq_true, ↓reduceIte, Nat.reduceAdd, Nat.reduceMul, mj_tn0, mj_tn1, mj_tn2, mj_tn3]; done) | contradiction))
            · skip
              refine R_seg (φ := []) (pc' := 68) (L' := [.ref 1, .int (1), .int i, .int (1), .int j, .int n, .ref 36, .ref 36]) (st' := [.int (I 36 1), .int (I 36 1)]) (σ' := (mj_KS N, I, mj_PP c d r)) 4 rfl trivial ?_
              refine R_br (q := (I 36 1 : Int32) = I 36 1) (t := 77) (f := 71) (rest := []) rfl (fun h5 => ?_) (fun h5 => ?_)
              · skip
                refine R_seg (φ := []) (pc' := 79) (L' := [.ref 1, .int (1), .int i, .int (1), .int j, .int n, .ref 36, .ref 36]) (st' := [.int n]) (σ' := (mj_KS N, I, mj_PP c d r)) 1 rfl trivial ?_
                refine R_br (q := (n : Int32) < 0) (t := 105) (f := 82) (rest := []) rfl (fun h6 => ?_) (fun h6 => ?_)
                · skip
                  refine R_seg (φ := []) (pc' := 107) (L' := [.ref 1, .int (1), .int i, .int (1), .int j, .int n, .ref 36, .ref 36]) (st' := [.int 3, .ref 1]) (σ' := (mj_KS N, I, mj_PP c d r)) 2 rfl trivial ?_
                  refine R_ce (idx := 90) (mid := 91) (kind := 0) (N := N) (M' := mj_m_X5_comeTo) (As := [.ref 1, .int 3]) (rest := []) (I := I) (P := mj_PP c d r) (I' := (s_X5_comeTo 3 I).2) (P' := mj_PP c d r) (v := some (.int ((s_X5_comeTo 3 I).1))) rfl rfl rfl mj_mc91 mj_dc91 rfl rfl rfl rfl rfl rfl (x_X5_comeTo l b base D z N 3 I c d r) ?_
                  refine R_seg (φ := []) (pc' := 110) (L' := [.ref 1, .int (1), .int i, .int (1), .int j, .int n, .ref 36, .ref 36]) (st' := [.int ((s_X5_comeTo 3 I).1)]) (σ' := (mj_KS N, (s_X5_comeTo 3 I).2, mj_PP c d r)) 0 rfl trivial ?_
                  exact R_ri rfl rfl (mj_leaf (by first | (simp only [s_X5_copy, if_neg h1, if_neg h2, if_neg h3, if_neg h4, if_pos h5, if_pos h6, Bool.false_eq_true, ↓reduceIte, Nat.reduceAdd, Nat.reduceMul, mj_tn0, mj_tn1, mj_tn2, mj_tn3]; done) | contradiction) (by first | (simp only [s_X5_copy, if_neg h1, if_neg h2, if_neg h3, if_neg h4, if_pos h5, if_pos h6, Bool.false_eq_true, ↓reduceIte, Nat.reduceAdd, Nat.reduceMul, mj_tn0, mj_tn1, mj_tn2, mj_tn3]; done) | contradiction))
                · skip
                  refine R_seg (φ := []) (pc' := 87) (L' := [.ref 1, .int (1), .int i, .int (1), .int j, .int n, .ref 36, .ref 36]) (st' := [.int n, .int i, .ref 36]) (σ' := (mj_KS N, I, mj_PP c d r)) 3 rfl trivial ?_
                  refine R_ce (idx := 242) (mid := 36) (kind := 3) (N := N) (M' := mj_m_X4_hasCells) (As := [.ref 36, .int i, .int n]) (rest := []) (I := I) (P := mj_PP c d r) (I' := I) (P' := mj_PP c d r) (v := some (.int (bI (sp_hc (I 36 2) i n)))) rfl rfl rfl mj_mc36 mj_dc36 rfl rfl rfl rfl rfl rfl (x_hasCells l b base D z N 36 (by decide) i n I c d r) ?_
                  refine R_seg (φ := []) (pc' := 90) (L' := [.ref 1, .int (1), .int i, .int (1), .int j, .int n, .ref 36, .ref 36]) (st' := [.int (bI (sp_hc (I 36 2) i n))]) (σ' := (mj_KS N, I, mj_PP c d r)) 0 rfl trivial ?_
                  refine R_br (q := (bI (sp_hc (I 36 2) i n) : Int32) = 0) (t := 105) (f := 93) (rest := []) rfl (fun h7 => ?_) (fun h7 => ?_)
                  · skip
                    replace h7 := bI_0.mp h7
                    refine R_seg (φ := []) (pc' := 107) (L' := [.ref 1, .int (1), .int i, .int (1), .int j, .int n, .ref 36, .ref 36]) (st' := [.int 3, .ref 1]) (σ' := (mj_KS N, I, mj_PP c d r)) 2 rfl trivial ?_
                    refine R_ce (idx := 90) (mid := 91) (kind := 0) (N := N) (M' := mj_m_X5_comeTo) (As := [.ref 1, .int 3]) (rest := []) (I := I) (P := mj_PP c d r) (I' := (s_X5_comeTo 3 I).2) (P' := mj_PP c d r) (v := some (.int ((s_X5_comeTo 3 I).1))) rfl rfl rfl mj_mc91 mj_dc91 rfl rfl rfl rfl rfl rfl (x_X5_comeTo l b base D z N 3 I c d r) ?_
                    refine R_seg (φ := []) (pc' := 110) (L' := [.ref 1, .int (1), .int i, .int (1), .int j, .int n, .ref 36, .ref 36]) (st' := [.int ((s_X5_comeTo 3 I).1)]) (σ' := (mj_KS N, (s_X5_comeTo 3 I).2, mj_PP c d r)) 0 rfl trivial ?_
                    exact R_ri rfl rfl (mj_leaf (by first | (simp only [s_X5_copy, if_neg h1, if_neg h2, if_neg h3, if_neg h4, if_pos h5, if_neg h6, h7, Bool.false_eq_true, ↓reduceIte, Nat.reduceAdd, Nat.reduceMul, mj_tn0, mj_tn1, mj_tn2, mj_tn3]; done) | contradiction) (by first | (simp only [s_X5_copy, if_neg h1, if_neg h2, if_neg h3, if_neg h4, if_pos h5, if_neg h6, h7, Bool.false_eq_true, ↓reduceIte, Nat.reduceAdd, Nat.reduceMul, mj_tn0, mj_tn1, mj_tn2, mj_tn3]; done) | contradiction))
                  · skip
                    replace h7 := bI_1 h7
                    refine R_seg (φ := []) (pc' := 99) (L' := [.ref 1, .int (1), .int i, .int (1), .int j, .int n, .ref 36, .ref 36]) (st' := [.int n, .int j, .ref 36]) (σ' := (mj_KS N, I, mj_PP c d r)) 3 rfl trivial ?_
                    refine R_ce (idx := 242) (mid := 36) (kind := 3) (N := N) (M' := mj_m_X4_hasCells) (As := [.ref 36, .int j, .int n]) (rest := []) (I := I) (P := mj_PP c d r) (I' := I) (P' := mj_PP c d r) (v := some (.int (bI (sp_hc (I 36 2) j n)))) rfl rfl rfl mj_mc36 mj_dc36 rfl rfl rfl rfl rfl rfl (x_hasCells l b base D z N 36 (by decide) j n I c d r) ?_
                    refine R_seg (φ := []) (pc' := 102) (L' := [.ref 1, .int (1), .int i, .int (1), .int j, .int n, .ref 36, .ref 36]) (st' := [.int (bI (sp_hc (I 36 2) j n))]) (σ' := (mj_KS N, I, mj_PP c d r)) 0 rfl trivial ?_
                    refine R_br (q := (bI (sp_hc (I 36 2) j n) : Int32) = 0) (t := 105) (f := 111) (rest := []) rfl (fun h8 => ?_) (fun h8 => ?_)
                    · skip
                      replace h8 := bI_0.mp h8
                      refine R_seg (φ := []) (pc' := 107) (L' := [.ref 1, .int (1), .int i, .int (1), .int j, .int n, .ref 36, .ref 36]) (st' := [.int 3, .ref 1]) (σ' := (mj_KS N, I, mj_PP c d r)) 2 rfl trivial ?_
                      refine R_ce (idx := 90) (mid := 91) (kind := 0) (N := N) (M' := mj_m_X5_comeTo) (As := [.ref 1, .int 3]) (rest := []) (I := I) (P := mj_PP c d r) (I' := (s_X5_comeTo 3 I).2) (P' := mj_PP c d r) (v := some (.int ((s_X5_comeTo 3 I).1))) rfl rfl rfl mj_mc91 mj_dc91 rfl rfl rfl rfl rfl rfl (x_X5_comeTo l b base D z N 3 I c d r) ?_
                      refine R_seg (φ := []) (pc' := 110) (L' := [.ref 1, .int (1), .int i, .int (1), .int j, .int n, .ref 36, .ref 36]) (st' := [.int ((s_X5_comeTo 3 I).1)]) (σ' := (mj_KS N, (s_X5_comeTo 3 I).2, mj_PP c d r)) 0 rfl trivial ?_
                      exact R_ri rfl rfl (mj_leaf (by first | (simp only [s_X5_copy, if_neg h1, if_neg h2, if_neg h3, if_neg h4, if_pos h5, if_neg h6, h7, h8, Bool.false_eq_true, ↓reduceIte, Nat.reduceAdd, Nat.reduceMul, mj_tn0, mj_tn1, mj_tn2, mj_tn3]; done) | contradiction) (by first | (simp only [s_X5_copy, if_neg h1, if_neg h2, if_neg h3, if_neg h4, if_pos h5, if_neg h6, h7, h8, Bool.false_eq_true, ↓reduceIte, Nat.reduceAdd, Nat.reduceMul, mj_tn0, mj_tn1, mj_tn2, mj_tn3]; done) | contradiction))
                    · skip
                      replace h8 := bI_1 h8
                      refine R_seg (φ := [0 ≤ (i : Int32).toInt ∧ 0 ≤ (j : Int32).toInt ∧ 0 ≤ (n : Int32).toInt ∧ (i : Int32).toInt + (n : Int32).toInt ≤ ((60 : Nat) : Int) ∧ (j : Int32).toInt + (n : Int32).toInt ≤ ((60 : Nat) : Int) ∧ ((60 : Nat) : Int) < 2147483648 ∧ ((60 : Nat) : Int) < 2147483648]) (pc' := 136) (L' := [.ref 1, .int (1), .int i, .int (1), .int j, .int n, .ref 36, .ref 36]) (st' := [.int n]) (σ' := (mj_KS N, mj_cpy (mj_upI I 1 13 0) 37 37 i j n, mj_PP c d r)) 12 rfl ⟨mj_cp h6 h7 h8 (hl 1 (by decide)) (hl 1 (by decide)), trivial⟩ ?_
                      exact R_ri rfl rfl (mj_leaf (by first | (simp only [s_X5_copy, if_neg h1, if_neg h2, if_neg h3, if_neg h4, if_pos h5, if_neg h6, h7, h8, Bool.false_eq_true, ↓reduceIte, Nat.reduceAdd, Nat.reduceMul, mj_tn0, mj_tn1, mj_tn2, mj_tn3]; done) | contradiction) (by first | (simp only [s_X5_copy, if_neg h1, if_neg h2, if_neg h3, if_neg h4, if_pos h5, if_neg h6, h7, h8, Bool.false_eq_true, ↓reduceIte, Nat.reduceAdd, Nat.reduceMul, mj_tn0, mj_tn1, mj_tn2, mj_tn3]; done) | contradiction))
              · skip
                refine R_seg (φ := []) (pc' := 73) (L' := [.ref 1, .int (1), .int i, .int (1), .int j, .int n, .ref 36, .ref 36]) (st' := [.int 2, .ref 1]) (σ' := (mj_KS N, I, mj_PP c d r)) 2 rfl trivial ?_
                refine R_ce (idx := 90) (mid := 91) (kind := 0) (N := N) (M' := mj_m_X5_comeTo) (As := [.ref 1, .int 2]) (rest := []) (I := I) (P := mj_PP c d r) (I' := (s_X5_comeTo 2 I).2) (P' := mj_PP c d r) (v := some (.int ((s_X5_comeTo 2 I).1))) rfl rfl rfl mj_mc91 mj_dc91 rfl rfl rfl rfl rfl rfl (x_X5_comeTo l b base D z N 2 I c d r) ?_
                refine R_seg (φ := []) (pc' := 76) (L' := [.ref 1, .int (1), .int i, .int (1), .int j, .int n, .ref 36, .ref 36]) (st' := [.int ((s_X5_comeTo 2 I).1)]) (σ' := (mj_KS N, (s_X5_comeTo 2 I).2, mj_PP c d r)) 0 rfl trivial ?_
                exact R_ri rfl rfl (mj_leaf (by first | (simp only [s_X5_copy, if_neg h1, if_neg h2, if_neg h3, if_neg h4, if_neg h5, Bool.false_eq_true, ↓reduceIte, Nat.reduceAdd, Nat.reduceMul, mj_tn0, mj_tn1, mj_tn2, mj_tn3]; done) | contradiction) (by first | (simp only [s_X5_copy, if_neg h1, if_neg h2, if_neg h3, if_neg h4, if_neg h5, Bool.false_eq_true, ↓reduceIte, Nat.reduceAdd, Nat.reduceMul, mj_tn0, mj_tn1, mj_tn2, mj_tn3]; done) | contradiction))
        · skip
          refine R_seg (φ := [mj_in (1) 4, mj_in (2) 4]) (pc' := 41) (L' := [.ref 1, .int (1), .int i, .int (2), .int j, .int n, .ref 36, .ref 38]) (st' := [.int (I 36 0)]) (σ' := (mj_KS N, I, mj_PP c d r)) 11 rfl ⟨mj_in_d (by decide), mj_in_d (by decide), trivial⟩ ?_
          refine R_br (q := (I 36 0 : Int32) = 0) (t := 52) (f := 44) (rest := []) rfl (fun h3 => ?_) (fun h3 => ?_)
          · skip
            refine R_seg (φ := []) (pc' := 54) (L' := [.ref 1, .int (1), .int i, .int (2), .int j, .int n, .ref 36, .ref 38]) (st' := [.int 1, .ref 1]) (σ' := (mj_KS N, I, mj_PP c d r)) 2 rfl trivial ?_
            refine R_ce (idx := 90) (mid := 91) (kind := 0) (N := N) (M' := mj_m_X5_comeTo) (As := [.ref 1, .int 1]) (rest := []) (I := I) (P := mj_PP c d r) (I' := (s_X5_comeTo 1 I).2) (P' := mj_PP c d r) (v := some (.int ((s_X5_comeTo 1 I).1))) rfl rfl rfl mj_mc91 mj_dc91 rfl rfl rfl rfl rfl rfl (x_X5_comeTo l b base D z N 1 I c d r) ?_
            refine R_seg (φ := []) (pc' := 57) (L' := [.ref 1, .int (1), .int i, .int (2), .int j, .int n, .ref 36, .ref 38]) (st' := [.int ((s_X5_comeTo 1 I).1)]) (σ' := (mj_KS N, (s_X5_comeTo 1 I).2, mj_PP c d r)) 0 rfl trivial ?_
            exact R_ri rfl rfl (mj_leaf (by first | (simp only [s_X5_copy, if_neg h1, if_neg h2, if_pos h3, Bool.false_eq_true, ↓reduceIte, Nat.reduceAdd, Nat.reduceMul, mj_tn0, mj_tn1, mj_tn2, mj_tn3]; done) | contradiction) (by first | (simp only [s_X5_copy, if_neg h1, if_neg h2, if_pos h3, Bool.false_eq_true, ↓reduceIte, Nat.reduceAdd, Nat.reduceMul, mj_tn0, mj_tn1, mj_tn2, mj_tn3]; done) | contradiction))
          · skip
            refine R_seg (φ := []) (pc' := 49) (L' := [.ref 1, .int (1), .int i, .int (2), .int j, .int n, .ref 36, .ref 38]) (st' := [.int (I 38 0)]) (σ' := (mj_KS N, I, mj_PP c d r)) 2 rfl trivial ?_
            refine R_br (q := (I 38 0 : Int32) = 0) (t := 52) (f := 58) (rest := []) rfl (fun h4 => ?_) (fun h4 => ?_)
            · skip
              refine R_seg (φ := []) (pc' := 54) (L' := [.ref 1, .int (1), .int i, .int (2), .int j, .int n, .ref 36, .ref 38]) (st' := [.int 1, .ref 1]) (σ' := (mj_KS N, I, mj_PP c d r)) 2 rfl trivial ?_
              refine R_ce (idx := 90) (mid := 91) (kind := 0) (N := N) (M' := mj_m_X5_comeTo) (As := [.ref 1, .int 1]) (rest := []) (I := I) (P := mj_PP c d r) (I' := (s_X5_comeTo 1 I).2) (P' := mj_PP c d r) (v := some (.int ((s_X5_comeTo 1 I).1))) rfl rfl rfl mj_mc91 mj_dc91 rfl rfl rfl rfl rfl rfl (x_X5_comeTo l b base D z N 1 I c d r) ?_
              refine R_seg (φ := []) (pc' := 57) (L' := [.ref 1, .int (1), .int i, .int (2), .int j, .int n, .ref 36, .ref 38]) (st' := [.int ((s_X5_comeTo 1 I).1)]) (σ' := (mj_KS N, (s_X5_comeTo 1 I).2, mj_PP c d r)) 0 rfl trivial ?_
              exact R_ri rfl rfl (mj_leaf (by first | (simp only [s_X5_copy, if_neg h1, if_neg h2, if_neg h3, if_pos h4, Bool.false_eq_true, ↓reduceIte, Nat.reduceAdd, Nat.reduceMul, mj_tn0, mj_tn1, mj_tn2, mj_tn3]; done) | contradiction) (by first | (simp only [s_X5_copy, if_neg h1, if_neg h2, if_neg h3, if_pos h4, Bool.false_eq_true, ↓reduceIte, Nat.reduceAdd, Nat.reduceMul, mj_tn0, mj_tn1, mj_tn2, mj_tn3]; done) | contradiction))
            · skip
              refine R_seg (φ := []) (pc' := 68) (L' := [.ref 1, .int (1), .int i, .int (2), .int j, .int n, .ref 36, .ref 38]) (st' := [.int (I 38 1), .int (I 36 1)]) (σ' := (mj_KS N, I, mj_PP c d r)) 4 rfl trivial ?_
              refine R_br (q := (I 36 1 : Int32) = I 38 1) (t := 77) (f := 71) (rest := []) rfl (fun h5 => ?_) (fun h5 => ?_)
              · skip
                refine R_seg (φ := []) (pc' := 79) (L' := [.ref 1, .int (1), .int i, .int (2), .int j, .int n, .ref 36, .ref 38]) (st' := [.int n]) (σ' := (mj_KS N, I, mj_PP c d r)) 1 rfl trivial ?_
                refine R_br (q := (n : Int32) < 0) (t := 105) (f := 82) (rest := []) rfl (fun h6 => ?_) (fun h6 => ?_)
                · skip
                  refine R_seg (φ := []) (pc' := 107) (L' := [.ref 1, .int (1), .int i, .int (2), .int j, .int n, .ref 36, .ref 38]) (st' := [.int 3, .ref 1]) (σ' := (mj_KS N, I, mj_PP c d r)) 2 rfl trivial ?_
                  refine R_ce (idx := 90) (mid := 91) (kind := 0) (N := N) (M' := mj_m_X5_comeTo) (As := [.ref 1, .int 3]) (rest := []) (I := I) (P := mj_PP c d r) (I' := (s_X5_comeTo 3 I).2) (P' := mj_PP c d r) (v := some (.int ((s_X5_comeTo 3 I).1))) rfl rfl rfl mj_mc91 mj_dc91 rfl rfl rfl rfl rfl rfl (x_X5_comeTo l b base D z N 3 I c d r) ?_
                  refine R_seg (φ := []) (pc' := 110) (L' := [.ref 1, .int (1), .int i, .int (2), .int j, .int n, .ref 36, .ref 38]) (st' := [.int ((s_X5_comeTo 3 I).1)]) (σ' := (mj_KS N, (s_X5_comeTo 3 I).2, mj_PP c d r)) 0 rfl trivial ?_
                  exact R_ri rfl rfl (mj_leaf (by first | (simp only [s_X5_copy, if_neg h1, if_neg h2, if_neg h3, if_neg h4, if_pos h5, if_pos h6, Bool.false_eq_true, ↓reduceIte, Nat.reduceAdd, Nat.reduceMul, mj_tn0, mj_tn1, mj_tn2, mj_tn3]; done) | contradiction) (by first | (simp only [s_X5_copy, if_neg h1, if_neg h2, if_neg h3, if_neg h4, if_pos h5, if_pos h6, Bool.false_eq_true, ↓reduceIte, Nat.reduceAdd, Nat.reduceMul, mj_tn0, mj_tn1, mj_tn2, mj_tn3]; done) | contradiction))
                · skip
                  refine R_seg (φ := []) (pc' := 87) (L' := [.ref 1, .int (1), .int i, .int (2), .int j, .int n, .ref 36, .ref 38]) (st' := [.int n, .int i, .ref 36]) (σ' := (mj_KS N, I, mj_PP c d r)) 3 rfl trivial ?_
                  refine R_ce (idx := 242) (mid := 36) (kind := 3) (N := N) (M' := mj_m_X4_hasCells) (As := [.ref 36, .int i, .int n]) (rest := []) (I := I) (P := mj_PP c d r) (I' := I) (P' := mj_PP c d r) (v := some (.int (bI (sp_hc (I 36 2) i n)))) rfl rfl rfl mj_mc36 mj_dc36 rfl rfl rfl rfl rfl rfl (x_hasCells l b base D z N 36 (by decide) i n I c d r) ?_
                  refine R_seg (φ := []) (pc' := 90) (L' := [.ref 1, .int (1), .int i, .int (2), .int j, .int n, .ref 36, .ref 38]) (st' := [.int (bI (sp_hc (I 36 2) i n))]) (σ' := (mj_KS N, I, mj_PP c d r)) 0 rfl trivial ?_
                  refine R_br (q := (bI (sp_hc (I 36 2) i n) : Int32) = 0) (t := 105) (f := 93) (rest := []) rfl (fun h7 => ?_) (fun h7 => ?_)
                  · skip
                    replace h7 := bI_0.mp h7
                    refine R_seg (φ := []) (pc' := 107) (L' := [.ref 1, .int (1), .int i, .int (2), .int j, .int n, .ref 36, .ref 38]) (st' := [.int 3, .ref 1]) (σ' := (mj_KS N, I, mj_PP c d r)) 2 rfl trivial ?_
                    refine R_ce (idx := 90) (mid := 91) (kind := 0) (N := N) (M' := mj_m_X5_comeTo) (As := [.ref 1, .int 3]) (rest := []) (I := I) (P := mj_PP c d r) (I' := (s_X5_comeTo 3 I).2) (P' := mj_PP c d r) (v := some (.int ((s_X5_comeTo 3 I).1))) rfl rfl rfl mj_mc91 mj_dc91 rfl rfl rfl rfl rfl rfl (x_X5_comeTo l b base D z N 3 I c d r) ?_
                    refine R_seg (φ := []) (pc' := 110) (L' := [.ref 1, .int (1), .int i, .int (2), .int j, .int n, .ref 36, .ref 38]) (st' := [.int ((s_X5_comeTo 3 I).1)]) (σ' := (mj_KS N, (s_X5_comeTo 3 I).2, mj_PP c d r)) 0 rfl trivial ?_
                    exact R_ri rfl rfl (mj_leaf (by first | (simp only [s_X5_copy, if_neg h1, if_neg h2, if_neg h3, if_neg h4, if_pos h5, if_neg h6, h7, Bool.false_eq_true, ↓reduceIte, Nat.reduceAdd, Nat.reduceMul, mj_tn0, mj_tn1, mj_tn2, mj_tn3]; done) | contradiction) (by first | (simp only [s_X5_copy, if_neg h1, if_neg h2, if_neg h3, if_neg h4, if_pos h5, if_neg h6, h7, Bool.false_eq_true, ↓reduceIte, Nat.reduceAdd, Nat.reduceMul, mj_tn0, mj_tn1, mj_tn2, mj_tn3]; done) | contradiction))
                  · skip
                    replace h7 := bI_1 h7
                    refine R_seg (φ := []) (pc' := 99) (L' := [.ref 1, .int (1), .int i, .int (2), .int j, .int n, .ref 36, .ref 38]) (st' := [.int n, .int j, .ref 38]) (σ' := (mj_KS N, I, mj_PP c d r)) 3 rfl trivial ?_
                    refine R_ce (idx := 242) (mid := 36) (kind := 3) (N := N) (M' := mj_m_X4_hasCells) (As := [.ref 38, .int j, .int n]) (rest := []) (I := I) (P := mj_PP c d r) (I' := I) (P' := mj_PP c d r) (v := some (.int (bI (sp_hc (I 38 2) j n)))) rfl rfl rfl mj_mc36 mj_dc36 rfl rfl rfl rfl rfl rfl (x_hasCells l b base D z N 38 (by decide) j n I c d r) ?_
                    refine R_seg (φ := []) (pc' := 102) (L' := [.ref 1, .int (1), .int i, .int (2), .int j, .int n, .ref 36, .ref 38]) (st' := [.int (bI (sp_hc (I 38 2) j n))]) (σ' := (mj_KS N, I, mj_PP c d r)) 0 rfl trivial ?_
                    refine R_br (q := (bI (sp_hc (I 38 2) j n) : Int32) = 0) (t := 105) (f := 111) (rest := []) rfl (fun h8 => ?_) (fun h8 => ?_)
                    · skip
                      replace h8 := bI_0.mp h8
                      refine R_seg (φ := []) (pc' := 107) (L' := [.ref 1, .int (1), .int i, .int (2), .int j, .int n, .ref 36, .ref 38]) (st' := [.int 3, .ref 1]) (σ' := (mj_KS N, I, mj_PP c d r)) 2 rfl trivial ?_
                      refine R_ce (idx := 90) (mid := 91) (kind := 0) (N := N) (M' := mj_m_X5_comeTo) (As := [.ref 1, .int 3]) (rest := []) (I := I) (P := mj_PP c d r) (I' := (s_X5_comeTo 3 I).2) (P' := mj_PP c d r) (v := some (.int ((s_X5_comeTo 3 I).1))) rfl rfl rfl mj_mc91 mj_dc91 rfl rfl rfl rfl rfl rfl (x_X5_comeTo l b base D z N 3 I c d r) ?_
                      refine R_seg (φ := []) (pc' := 110) (L' := [.ref 1, .int (1), .int i, .int (2), .int j, .int n, .ref 36, .ref 38]) (st' := [.int ((s_X5_comeTo 3 I).1)]) (σ' := (mj_KS N, (s_X5_comeTo 3 I).2, mj_PP c d r)) 0 rfl trivial ?_
                      exact R_ri rfl rfl (mj_leaf (by first | (simp only [s_X5_copy, if_neg h1, if_neg h2, if_neg h3, if_neg h4, if_pos h5, if_neg h6, h7, h8, Bool.false_eq_true, ↓reduceIte, Nat.reduceAdd, Nat.reduceMul, mj_tn0, mj_tn1, mj_tn2, mj_tn3]; done) | contradiction) (by first | (simp only [s_X5_copy, if_neg h1, if_neg h2, if_neg h3, if_neg h4, if_pos h5, if_neg h6, h7, h8, Bool.false_eq_true, ↓reduceIte, Nat.reduceAdd, Nat.reduceMul, mj_tn0, mj_tn1, mj_tn2, mj_tn3]; done) | contradiction))
                    · skip
                      replace h8 := bI_1 h8
                      refine R_seg (φ := [0 ≤ (i : Int32).toInt ∧ 0 ≤ (j : Int32).toInt ∧ 0 ≤ (n : Int32).toInt ∧ (i : Int32).toInt + (n : Int32).toInt ≤ ((60 : Nat) : Int) ∧ (j : Int32).toInt + (n : Int32).toInt ≤ ((60 : Nat) : Int) ∧ ((60 : Nat) : Int) < 2147483648 ∧ ((60 : Nat) : Int) < 2147483648]) (pc' := 136) (L' := [.ref 1, .int (1), .int i, .int (2), .int j, .int n, .ref 36, .ref 38]) (st' := [.int n]) (σ' := (mj_KS N, mj_cpy (mj_upI I 1 13 0) 37 39 i j n, mj_PP c d r)) 12 rfl ⟨mj_cp h6 h7 h8 (hl 1 (by decide)) (hl 2 (by decide)), trivial⟩ ?_
                      exact R_ri rfl rfl (mj_leaf (by first | (simp only [s_X5_copy, if_neg h1, if_neg h2, if_neg h3, if_neg h4, if_pos h5, if_neg h6, h7, h8, Bool.false_eq_true, ↓reduceIte, Nat.reduceAdd, Nat.reduceMul, mj_tn0, mj_tn1, mj_tn2, mj_tn3]; done) | contradiction) (by first | (simp only [s_X5_copy, if_neg h1, if_neg h2, if_neg h3, if_neg h4, if_pos h5, if_neg h6, h7, h8, Bool.false_eq_true, ↓reduceIte, Nat.reduceAdd, Nat.reduceMul, mj_tn0, mj_tn1, mj_tn2, mj_tn3]; done) | contradiction))
              · skip
                refine R_seg (φ := []) (pc' := 73) (L' := [.ref 1, .int (1), .int i, .int (2), .int j, .int n, .ref 36, .ref 38]) (st' := [.int 2, .ref 1]) (σ' := (mj_KS N, I, mj_PP c d r)) 2 rfl trivial ?_
                refine R_ce (idx := 90) (mid := 91) (kind := 0) (N := N) (M' := mj_m_X5_comeTo) (As := [.ref 1, .int 2]) (rest := []) (I := I) (P := mj_PP c d r) (I' := (s_X5_comeTo 2 I).2) (P' := mj_PP c d r) (v := some (.int ((s_X5_comeTo 2 I).1))) rfl rfl rfl mj_mc91 mj_dc91 rfl rfl rfl rfl rfl rfl (x_X5_comeTo l b base D z N 2 I c d r) ?_
                refine R_seg (φ := []) (pc' := 76) (L' := [.ref 1, .int (1), .int i, .int (2), .int j, .int n, .ref 36, .ref 38]) (st' := [.int ((s_X5_comeTo 2 I).1)]) (σ' := (mj_KS N, (s_X5_comeTo 2 I).2, mj_PP c d r)) 0 rfl trivial ?_
                exact R_ri rfl rfl (mj_leaf (by first | (simp only [s_X5_copy, if_neg h1, if_neg h2, if_neg h3, if_neg h4, if_neg h5, Bool.false_eq_true, ↓reduceIte, Nat.reduceAdd, Nat.reduceMul, mj_tn0, mj_tn1, mj_tn2, mj_tn3]; done) | contradiction) (by first | (simp only [s_X5_copy, if_neg h1, if_neg h2, if_neg h3, if_neg h4, if_neg h5, Bool.false_eq_true, ↓reduceIte, Nat.reduceAdd, Nat.reduceMul, mj_tn0, mj_tn1, mj_tn2, mj_tn3]; done) | contradiction))
        · skip
          refine R_seg (φ := [mj_in (1) 4, mj_in (3) 4]) (pc' := 41) (L' := [.ref 1, .int (1), .int i, .int (3), .int j, .int n, .ref 36, .ref 40]) (st' := [.int (I 36 0)]) (σ' := (mj_KS N, I, mj_PP c d r)) 11 rfl ⟨mj_in_d (by decide), mj_in_d (by decide), trivial⟩ ?_
          refine R_br (q := (I 36 0 : Int32) = 0) (t := 52) (f := 44) (rest := []) rfl (fun h3 => ?_) (fun h3 => ?_)
          · skip
            refine R_seg (φ := []) (pc' := 54) (L' := [.ref 1, .int (1), .int i, .int (3), .int j, .int n, .ref 36, .ref 40]) (st' := [.int 1, .ref 1]) (σ' := (mj_KS N, I, mj_PP c d r)) 2 rfl trivial ?_
            refine R_ce (idx := 90) (mid := 91) (kind := 0) (N := N) (M' := mj_m_X5_comeTo) (As := [.ref 1, .int 1]) (rest := []) (I := I) (P := mj_PP c d r) (I' := (s_X5_comeTo 1 I).2) (P' := mj_PP c d r) (v := some (.int ((s_X5_comeTo 1 I).1))) rfl rfl rfl mj_mc91 mj_dc91 rfl rfl rfl rfl rfl rfl (x_X5_comeTo l b base D z N 1 I c d r) ?_
            refine R_seg (φ := []) (pc' := 57) (L' := [.ref 1, .int (1), .int i, .int (3), .int j, .int n, .ref 36, .ref 40]) (st' := [.int ((s_X5_comeTo 1 I).1)]) (σ' := (mj_KS N, (s_X5_comeTo 1 I).2, mj_PP c d r)) 0 rfl trivial ?_
            exact R_ri rfl rfl (mj_leaf (by first | (simp only [s_X5_copy, if_neg h1, if_neg h2, if_pos h3, Bool.false_eq_true, ↓reduceIte, Nat.reduceAdd, Nat.reduceMul, mj_tn0, mj_tn1, mj_tn2, mj_tn3]; done) | contradiction) (by first | (simp only [s_X5_copy, if_neg h1, if_neg h2, if_pos h3, Bool.false_eq_true, ↓reduceIte, Nat.reduceAdd, Nat.reduceMul, mj_tn0, mj_tn1, mj_tn2, mj_tn3]; done) | contradiction))
          · skip
            refine R_seg (φ := []) (pc' := 49) (L' := [.ref 1, .int (1), .int i, .int (3), .int j, .int n, .ref 36, .ref 40]) (st' := [.int (I 40 0)]) (σ' := (mj_KS N, I, mj_PP c d r)) 2 rfl trivial ?_
            refine R_br (q := (I 40 0 : Int32) = 0) (t := 52) (f := 58) (rest := []) rfl (fun h4 => ?_) (fun h4 => ?_)
            · skip
              refine R_seg (φ := []) (pc' := 54) (L' := [.ref 1, .int (1), .int i, .int (3), .int j, .int n, .ref 36, .ref 40]) (st' := [.int 1, .ref 1]) (σ' := (mj_KS N, I, mj_PP c d r)) 2 rfl trivial ?_
              refine R_ce (idx := 90) (mid := 91) (kind := 0) (N := N) (M' := mj_m_X5_comeTo) (As := [.ref 1, .int 1]) (rest := []) (I := I) (P := mj_PP c d r) (I' := (s_X5_comeTo 1 I).2) (P' := mj_PP c d r) (v := some (.int ((s_X5_comeTo 1 I).1))) rfl rfl rfl mj_mc91 mj_dc91 rfl rfl rfl rfl rfl rfl (x_X5_comeTo l b base D z N 1 I c d r) ?_
              refine R_seg (φ := []) (pc' := 57) (L' := [.ref 1, .int (1), .int i, .int (3), .int j, .int n, .ref 36, .ref 40]) (st' := [.int ((s_X5_comeTo 1 I).1)]) (σ' := (mj_KS N, (s_X5_comeTo 1 I).2, mj_PP c d r)) 0 rfl trivial ?_
              exact R_ri rfl rfl (mj_leaf (by first | (simp only [s_X5_copy, if_neg h1, if_neg h2, if_neg h3, if_pos h4, Bool.false_eq_true, ↓reduceIte, Nat.reduceAdd, Nat.reduceMul, mj_tn0, mj_tn1, mj_tn2, mj_tn3]; done) | contradiction) (by first | (simp only [s_X5_copy, if_neg h1, if_neg h2, if_neg h3, if_pos h4, Bool.false_eq_true, ↓reduceIte, Nat.reduceAdd, Nat.reduceMul, mj_tn0, mj_tn1, mj_tn2, mj_tn3]; done) | contradiction))
            · skip
              refine R_seg (φ := []) (pc' := 68) (L' := [.ref 1, .int (1), .int i, .int (3), .int j, .int n, .ref 36, .ref 40]) (st' := [.int (I 40 1), .int (I 36 1)]) (σ' := (mj_KS N, I, mj_PP c d r)) 4 rfl trivial ?_
              refine R_br (q := (I 36 1 : Int32) = I 40 1) (t := 77) (f := 71) (rest := []) rfl (fun h5 => ?_) (fun h5 => ?_)
              · skip
                refine R_seg (φ := []) (pc' := 79) (L' := [.ref 1, .int (1), .int i, .int (3), .int j, .int n, .ref 36, .ref 40]) (st' := [.int n]) (σ' := (mj_KS N, I, mj_PP c d r)) 1 rfl trivial ?_
                refine R_br (q := (n : Int32) < 0) (t := 105) (f := 82) (rest := []) rfl (fun h6 => ?_) (fun h6 => ?_)
                · skip
                  refine R_seg (φ := []) (pc' := 107) (L' := [.ref 1, .int (1), .int i, .int (3), .int j, .int n, .ref 36, .ref 40]) (st' := [.int 3, .ref 1]) (σ' := (mj_KS N, I, mj_PP c d r)) 2 rfl trivial ?_
                  refine R_ce (idx := 90) (mid := 91) (kind := 0) (N := N) (M' := mj_m_X5_comeTo) (As := [.ref 1, .int 3]) (rest := []) (I := I) (P := mj_PP c d r) (I' := (s_X5_comeTo 3 I).2) (P' := mj_PP c d r) (v := some (.int ((s_X5_comeTo 3 I).1))) rfl rfl rfl mj_mc91 mj_dc91 rfl rfl rfl rfl rfl rfl (x_X5_comeTo l b base D z N 3 I c d r) ?_
                  refine R_seg (φ := []) (pc' := 110) (L' := [.ref 1, .int (1), .int i, .int (3), .int j, .int n, .ref 36, .ref 40]) (st' := [.int ((s_X5_comeTo 3 I).1)]) (σ' := (mj_KS N, (s_X5_comeTo 3 I).2, mj_PP c d r)) 0 rfl trivial ?_
                  exact R_ri rfl rfl (mj_leaf (by first | (simp only [s_X5_copy, if_neg h1, if_neg h2, if_neg h3, if_neg h4, if_pos h5, if_pos h6, Bool.false_eq_true, ↓reduceIte, Nat.reduceAdd, Nat.reduceMul, mj_tn0, mj_tn1, mj_tn2, mj_tn3]; done) | contradiction) (by first | (simp only [s_X5_copy, if_neg h1, if_neg h2, if_neg h3, if_neg h4, if_pos h5, if_pos h6, Bool.false_eq_true, ↓reduceIte, Nat.reduceAdd, Nat.reduceMul, mj_tn0, mj_tn1, mj_tn2, mj_tn3]; done) | contradiction))
                · skip
                  refine R_seg (φ := []) (pc' := 87) (L' := [.ref 1, .int (1), .int i, .int (3), .int j, .int n, .ref 36, .ref 40]) (st' := [.int n, .int i, .ref 36]) (σ' := (mj_KS N, I, mj_PP c d r)) 3 rfl trivial ?_
                  refine R_ce (idx := 242) (mid := 36) (kind := 3) (N := N) (M' := mj_m_X4_hasCells) (As := [.ref 36, .int i, .int n]) (rest := []) (I := I) (P := mj_PP c d r) (I' := I) (P' := mj_PP c d r) (v := some (.int (bI (sp_hc (I 36 2) i n)))) rfl rfl rfl mj_mc36 mj_dc36 rfl rfl rfl rfl rfl rfl (x_hasCells l b base D z N 36 (by decide) i n I c d r) ?_
                  refine R_seg (φ := []) (pc' := 90) (L' := [.ref 1, .int (1), .int i, .int (3), .int j, .int n, .ref 36, .ref 40]) (st' := [.int (bI (sp_hc (I 36 2) i n))]) (σ' := (mj_KS N, I, mj_PP c d r)) 0 rfl trivial ?_
                  refine R_br (q := (bI (sp_hc (I 36 2) i n) : Int32) = 0) (t := 105) (f := 93) (rest := []) rfl (fun h7 => ?_) (fun h7 => ?_)
                  · skip
                    replace h7 := bI_0.mp h7
                    refine R_seg (φ := []) (pc' := 107) (L' := [.ref 1, .int (1), .int i, .int (3), .int j, .int n, .ref 36, .ref 40]) (st' := [.int 3, .ref 1]) (σ' := (mj_KS N, I, mj_PP c d r)) 2 rfl trivial ?_
                    refine R_ce (idx := 90) (mid := 91) (kind := 0) (N := N) (M' := mj_m_X5_comeTo) (As := [.ref 1, .int 3]) (rest := []) (I := I) (P := mj_PP c d r) (I' := (s_X5_comeTo 3 I).2) (P' := mj_PP c d r) (v := some (.int ((s_X5_comeTo 3 I).1))) rfl rfl rfl mj_mc91 mj_dc91 rfl rfl rfl rfl rfl rfl (x_X5_comeTo l b base D z N 3 I c d r) ?_
                    refine R_seg (φ := []) (pc' := 110) (L' := [.ref 1, .int (1), .int i, .int (3), .int j, .int n, .ref 36, .ref 40]) (st' := [.int ((s_X5_comeTo 3 I).1)]) (σ' := (mj_KS N, (s_X5_comeTo 3 I).2, mj_PP c d r)) 0 rfl trivial ?_
                    exact R_ri rfl rfl (mj_leaf (by first | (simp only [s_X5_copy, if_neg h1, if_neg h2, if_neg h3, if_neg h4, if_pos h5, if_neg h6, h7, Bool.false_eq_true, ↓reduceIte, Nat.reduceAdd, Nat.reduceMul, mj_tn0, mj_tn1, mj_tn2, mj_tn3]; done) | contradiction) (by first | (simp only [s_X5_copy, if_neg h1, if_neg h2, if_neg h3, if_neg h4, if_pos h5, if_neg h6, h7, Bool.false_eq_true, ↓reduceIte, Nat.reduceAdd, Nat.reduceMul, mj_tn0, mj_tn1, mj_tn2, mj_tn3]; done) | contradiction))
                  · skip
                    replace h7 := bI_1 h7
                    refine R_seg (φ := []) (pc' := 99) (L' := [.ref 1, .int (1), .int i, .int (3), .int j, .int n, .ref 36, .ref 40]) (st' := [.int n, .int j, .ref 40]) (σ' := (mj_KS N, I, mj_PP c d r)) 3 rfl trivial ?_
                    refine R_ce (idx := 242) (mid := 36) (kind := 3) (N := N) (M' := mj_m_X4_hasCells) (As := [.ref 40, .int j, .int n]) (rest := []) (I := I) (P := mj_PP c d r) (I' := I) (P' := mj_PP c d r) (v := some (.int (bI (sp_hc (I 40 2) j n)))) rfl rfl rfl mj_mc36 mj_dc36 rfl rfl rfl rfl rfl rfl (x_hasCells l b base D z N 40 (by decide) j n I c d r) ?_
                    refine R_seg (φ := []) (pc' := 102) (L' := [.ref 1, .int (1), .int i, .int (3), .int j, .int n, .ref 36, .ref 40]) (st' := [.int (bI (sp_hc (I 40 2) j n))]) (σ' := (mj_KS N, I, mj_PP c d r)) 0 rfl trivial ?_
                    refine R_br (q := (bI (sp_hc (I 40 2) j n) : Int32) = 0) (t := 105) (f := 111) (rest := []) rfl (fun h8 => ?_) (fun h8 => ?_)
                    · skip
                      replace h8 := bI_0.mp h8
                      refine R_seg (φ := []) (pc' := 107) (L' := [.ref 1, .int (1), .int i, .int (3), .int j, .int n, .ref 36, .ref 40]) (st' := [.int 3, .ref 1]) (σ' := (mj_KS N, I, mj_PP c d r)) 2 rfl trivial ?_
                      refine R_ce (idx := 90) (mid := 91) (kind := 0) (N := N) (M' := mj_m_X5_comeTo) (As := [.ref 1, .int 3]) (rest := []) (I := I) (P := mj_PP c d r) (I' := (s_X5_comeTo 3 I).2) (P' := mj_PP c d r) (v := some (.int ((s_X5_comeTo 3 I).1))) rfl rfl rfl mj_mc91 mj_dc91 rfl rfl rfl rfl rfl rfl (x_X5_comeTo l b base D z N 3 I c d r) ?_
                      refine R_seg (φ := []) (pc' := 110) (L' := [.ref 1, .int (1), .int i, .int (3), .int j, .int n, .ref 36, .ref 40]) (st' := [.int ((s_X5_comeTo 3 I).1)]) (σ' := (mj_KS N, (s_X5_comeTo 3 I).2, mj_PP c d r)) 0 rfl trivial ?_
                      exact R_ri rfl rfl (mj_leaf (by first | (simp only [s_X5_copy, if_neg h1, if_neg h2, if_neg h3, if_neg h4, if_pos h5, if_neg h6, h7, h8, Bool.false_eq_true, ↓reduceIte, Nat.reduceAdd, Nat.reduceMul, mj_tn0, mj_tn1, mj_tn2, mj_tn3]; done) | contradiction) (by first | (simp only [s_X5_copy, if_neg h1, if_neg h2, if_neg h3, if_neg h4, if_pos h5, if_neg h6, h7, h8, Bool.false_eq_true, ↓reduceIte, Nat.reduceAdd, Nat.reduceMul, mj_tn0, mj_tn1, mj_tn2, mj_tn3]; done) | contradiction))
                    · skip
                      replace h8 := bI_1 h8
                      refine R_seg (φ := [0 ≤ (i : Int32).toInt ∧ 0 ≤ (j : Int32).toInt ∧ 0 ≤ (n : Int32).toInt ∧ (i : Int32).toInt + (n : Int32).toInt ≤ ((60 : Nat) : Int) ∧ (j : Int32).toInt + (n : Int32).toInt ≤ ((60 : Nat) : Int) ∧ ((60 : Nat) : Int) < 2147483648 ∧ ((60 : Nat) : Int) < 2147483648]) (pc' := 136) (L' := [.ref 1, .int (1), .int i, .int (3), .int j, .int n, .ref 36, .ref 40]) (st' := [.int n]) (σ' := (mj_KS N, mj_cpy (mj_upI I 1 13 0) 37 41 i j n, mj_PP c d r)) 12 rfl ⟨mj_cp h6 h7 h8 (hl 1 (by decide)) (hl 3 (by decide)), trivial⟩ ?_
                      exact R_ri rfl rfl (mj_leaf (by first | (simp only [s_X5_copy, if_neg h1, if_neg h2, if_neg h3, if_neg h4, if_pos h5, if_neg h6, h7, h8, Bool.false_eq_true, ↓reduceIte, Nat.reduceAdd, Nat.reduceMul, mj_tn0, mj_tn1, mj_tn2, mj_tn3]; done) | contradiction) (by first | (simp only [s_X5_copy, if_neg h1, if_neg h2, if_neg h3, if_neg h4, if_pos h5, if_neg h6, h7, h8, Bool.false_eq_true, ↓reduceIte, Nat.reduceAdd, Nat.reduceMul, mj_tn0, mj_tn1, mj_tn2, mj_tn3]; done) | contradiction))
              · skip
                refine R_seg (φ := []) (pc' := 73) (L' := [.ref 1, .int (1), .int i, .int (3), .int j, .int n, .ref 36, .ref 40]) (st' := [.int 2, .ref 1]) (σ' := (mj_KS N, I, mj_PP c d r)) 2 rfl trivial ?_
                refine R_ce (idx := 90) (mid := 91) (kind := 0) (N := N) (M' := mj_m_X5_comeTo) (As := [.ref 1, .int 2]) (rest := []) (I := I) (P := mj_PP c d r) (I' := (s_X5_comeTo 2 I).2) (P' := mj_PP c d r) (v := some (.int ((s_X5_comeTo 2 I).1))) rfl rfl rfl mj_mc91 mj_dc91 rfl rfl rfl rfl rfl rfl (x_X5_comeTo l b base D z N 2 I c d r) ?_
                refine R_seg (φ := []) (pc' := 76) (L' := [.ref 1, .int (1), .int i, .int (3), .int j, .int n, .ref 36, .ref 40]) (st' := [.int ((s_X5_comeTo 2 I).1)]) (σ' := (mj_KS N, (s_X5_comeTo 2 I).2, mj_PP c d r)) 0 rfl trivial ?_
                exact R_ri rfl rfl (mj_leaf (by first | (simp only [s_X5_copy, if_neg h1, if_neg h2, if_neg h3, if_neg h4, if_neg h5, Bool.false_eq_true, ↓reduceIte, Nat.reduceAdd, Nat.reduceMul, mj_tn0, mj_tn1, mj_tn2, mj_tn3]; done) | contradiction) (by first | (simp only [s_X5_copy, if_neg h1, if_neg h2, if_neg h3, if_neg h4, if_neg h5, Bool.false_eq_true, ↓reduceIte, Nat.reduceAdd, Nat.reduceMul, mj_tn0, mj_tn1, mj_tn2, mj_tn3]; done) | contradiction))
      · skip
        refine R_seg (φ := []) (pc' := 21) (L' := [.ref 1, .int (2), .int i, .int v, .int j, .int n, mj_mk, mj_mk]) (st' := [.ref 1]) (σ' := (mj_KS N, I, mj_PP c d r)) 1 rfl trivial ?_
        rcases mj_sh4 h2 with rfl | rfl | rfl | rfl
        · skip
          refine R_seg (φ := [mj_in (2) 4, mj_in (0) 4]) (pc' := 41) (L' := [.ref 1, .int (2), .int i, .int (0), .int j, .int n, .ref 38, .ref 34]) (st' := [.int (I 38 0)]) (σ' := (mj_KS N, I, mj_PP c d r)) 11 rfl ⟨mj_in_d (by decide), mj_in_d (by decide), trivial⟩ ?_
          refine R_br (q := (I 38 0 : Int32) = 0) (t := 52) (f := 44) (rest := []) rfl (fun h3 => ?_) (fun h3 => ?_)
          · skip
            refine R_seg (φ := []) (pc' := 54) (L' := [.ref 1, .int (2), .int i, .int (0), .int j, .int n, .ref 38, .ref 34]) (st' := [.int 1, .ref 1]) (σ' := (mj_KS N, I, mj_PP c d r)) 2 rfl trivial ?_
            refine R_ce (idx := 90) (mid := 91) (kind := 0) (N := N) (M' := mj_m_X5_comeTo) (As := [.ref 1, .int 1]) (rest := []) (I := I) (P := mj_PP c d r) (I' := (s_X5_comeTo 1 I).2) (P' := mj_PP c d r) (v := some (.int ((s_X5_comeTo 1 I).1))) rfl rfl rfl mj_mc91 mj_dc91 rfl rfl rfl rfl rfl rfl (x_X5_comeTo l b base D z N 1 I c d r) ?_
            refine R_seg (φ := []) (pc' := 57) (L' := [.ref 1, .int (2), .int i, .int (0), .int j, .int n, .ref 38, .ref 34]) (st' := [.int ((s_X5_comeTo 1 I).1)]) (σ' := (mj_KS N, (s_X5_comeTo 1 I).2, mj_PP c d r)) 0 rfl trivial ?_
            exact R_ri rfl rfl (mj_leaf (by first | (simp only [s_X5_copy, if_neg h1, if_neg h2, if_pos h3, Bool.false_eq_true, ↓reduceIte, Nat.reduceAdd, Nat.reduceMul, mj_tn0, mj_tn1, mj_tn2, mj_tn3]; done) | contradiction) (by first | (simp only [s_X5_copy, if_neg h1, if_neg h2, if_pos h3, Bool.false_eq_true, ↓reduceIte, Nat.reduceAdd, Nat.reduceMul, mj_tn0, mj_tn1, mj_tn2, mj_tn3]; done) | contradiction))
          · skip
            refine R_seg (φ := []) (pc' := 49) (L' := [.ref 1, .int (2), .int i, .int (0), .int j, .int n, .ref 38, .ref 34]) (st' := [.int (I 34 0)]) (σ' := (mj_KS N, I, mj_PP c d r)) 2 rfl trivial ?_
            refine R_br (q := (I 34 0 : Int32) = 0) (t := 52) (f := 58) (rest := []) rfl (fun h4 => ?_) (fun h4 => ?_)
            · skip
              refine R_seg (φ := []) (pc' := 54) (L' := [.ref 1, .int (2), .int i, .int (0), .int j, .int n, .ref 38, .ref 34]) (st' := [.int 1, .ref 1]) (σ' := (mj_KS N, I, mj_PP c d r)) 2 rfl trivial ?_
              refine R_ce (idx := 90) (mid := 91) (kind := 0) (N := N) (M' := mj_m_X5_comeTo) (As := [.ref 1, .int 1]) (rest := []) (I := I) (P := mj_PP c d r) (I' := (s_X5_comeTo 1 I).2) (P' := mj_PP c d r) (v := some (.int ((s_X5_comeTo 1 I).1))) rfl rfl rfl mj_mc91 mj_dc91 rfl rfl rfl rfl rfl rfl (x_X5_comeTo l b base D z N 1 I c d r) ?_
              refine R_seg (φ := []) (pc' := 57) (L' := [.ref 1, .int (2), .int i, .int (0), .int j, .int n, .ref 38, .ref 34]) (st' := [.int ((s_X5_comeTo 1 I).1)]) (σ' := (mj_KS N, (s_X5_comeTo 1 I).2, mj_PP c d r)) 0 rfl trivial ?_
              exact R_ri rfl rfl (mj_leaf (by first | (simp only [s_X5_copy, if_neg h1, if_neg h2, if_neg h3, if_pos h4, Bool.false_eq_true, ↓reduceIte, Nat.reduceAdd, Nat.reduceMul, mj_tn0, mj_tn1, mj_tn2, mj_tn3]; done) | contradiction) (by first | (simp only [s_X5_copy, if_neg h1, if_neg h2, if_neg h3, if_pos h4, Bool.false_eq_true, ↓reduceIte, Nat.reduceAdd, Nat.reduceMul, mj_tn0, mj_tn1, mj_tn2, mj_tn3]; done) | contradiction))
            · skip
              refine R_seg (φ := []) (pc' := 68) (L' := [.ref 1, .int (2), .int i, .int (0), .int j, .int n, .ref 38, .ref 34]) (st' := [.int (I 34 1), .int (I 38 1)]) (σ' := (mj_KS N, I, mj_PP c d r)) 4 rfl trivial ?_
              refine R_br (q := (I 38 1 : Int32) = I 34 1) (t := 77) (f := 71) (rest := []) rfl (fun h5 => ?_) (fun h5 => ?_)
              · skip
                refine R_seg (φ := []) (pc' := 79) (L' := [.ref 1, .int (2), .int i, .int (0), .int j, .int n, .ref 38, .ref 34]) (st' := [.int n]) (σ' := (mj_KS N, I, mj_PP c d r)) 1 rfl trivial ?_
                refine R_br (q := (n : Int32) < 0) (t := 105) (f := 82) (rest := []) rfl (fun h6 => ?_) (fun h6 => ?_)
                · skip
                  refine R_seg (φ := []) (pc' := 107) (L' := [.ref 1, .int (2), .int i, .int (0), .int j, .int n, .ref 38, .ref 34]) (st' := [.int 3, .ref 1]) (σ' := (mj_KS N, I, mj_PP c d r)) 2 rfl trivial ?_
                  refine R_ce (idx := 90) (mid := 91) (kind := 0) (N := N) (M' := mj_m_X5_comeTo) (As := [.ref 1, .int 3]) (rest := []) (I := I) (P := mj_PP c d r) (I' := (s_X5_comeTo 3 I).2) (P' := mj_PP c d r) (v := some (.int ((s_X5_comeTo 3 I).1))) rfl rfl rfl mj_mc91 mj_dc91 rfl rfl rfl rfl rfl rfl (x_X5_comeTo l b base D z N 3 I c d r) ?_
                  refine R_seg (φ := []) (pc' := 110) (L' := [.ref 1, .int (2), .int i, .int (0), .int j, .int n, .ref 38, .ref 34]) (st' := [.int ((s_X5_comeTo 3 I).1)]) (σ' := (mj_KS N, (s_X5_comeTo 3 I).2, mj_PP c d r)) 0 rfl trivial ?_
                  exact R_ri rfl rfl (mj_leaf (by first | (simp only [s_X5_copy, if_neg h1, if_neg h2, if_neg h3, if_neg h4, if_pos h5, if_pos h6, Bool.false_eq_true, ↓reduceIte, Nat.reduceAdd, Nat.reduceMul, mj_tn0, mj_tn1, mj_tn2, mj_tn3]; done) | contradiction) (by first | (simp only [s_X5_copy, if_neg h1, if_neg h2, if_neg h3, if_neg h4, if_pos h5, if_pos h6, Bool.false_eq_true, ↓reduceIte, Nat.reduceAdd, Nat.reduceMul, mj_tn0, mj_tn1, mj_tn2, mj_tn3]; done) | contradiction))
                · skip
                  refine R_seg (φ := []) (pc' := 87) (L' := [.ref 1, .int (2), .int i, .int (0), .int j, .int n, .ref 38, .ref 34]) (st' := [.int n, .int i, .ref 38]) (σ' := (mj_KS N, I, mj_PP c d r)) 3 rfl trivial ?_
                  refine R_ce (idx := 242) (mid := 36) (kind := 3) (N := N) (M' := mj_m_X4_hasCells) (As := [.ref 38, .int i, .int n]) (rest := []) (I := I) (P := mj_PP c d r) (I' := I) (P' := mj_PP c d r) (v := some (.int (bI (sp_hc (I 38 2) i n)))) rfl rfl rfl mj_mc36 mj_dc36 rfl rfl rfl rfl rfl rfl (x_hasCells l b base D z N 38 (by decide) i n I c d r) ?_
                  refine R_seg (φ := []) (pc' := 90) (L' := [.ref 1, .int (2), .int i, .int (0), .int j, .int n, .ref 38, .ref 34]) (st' := [.int (bI (sp_hc (I 38 2) i n))]) (σ' := (mj_KS N, I, mj_PP c d r)) 0 rfl trivial ?_
                  refine R_br (q := (bI (sp_hc (I 38 2) i n) : Int32) = 0) (t := 105) (f := 93) (rest := []) rfl (fun h7 => ?_) (fun h7 => ?_)
                  · skip
                    replace h7 := bI_0.mp h7
                    refine R_seg (φ := []) (pc' := 107) (L' := [.ref 1, .int (2), .int i, .int (0), .int j, .int n, .ref 38, .ref 34]) (st' := [.int 3, .ref 1]) (σ' := (mj_KS N, I, mj_PP c d r)) 2 rfl trivial ?_
                    refine R_ce (idx := 90) (mid := 91) (kind := 0) (N := N) (M' := mj_m_X5_comeTo) (As := [.ref 1, .int 3]) (rest := []) (I := I) (P := mj_PP c d r) (I' := (s_X5_comeTo 3 I).2) (P' := mj_PP c d r) (v := some (.int ((s_X5_comeTo 3 I).1))) rfl rfl rfl mj_mc91 mj_dc91 rfl rfl rfl rfl rfl rfl (x_X5_comeTo l b base D z N 3 I c d r) ?_
                    refine R_seg (φ := []) (pc' := 110) (L' := [.ref 1, .int (2), .int i, .int (0), .int j, .int n, .ref 38, .ref 34]) (st' := [.int ((s_X5_comeTo 3 I).1)]) (σ' := (mj_KS N, (s_X5_comeTo 3 I).2, mj_PP c d r)) 0 rfl trivial ?_
                    exact R_ri rfl rfl (mj_leaf (by first | (simp only [s_X5_copy, if_neg h1, if_neg h2, if_neg h3, if_neg h4, if_pos h5, if_neg h6, h7, Bool.false_eq_true, ↓reduceIte, Nat.reduceAdd, Nat.reduceMul, mj_tn0, mj_tn1, mj_tn2, mj_tn3]; done) | contradiction) (by first | (simp only [s_X5_copy, if_neg h1, if_neg h2, if_neg h3, if_neg h4, if_pos h5, if_neg h6, h7, Bool.false_eq_true, ↓reduceIte, Nat.reduceAdd, Nat.reduceMul, mj_tn0, mj_tn1, mj_tn2, mj_tn3]; done) | contradiction))
                  · skip
                    replace h7 := bI_1 h7
                    refine R_seg (φ := []) (pc' := 99) (L' := [.ref 1, .int (2), .int i, .int (0), .int j, .int n, .ref 38, .ref 34]) (st' := [.int n, .int j, .ref 34]) (σ' := (mj_KS N, I, mj_PP c d r)) 3 rfl trivial ?_
                    refine R_ce (idx := 242) (mid := 36) (kind := 3) (N := N) (M' := mj_m_X4_hasCells) (As := [.ref 34, .int j, .int n]) (rest := []) (I := I) (P := mj_PP c d r) (I' := I) (P' := mj_PP c d r) (v := some (.int (bI (sp_hc (I 34 2) j n)))) rfl rfl rfl mj_mc36 mj_dc36 rfl rfl rfl rfl rfl rfl (x_hasCells l b base D z N 34 (by decide) j n I c d r) ?_
                    refine R_seg (φ := []) (pc' := 102) (L' := [.ref 1, .int (2), .int i, .int (0), .int j, .int n, .ref 38, .ref 34]) (st' := [.int (bI (sp_hc (I 34 2) j n))]) (σ' := (mj_KS N, I, mj_PP c d r)) 0 rfl trivial ?_
                    refine R_br (q := (bI (sp_hc (I 34 2) j n) : Int32) = 0) (t := 105) (f := 111) (rest := []) rfl (fun h8 => ?_) (fun h8 => ?_)
                    · skip
                      replace h8 := bI_0.mp h8
                      refine R_seg (φ := []) (pc' := 107) (L' := [.ref 1, .int (2), .int i, .int (0), .int j, .int n, .ref 38, .ref 34]) (st' := [.int 3, .ref 1]) (σ' := (mj_KS N, I, mj_PP c d r)) 2 rfl trivial ?_
                      refine R_ce (idx := 90) (mid := 91) (kind := 0) (N := N) (M' := mj_m_X5_comeTo) (As := [.ref 1, .int 3]) (rest := []) (I := I) (P := mj_PP c d r) (I' := (s_X5_comeTo 3 I).2) (P' := mj_PP c d r) (v := some (.int ((s_X5_comeTo 3 I).1))) rfl rfl rfl mj_mc91 mj_dc91 rfl rfl rfl rfl rfl rfl (x_X5_comeTo l b base D z N 3 I c d r) ?_
                      refine R_seg (φ := []) (pc' := 110) (L' := [.ref 1, .int (2), .int i, .int (0), .int j, .int n, .ref 38, .ref 34]) (st' := [.int ((s_X5_comeTo 3 I).1)]) (σ' := (mj_KS N, (s_X5_comeTo 3 I).2, mj_PP c d r)) 0 rfl trivial ?_
                      exact R_ri rfl rfl (mj_leaf (by first | (simp only [s_X5_copy, if_neg h1, if_neg h2, if_neg h3, if_neg h4, if_pos h5, if_neg h6, h7, h8, Bool.false_eq_true, ↓reduceIte, Nat.reduceAdd, Nat.reduceMul, mj_tn0, mj_tn1, mj_tn2, mj_tn3]; done) | contradiction) (by first | (simp only [s_X5_copy, if_neg h1, if_neg h2, if_neg h3, if_neg h4, if_pos h5, if_neg h6, h7, h8, Bool.false_eq_true, ↓reduceIte, Nat.reduceAdd, Nat.reduceMul, mj_tn0, mj_tn1, mj_tn2, mj_tn3]; done) | contradiction))
                    · skip
                      replace h8 := bI_1 h8
                      refine R_seg (φ := [0 ≤ (i : Int32).toInt ∧ 0 ≤ (j : Int32).toInt ∧ 0 ≤ (n : Int32).toInt ∧ (i : Int32).toInt + (n : Int32).toInt ≤ ((60 : Nat) : Int) ∧ (j : Int32).toInt + (n : Int32).toInt ≤ ((60 : Nat) : Int) ∧ ((60 : Nat) : Int) < 2147483648 ∧ ((60 : Nat) : Int) < 2147483648]) (pc' := 136) (L' := [.ref 1, .int (2), .int i, .int (0), .int j, .int n, .ref 38, .ref 34]) (st' := [.int n]) (σ' := (mj_KS N, mj_cpy (mj_upI I 1 13 0) 39 35 i j n, mj_PP c d r)) 12 rfl ⟨mj_cp h6 h7 h8 (hl 2 (by decide)) (hl 0 (by decide)), trivial⟩ ?_
                      exact R_ri rfl rfl (mj_leaf (by first | (simp only [s_X5_copy, if_neg h1, if_neg h2, if_neg h3, if_neg h4, if_pos h5, if_neg h6, h7, h8, Bool.false_eq_true, ↓reduceIte, Nat.reduceAdd, Nat.reduceMul, mj_tn0, mj_tn1, mj_tn2, mj_tn3]; done) | contradiction) (by first | (simp only [s_X5_copy, if_neg h1, if_neg h2, if_neg h3, if_neg h4, if_pos h5, if_neg h6, h7, h8, Bool.false_eq_true, ↓reduceIte, Nat.reduceAdd, Nat.reduceMul, mj_tn0, mj_tn1, mj_tn2, mj_tn3]; done) | contradiction))
              · skip
                refine R_seg (φ := []) (pc' := 73) (L' := [.ref 1, .int (2), .int i, .int (0), .int j, .int n, .ref 38, .ref 34]) (st' := [.int 2, .ref 1]) (σ' := (mj_KS N, I, mj_PP c d r)) 2 rfl trivial ?_
                refine R_ce (idx := 90) (mid := 91) (kind := 0) (N := N) (M' := mj_m_X5_comeTo) (As := [.ref 1, .int 2]) (rest := []) (I := I) (P := mj_PP c d r) (I' := (s_X5_comeTo 2 I).2) (P' := mj_PP c d r) (v := some (.int ((s_X5_comeTo 2 I).1))) rfl rfl rfl mj_mc91 mj_dc91 rfl rfl rfl rfl rfl rfl (x_X5_comeTo l b base D z N 2 I c d r) ?_
                refine R_seg (φ := []) (pc' := 76) (L' := [.ref 1, .int (2), .int i, .int (0), .int j, .int n, .ref 38, .ref 34]) (st' := [.int ((s_X5_comeTo 2 I).1)]) (σ' := (mj_KS N, (s_X5_comeTo 2 I).2, mj_PP c d r)) 0 rfl trivial ?_
                exact R_ri rfl rfl (mj_leaf (by first | (simp only [s_X5_copy, if_neg h1, if_neg h2, if_neg h3, if_neg h4, if_neg h5, Bool.false_eq_true, ↓reduceIte, Nat.reduceAdd, Nat.reduceMul, mj_tn0, mj_tn1, mj_tn2, mj_tn3]; done) | contradiction) (by first | (simp only [s_X5_copy, if_neg h1, if_neg h2, if_neg h3, if_neg h4, if_neg h5, Bool.false_eq_true, ↓reduceIte, Nat.reduceAdd, Nat.reduceMul, mj_tn0, mj_tn1, mj_tn2, mj_tn3]; done) | contradiction))
        · skip
          refine R_seg (φ := [mj_in (2) 4, mj_in (1) 4]) (pc' := 41) (L' := [.ref 1, .int (2), .int i, .int (1), .int j, .int n, .ref 38, .ref 36]) (st' := [.int (I 38 0)]) (σ' := (mj_KS N, I, mj_PP c d r)) 11 rfl ⟨mj_in_d (by decide), mj_in_d (by decide), trivial⟩ ?_
          refine R_br (q := (I 38 0 : Int32) = 0) (t := 52) (f := 44) (rest := []) rfl (fun h3 => ?_) (fun h3 => ?_)
          · skip
            refine R_seg (φ := []) (pc' := 54) (L' := [.ref 1, .int (2), .int i, .int (1), .int j, .int n, .ref 38, .ref 36]) (st' := [.int 1, .ref 1]) (σ' := (mj_KS N, I, mj_PP c d r)) 2 rfl trivial ?_
            refine R_ce (idx := 90) (mid := 91) (kind := 0) (N := N) (M' := mj_m_X5_comeTo) (As := [.ref 1, .int 1]) (rest := []) (I := I) (P := mj_PP c d r) (I' := (s_X5_comeTo 1 I).2) (P' := mj_PP c d r) (v := some (.int ((s_X5_comeTo 1 I).1))) rfl rfl rfl mj_mc91 mj_dc91 rfl rfl rfl rfl rfl rfl (x_X5_comeTo l b base D z N 1 I c d r) ?_
            refine R_seg (φ := []) (pc' := 57) (L' := [.ref 1, .int (2), .int i, .int (1), .int j, .int n, .ref 38, .ref 36]) (st' := [.int ((s_X5_comeTo 1 I).1)]) (σ' := (mj_KS N, (s_X5_comeTo 1 I).2, mj_PP c d r)) 0 rfl trivial ?_
            exact R_ri rfl rfl (mj_leaf (by first | (simp only [s_X5_copy, if_neg h1, if_neg h2, if_pos h3, Bool.false_eq_true, ↓reduceIte, Nat.reduceAdd, Nat.reduceMul, mj_tn0, mj_tn1, mj_tn2, mj_tn3]; done) | contradiction) (by first | (simp only [s_X5_copy, if_neg h1, if_neg h2, if_pos h3, Bool.false_eq_true, ↓reduceIte, Nat.reduceAdd, Nat.reduceMul, mj_tn0, mj_tn1, mj_tn2, mj_tn3]; done) | contradiction))
          · skip
            refine R_seg (φ := []) (pc' := 49) (L' := [.ref 1, .int (2), .int i, .int (1), .int j, .int n, .ref 38, .ref 36]) (st' := [.int (I 36 0)]) (σ' := (mj_KS N, I, mj_PP c d r)) 2 rfl trivial ?_
            refine R_br (q := (I 36 0 : Int32) = 0) (t := 52) (f := 58) (rest := []) rfl (fun h4 => ?_) (fun h4 => ?_)
            · skip
              refine R_seg (φ := []) (pc' := 54) (L' := [.ref 1, .int (2), .int i, .int (1), .int j, .int n, .ref 38, .ref 36]) (st' := [.int 1, .ref 1]) (σ' := (mj_KS N, I, mj_PP c d r)) 2 rfl trivial ?_
              refine R_ce (idx := 90) (mid := 91) (kind := 0) (N := N) (M' := mj_m_X5_comeTo) (As := [.ref 1, .int 1]) (rest := []) (I := I) (P := mj_PP c d r) (I' := (s_X5_comeTo 1 I).2) (P' := mj_PP c d r) (v := some (.int ((s_X5_comeTo 1 I).1))) rfl rfl rfl mj_mc91 mj_dc91 rfl rfl rfl rfl rfl rfl (x_X5_comeTo l b base D z N 1 I c d r) ?_
              refine R_seg (φ := []) (pc' := 57) (L' := [.ref 1, .int (2), .int i, .int (1), .int j, .int n, .ref 38, .ref 36]) (st' := [.int ((s_X5_comeTo 1 I).1)]) (σ' := (mj_KS N, (s_X5_comeTo 1 I).2, mj_PP c d r)) 0 rfl trivial ?_
              exact R_ri rfl rfl (mj_leaf (by first | (simp only [s_X5_copy, if_neg h1, if_neg h2, if_neg h3, if_pos h4, Bool.false_eq_true, ↓reduceIte, Nat.reduceAdd, Nat.reduceMul, mj_tn0, mj_tn1, mj_tn2, mj_tn3]; done) | contradiction) (by first | (simp only [s_X5_copy, if_neg h1, if_neg h2, if_neg h3, if_pos h4, Bool.false_eq_true, ↓reduceIte, Nat.reduceAdd, Nat.reduceMul, mj_tn0, mj_tn1, mj_tn2, mj_tn3]; done) | contradiction))
            · skip
              refine R_seg (φ := []) (pc' := 68) (L' := [.ref 1, .int (2), .int i, .int (1), .int j, .int n, .ref 38, .ref 36]) (st' := [.int (I 36 1), .int (I 38 1)]) (σ' := (mj_KS N, I, mj_PP c d r)) 4 rfl trivial ?_
              refine R_br (q := (I 38 1 : Int32) = I 36 1) (t := 77) (f := 71) (rest := []) rfl (fun h5 => ?_) (fun h5 => ?_)
              · skip
                refine R_seg (φ := []) (pc' := 79) (L' := [.ref 1, .int (2), .int i, .int (1), .int j, .int n, .ref 38, .ref 36]) (st' := [.int n]) (σ' := (mj_KS N, I, mj_PP c d r)) 1 rfl trivial ?_
                refine R_br (q := (n : Int32) < 0) (t := 105) (f := 82) (rest := []) rfl (fun h6 => ?_) (fun h6 => ?_)
                · skip
                  refine R_seg (φ := []) (pc' := 107) (L' := [.ref 1, .int (2), .int i, .int (1), .int j, .int n, .ref 38, .ref 36]) (st' := [.int 3, .ref 1]) (σ' := (mj_KS N, I, mj_PP c d r)) 2 rfl trivial ?_
                  refine R_ce (idx := 90) (mid := 91) (kind := 0) (N := N) (M' := mj_m_X5_comeTo) (As := [.ref 1, .int 3]) (rest := []) (I := I) (P := mj_PP c d r) (I' := (s_X5_comeTo 3 I).2) (P' := mj_PP c d r) (v := some (.int ((s_X5_comeTo 3 I).1))) rfl rfl rfl mj_mc91 mj_dc91 rfl rfl rfl rfl rfl rfl (x_X5_comeTo l b base D z N 3 I c d r) ?_
                  refine R_seg (φ := []) (pc' := 110) (L' := [.ref 1, .int (2), .int i, .int (1), .int j, .int n, .ref 38, .ref 36]) (st' := [.int ((s_X5_comeTo 3 I).1)]) (σ' := (mj_KS N, (s_X5_comeTo 3 I).2, mj_PP c d r)) 0 rfl trivial ?_
                  exact R_ri rfl rfl (mj_leaf (by first | (simp only [s_X5_copy, if_neg h1, if_neg h2, if_neg h3, if_neg h4, if_pos h5, if_pos h6, Bool.false_eq_true, ↓reduceIte, Nat.reduceAdd, Nat.reduceMul, mj_tn0, mj_tn1, mj_tn2, mj_tn3]; done) | contradiction) (by first | (simp only [s_X5_copy, if_neg h1, if_neg h2, if_neg h3, if_neg h4, if_pos h5, if_pos h6, Bool.false_eq_true, ↓reduceIte, Nat.reduceAdd, Nat.reduceMul, mj_tn0, mj_tn1, mj_tn2, mj_tn3]; done) | contradiction))
                · skip
                  refine R_seg (φ := []) (pc' := 87) (L' := [.ref 1, .int (2), .int i, .int (1), .int j, .int n, .ref 38, .ref 36]) (st' := [.int n, .int i, .ref 38]) (σ' := (mj_KS N, I, mj_PP c d r)) 3 rfl trivial ?_
                  refine R_ce (idx := 242) (mid := 36) (kind := 3) (N := N) (M' := mj_m_X4_hasCells) (As := [.ref 38, .int i, .int n]) (rest := []) (I := I) (P := mj_PP c d r) (I' := I) (P' := mj_PP c d r) (v := some (.int (bI (sp_hc (I 38 2) i n)))) rfl rfl rfl mj_mc36 mj_dc36 rfl rfl rfl rfl rfl rfl (x_hasCells l b base D z N 38 (by decide) i n I c d r) ?_
                  refine R_seg (φ := []) (pc' := 90) (L' := [.ref 1, .int (2), .int i, .int (1), .int j, .int n, .ref 38, .ref 36]) (st' := [.int (bI (sp_hc (I 38 2) i n))]) (σ' := (mj_KS N, I, mj_PP c d r)) 0 rfl trivial ?_
                  refine R_br (q := (bI (sp_hc (I 38 2) i n) : Int32) = 0) (t := 105) (f := 93) (rest := []) rfl (fun h7 => ?_) (fun h7 => ?_)
                  · skip
                    replace h7 := bI_0.mp h7
                    refine R_seg (φ := []) (pc' := 107) (L' := [.ref 1, .int (2), .int i, .int (1), .int j, .int n, .ref 38, .ref 36]) (st' := [.int 3, .ref 1]) (σ' := (mj_KS N, I, mj_PP c d r)) 2 rfl trivial ?_
                    refine R_ce (idx := 90) (mid := 91) (kind := 0) (N := N) (M' := mj_m_X5_comeTo) (As := [.ref 1, .int 3]) (rest := []) (I := I) (P := mj_PP c d r) (I' := (s_X5_comeTo 3 I).2) (P' := mj_PP c d r) (v := some (.int ((s_X5_comeTo 3 I).1))) rfl rfl rfl mj_mc91 mj_dc91 rfl rfl rfl rfl rfl rfl (x_X5_comeTo l b base D z N 3 I c d r) ?_
                    refine R_seg (φ := []) (pc' := 110) (L' := [.ref 1, .int (2), .int i, .int (1), .int j, .int n, .ref 38, .ref 36]) (st' := [.int ((s_X5_comeTo 3 I).1)]) (σ' := (mj_KS N, (s_X5_comeTo 3 I).2, mj_PP c d r)) 0 rfl trivial ?_
                    exact R_ri rfl rfl (mj_leaf (by first | (simp only [s_X5_copy, if_neg h1, if_neg h2, if_neg h3, if_neg h4, if_pos h5, if_neg h6, h7, Bool.false_eq_true, ↓reduceIte, Nat.reduceAdd, Nat.reduceMul, mj_tn0, mj_tn1, mj_tn2, mj_tn3]; done) | contradiction) (by first | (simp only [s_X5_copy, if_neg h1, if_neg h2, if_neg h3, if_neg h4, if_pos h5, if_neg h6, h7, Bool.false_eq_true, ↓reduceIte, Nat.reduceAdd, Nat.reduceMul, mj_tn0, mj_tn1, mj_tn2, mj_tn3]; done) | contradiction))
                  · skip
                    replace h7 := bI_1 h7
                    refine R_seg (φ := []) (pc' := 99) (L' := [.ref 1, .int (2), .int i, .int (1), .int j, .int n, .ref 38, .ref 36]) (st' := [.int n, .int j, .ref 36]) (σ' := (mj_KS N, I, mj_PP c d r)) 3 rfl trivial ?_
                    refine R_ce (idx := 242) (mid := 36) (kind := 3) (N := N) (M' := mj_m_X4_hasCells) (As := [.ref 36, .int j, .int n]) (rest := []) (I := I) (P := mj_PP c d r) (I' := I) (P' := mj_PP c d r) (v := some (.int (bI (sp_hc (I 36 2) j n)))) rfl rfl rfl mj_mc36 mj_dc36 rfl rfl rfl rfl rfl rfl (x_hasCells l b base D z N 36 (by decide) j n I c d r) ?_
                    refine R_seg (φ := []) (pc' := 102) (L' := [.ref 1, .int (2), .int i, .int (1), .int j, .int n, .ref 38, .ref 36]) (st' := [.int (bI (sp_hc (I 36 2) j n))]) (σ' := (mj_KS N, I, mj_PP c d r)) 0 rfl trivial ?_
                    refine R_br (q := (bI (sp_hc (I 36 2) j n) : Int32) = 0) (t := 105) (f := 111) (rest := []) rfl (fun h8 => ?_) (fun h8 => ?_)
                    · skip
                      replace h8 := bI_0.mp h8
                      refine R_seg (φ := []) (pc' := 107) (L' := [.ref 1, .int (2), .int i, .int (1), .int j, .int n, .ref 38, .ref 36]) (st' := [.int 3, .ref 1]) (σ' := (mj_KS N, I, mj_PP c d r)) 2 rfl trivial ?_
                      refine R_ce (idx := 90) (mid := 91) (kind := 0) (N := N) (M' := mj_m_X5_comeTo) (As := [.ref 1, .int 3]) (rest := []) (I := I) (P := mj_PP c d r) (I' := (s_X5_comeTo 3 I).2) (P' := mj_PP c d r) (v := some (.int ((s_X5_comeTo 3 I).1))) rfl rfl rfl mj_mc91 mj_dc91 rfl rfl rfl rfl rfl rfl (x_X5_comeTo l b base D z N 3 I c d r) ?_
                      refine R_seg (φ := []) (pc' := 110) (L' := [.ref 1, .int (2), .int i, .int (1), .int j, .int n, .ref 38, .ref 36]) (st' := [.int ((s_X5_comeTo 3 I).1)]) (σ' := (mj_KS N, (s_X5_comeTo 3 I).2, mj_PP c d r)) 0 rfl trivial ?_
                      exact R_ri rfl rfl (mj_leaf (by first | (simp only [s_X5_copy, if_neg h1, if_neg h2, if_neg h3, if_neg h4, if_pos h5, if_neg h6, h7, h8, Bool.false_eq_true, ↓reduceIte, Nat.reduceAdd, Nat.reduceMul, mj_tn0, mj_tn1, mj_tn2, mj_tn3]; done) | contradiction) (by first | (simp only [s_X5_copy, if_neg h1, if_neg h2, if_neg h3, if_neg h4, if_pos h5, if_neg h6, h7, h8, Bool.false_eq_true, ↓reduceIte, Nat.reduceAdd, Nat.reduceMul, mj_tn0, mj_tn1, mj_tn2, mj_tn3]; done) | contradiction))
                    · skip
                      replace h8 := bI_1 h8
                      refine R_seg (φ := [0 ≤ (i : Int32).toInt ∧ 0 ≤ (j : Int32).toInt ∧ 0 ≤ (n : Int32).toInt ∧ (i : Int32).toInt + (n : Int32).toInt ≤ ((60 : Nat) : Int) ∧ (j : Int32).toInt + (n : Int32).toInt ≤ ((60 : Nat) : Int) ∧ ((60 : Nat) : Int) < 2147483648 ∧ ((60 : Nat) : Int) < 2147483648]) (pc' := 136) (L' := [.ref 1, .int (2), .int i, .int (1), .int j, .int n, .ref 38, .ref 36]) (st' := [.int n]) (σ' := (mj_KS N, mj_cpy (mj_upI I 1 13 0) 39 37 i j n, mj_PP c d r)) 12 rfl ⟨mj_cp h6 h7 h8 (hl 2 (by decide)) (hl 1 (by decide)), trivial⟩ ?_
                      exact R_ri rfl rfl (mj_leaf (by first | (simp only [s_X5_copy, if_neg h1, if_neg h2, if_neg h3, if_neg h4, if_pos h5, if_neg h6, h7, h8, Bool.false_eq_true, ↓reduceIte, Nat.reduceAdd, Nat.reduceMul, mj_tn0, mj_tn1, mj_tn2, mj_tn3]; done) | contradiction) (by first | (simp only [s_X5_copy, if_neg h1, if_neg h2, if_neg h3, if_neg h4, if_pos h5, if_neg h6, h7, h8, Bool.false_eq_true, ↓reduceIte, Nat.reduceAdd, Nat.reduceMul, mj_tn0, mj_tn1, mj_tn2, mj_tn3]; done) | contradiction))
              · skip
                refine R_seg (φ := []) (pc' := 73) (L' := [.ref 1, .int (2), .int i, .int (1), .int j, .int n, .ref 38, .ref 36]) (st' := [.int 2, .ref 1]) (σ' := (mj_KS N, I, mj_PP c d r)) 2 rfl trivial ?_
                refine R_ce (idx := 90) (mid := 91) (kind := 0) (N := N) (M' := mj_m_X5_comeTo) (As := [.ref 1, .int 2]) (rest := []) (I := I) (P := mj_PP c d r) (I' := (s_X5_comeTo 2 I).2) (P' := mj_PP c d r) (v := some (.int ((s_X5_comeTo 2 I).1))) rfl rfl rfl mj_mc91 mj_dc91 rfl rfl rfl rfl rfl rfl (x_X5_comeTo l b base D z N 2 I c d r) ?_
                refine R_seg (φ := []) (pc' := 76) (L' := [.ref 1, .int (2), .int i, .int (1), .int j, .int n, .ref 38, .ref 36]) (st' := [.int ((s_X5_comeTo 2 I).1)]) (σ' := (mj_KS N, (s_X5_comeTo 2 I).2, mj_PP c d r)) 0 rfl trivial ?_
                exact R_ri rfl rfl (mj_leaf (by first | (simp only [s_X5_copy, if_neg h1, if_neg h2, if_neg h3, if_neg h4, if_neg h5, Bool.false_eq_true, ↓reduceIte, Nat.reduceAdd, Nat.reduceMul, mj_tn0, mj_tn1, mj_tn2, mj_tn3]; done) | contradiction) (by first | (simp only [s_X5_copy, if_neg h1, if_neg h2, if_neg h3, if_neg h4, if_neg h5, Bool.false_eq_true, ↓reduceIte, Nat.reduceAdd, Nat.reduceMul, mj_tn0, mj_tn1, mj_tn2, mj_tn3]; done) | contradiction))
        · skip
          refine R_seg (φ := [mj_in (2) 4, mj_in (2) 4]) (pc' := 41) (L' := [.ref 1, .int (2), .int i, .int (2), .int j, .int n, .ref 38, .ref 38]) (st' := [.int (I 38 0)]) (σ' := (mj_KS N, I, mj_PP c d r)) 11 rfl ⟨mj_in_d (by decide), mj_in_d (by decide), trivial⟩ ?_
          refine R_br (q := (I 38 0 : Int32) = 0) (t := 52) (f := 44) (rest := []) rfl (fun h3 => ?_) (fun h3 => ?_)
          · skip
            refine R_seg (φ := []) (pc' := 54) (L' := [.ref 1, .int (2), .int i, .int (2), .int j, .int n, .ref 38, .ref 38]) (st' := [.int 1, .ref 1]) (σ' := (mj_KS N, I, mj_PP c d r)) 2 rfl trivial ?_
            refine R_ce (idx := 90) (mid := 91) (kind := 0) (N := N) (M' := mj_m_X5_comeTo) (As := [.ref 1, .int 1]) (rest := []) (I := I) (P := mj_PP c d r) (I' := (s_X5_comeTo 1 I).2) (P' := mj_PP c d r) (v := some (.int ((s_X5_comeTo 1 I).1))) rfl rfl rfl mj_mc91 mj_dc91 rfl rfl rfl rfl rfl rfl (x_X5_comeTo l b base D z N 1 I c d r) ?_
            refine R_seg (φ := []) (pc' := 57) (L' := [.ref 1, .int (2), .int i, .int (2), .int j, .int n, .ref 38, .ref 38]) (st' := [.int ((s_X5_comeTo 1 I).1)]) (σ' := (mj_KS N, (s_X5_comeTo 1 I).2, mj_PP c d r)) 0 rfl trivial ?_
            exact R_ri rfl rfl (mj_leaf (by first | (simp only [s_X5_copy, if_neg h1, if_neg h2, if_pos h3, Bool.false_eq_true, ↓reduceIte, Nat.reduceAdd, Nat.reduceMul, mj_tn0, mj_tn1, mj_tn2, mj_tn3]; done) | contradiction) (by first | (simp only [s_X5_copy, if_neg h1, if_neg h2, if_pos h3, Bool.false_eq_true, ↓reduceIte, Nat.reduceAdd, Nat.reduceMul, mj_tn0, mj_tn1, mj_tn2, mj_tn3]; done) | contradiction))
          · skip
            refine R_seg (φ := []) (pc' := 49) (L' := [.ref 1, .int (2), .int i, .int (2), .int j, .int n, .ref 38, .ref 38]) (st' := [.int (I 38 0)]) (σ' := (mj_KS N, I, mj_PP c d r)) 2 rfl trivial ?_
            refine R_br (q := (I 38 0 : Int32) = 0) (t := 52) (f := 58) (rest := []) rfl (fun h4 => ?_) (fun h4 => ?_)
            · skip
              refine R_seg (φ := []) (pc' := 54) (L' := [.ref 1, .int (2), .int i, .int (2), .int j, .int n, .ref 38, .ref 38]) (st' := [.int 1, .ref 1]) (σ' := (mj_KS N, I, mj_PP c d r)) 2 rfl trivial ?_
              refine R_ce (idx := 90) (mid := 91) (kind := 0) (N := N) (M' := mj_m_X5_comeTo) (As := [.ref 1, .int 1]) (rest := []) (I := I) (P := mj_PP c d r) (I' := (s_X5_comeTo 1 I).2) (P' := mj_PP c d r) (v := some (.int ((s_X5_comeTo 1 I).1))) rfl rfl rfl mj_mc91 mj_dc91 rfl rfl rfl rfl rfl rfl (x_X5_comeTo l b base D z N 1 I c d r) ?_
              refine R_seg (φ := []) (pc' := 57) (L' := [.ref 1, .int (2), .int i, .int (2), .int j, .int n, .ref 38, .ref 38]) (st' := [.int ((s_X5_comeTo 1 I).1)]) (σ' := (mj_KS N, (s_X5_comeTo 1 I).2, mj_PP c d r)) 0 rfl trivial ?_
              exact R_ri rfl rfl (mj_leaf (by first | (simp only [s_X5_copy, if_neg h1, if_neg h2, if_neg h3, if_pos h4, Bool.false_eq_true, ↓reduceIte, Nat.reduceAdd, Nat.reduceMul, mj_tn0, mj_tn1, mj_tn2, mj_tn3]; done) | contradiction) (by first | (simp only [s_X5_copy, if_neg h1, if_neg h2, if_neg h3, if_pos h4, Bool.false_eq_true, ↓reduceIte, Nat.reduceAdd, Nat.reduceMul, mj_tn0, mj_tn1, mj_tn2, mj_tn3]; done) | contradiction))
            · skip
              refine R_seg (φ := []) (pc' := 68) (L' := [.ref 1, .int (2), .int i, .int (2), .int j, .int n, .ref 38, .ref 38]) (st' := [.int (I 38 1), .int (I 38 1)]) (σ' := (mj_KS N, I, mj_PP c d r)) 4 rfl trivial ?_
              refine R_br (q := (I 38 1 : Int32) = I 38 1) (t := 77) (f := 71) (rest := []) rfl (fun h5 => ?_) (fun h5 => ?_)
              · skip
                refine R_seg (φ := []) (pc' := 79) (L' := [.ref 1, .int (2), .int i, .int (2), .int j, .int n, .ref 38, .ref 38]) (st' := [.int n]) (σ' := (mj_KS N, I, mj_PP c d r)) 1 rfl trivial ?_
                refine R_br (q := (n : Int32) < 0) (t := 105) (f := 82) (rest := []) rfl (fun h6 => ?_) (fun h6 => ?_)
                · skip
                  refine R_seg (φ := []) (pc' := 107) (L' := [.ref 1, .int (2), .int i, .int (2), .int j, .int n, .ref 38, .ref 38]) (st' := [.int 3, .ref 1]) (σ' := (mj_KS N, I, mj_PP c d r)) 2 rfl trivial ?_
                  refine R_ce (idx := 90) (mid := 91) (kind := 0) (N := N) (M' := mj_m_X5_comeTo) (As := [.ref 1, .int 3]) (rest := []) (I := I) (P := mj_PP c d r) (I' := (s_X5_comeTo 3 I).2) (P' := mj_PP c d r) (v := some (.int ((s_X5_comeTo 3 I).1))) rfl rfl rfl mj_mc91 mj_dc91 rfl rfl rfl rfl rfl rfl (x_X5_comeTo l b base D z N 3 I c d r) ?_
                  refine R_seg (φ := []) (pc' := 110) (L' := [.ref 1, .int (2), .int i, .int (2), .int j, .int n, .ref 38, .ref 38]) (st' := [.int ((s_X5_comeTo 3 I).1)]) (σ' := (mj_KS N, (s_X5_comeTo 3 I).2, mj_PP c d r)) 0 rfl trivial ?_
                  exact R_ri rfl rfl (mj_leaf (by first | (simp only [s_X5_copy, if_neg h1, if_neg h2, if_neg h3, if_neg h4, if_pos h5, if_pos h6, Bool.false_eq_true, ↓reduceIte, Nat.reduceAdd, Nat.reduceMul, mj_tn0, mj_tn1, mj_tn2, mj_tn3]; done) | contradiction) (by first | (simp only [s_X5_copy, if_neg h1, if_neg h2, if_neg h3, if_neg h4, if_pos h5, if_pos h6, Bool.false_eq_true, ↓reduceIte, Nat.reduceAdd, Nat.reduceMul, mj_tn0, mj_tn1, mj_tn2, mj_tn3]; done) | contradiction))
                · skip
                  refine R_seg (φ := []) (pc' := 87) (L' := [.ref 1, .int (2), .int i, .int (2), .int j, .int n, .ref 38, .ref 38]) (st' := [.int n, .int i, .ref 38]) (σ' := (mj_KS N, I, mj_PP c d r)) 3 rfl trivial ?_
                  refine R_ce (idx := 242) (mid := 36) (kind := 3) (N := N) (M' := mj_m_X4_hasCells) (As := [.ref 38, .int i, .int n]) (rest := []) (I := I) (P := mj_PP c d r) (I' := I) (P' := mj_PP c d r) (v := some (.int (bI (sp_hc (I 38 2) i n)))) rfl rfl rfl mj_mc36 mj_dc36 rfl rfl rfl rfl rfl rfl (x_hasCells l b base D z N 38 (by decide) i n I c d r) ?_
                  refine R_seg (φ := []) (pc' := 90) (L' := [.ref 1, .int (2), .int i, .int (2), .int j, .int n, .ref 38, .ref 38]) (st' := [.int (bI (sp_hc (I 38 2) i n))]) (σ' := (mj_KS N, I, mj_PP c d r)) 0 rfl trivial ?_
                  refine R_br (q := (bI (sp_hc (I 38 2) i n) : Int32) = 0) (t := 105) (f := 93) (rest := []) rfl (fun h7 => ?_) (fun h7 => ?_)
                  · skip
                    replace h7 := bI_0.mp h7
                    refine R_seg (φ := []) (pc' := 107) (L' := [.ref 1, .int (2), .int i, .int (2), .int j, .int n, .ref 38, .ref 38]) (st' := [.int 3, .ref 1]) (σ' := (mj_KS N, I, mj_PP c d r)) 2 rfl trivial ?_
                    refine R_ce (idx := 90) (mid := 91) (kind := 0) (N := N) (M' := mj_m_X5_comeTo) (As := [.ref 1, .int 3]) (rest := []) (I := I) (P := mj_PP c d r) (I' := (s_X5_comeTo 3 I).2) (P' := mj_PP c d r) (v := some (.int ((s_X5_comeTo 3 I).1))) rfl rfl rfl mj_mc91 mj_dc91 rfl rfl rfl rfl rfl rfl (x_X5_comeTo l b base D z N 3 I c d r) ?_
                    refine R_seg (φ := []) (pc' := 110) (L' := [.ref 1, .int (2), .int i, .int (2), .int j, .int n, .ref 38, .ref 38]) (st' := [.int ((s_X5_comeTo 3 I).1)]) (σ' := (mj_KS N, (s_X5_comeTo 3 I).2, mj_PP c d r)) 0 rfl trivial ?_
                    exact R_ri rfl rfl (mj_leaf (by first | (simp only [s_X5_copy, if_neg h1, if_neg h2, if_neg h3, if_neg h4, if_pos h5, if_neg h6, h7, Bool.false_eq_true, ↓reduceIte, Nat.reduceAdd, Nat.reduceMul, mj_tn0, mj_tn1, mj_tn2, mj_tn3]; done) | contradiction) (by first | (simp only [s_X5_copy, if_neg h1, if_neg h2, if_neg h3, if_neg h4, if_pos h5, if_neg h6, h7, Bool.false_eq_true, ↓reduceIte, Nat.reduceAdd, Nat.reduceMul, mj_tn0, mj_tn1, mj_tn2, mj_tn3]; done) | contradiction))
                  · skip
                    replace h7 := bI_1 h7
                    refine R_seg (φ := []) (pc' := 99) (L' := [.ref 1, .int (2), .int i, .int (2), .int j, .int n, .ref 38, .ref 38]) (st' := [.int n, .int j, .ref 38]) (σ' := (mj_KS N, I, mj_PP c d r)) 3 rfl trivial ?_
                    refine R_ce (idx := 242) (mid := 36) (kind := 3) (N := N) (M' := mj_m_X4_hasCells) (As := [.ref 38, .int j, .int n]) (rest := []) (I := I) (P := mj_PP c d r) (I' := I) (P' := mj_PP c d r) (v := some (.int (bI (sp_hc (I 38 2) j n)))) rfl rfl rfl mj_mc36 mj_dc36 rfl rfl rfl rfl rfl rfl (x_hasCells l b base D z N 38 (by decide) j n I c d r) ?_
                    refine R_seg (φ := []) (pc' := 102) (L' := [.ref 1, .int (2), .int i, .int (2), .int j, .int n, .ref 38, .ref 38]) (st' := [.int (bI (sp_hc (I 38 2) j n))]) (σ' := (mj_KS N, I, mj_PP c d r)) 0 rfl trivial ?_
                    refine R_br (q := (bI (sp_hc (I 38 2) j n) : Int32) = 0) (t := 105) (f := 111) (rest := []) rfl (fun h8 => ?_) (fun h8 => ?_)
                    · skip
                      replace h8 := bI_0.mp h8
                      refine R_seg (φ := []) (pc' := 107) (L' := [.ref 1, .int (2), .int i, .int (2), .int j, .int n, .ref 38, .ref 38]) (st' := [.int 3, .ref 1]) (σ' := (mj_KS N, I, mj_PP c d r)) 2 rfl trivial ?_
                      refine R_ce (idx := 90) (mid := 91) (kind := 0) (N := N) (M' := mj_m_X5_comeTo) (As := [.ref 1, .int 3]) (rest := []) (I := I) (P := mj_PP c d r) (I' := (s_X5_comeTo 3 I).2) (P' := mj_PP c d r) (v := some (.int ((s_X5_comeTo 3 I).1))) rfl rfl rfl mj_mc91 mj_dc91 rfl rfl rfl rfl rfl rfl (x_X5_comeTo l b base D z N 3 I c d r) ?_
                      refine R_seg (φ := []) (pc' := 110) (L' := [.ref 1, .int (2), .int i, .int (2), .int j, .int n, .ref 38, .ref 38]) (st' := [.int ((s_X5_comeTo 3 I).1)]) (σ' := (mj_KS N, (s_X5_comeTo 3 I).2, mj_PP c d r)) 0 rfl trivial ?_
                      exact R_ri rfl rfl (mj_leaf (by first | (simp only [s_X5_copy, if_neg h1, if_neg h2, if_neg h3, if_neg h4, if_pos h5, if_neg h6, h7, h8, Bool.false_eq_true, ↓reduceIte, Nat.reduceAdd, Nat.reduceMul, mj_tn0, mj_tn1, mj_tn2, mj_tn3]; done) | contradiction) (by first | (simp only [s_X5_copy, if_neg h1, if_neg h2, if_neg h3, if_neg h4, if_pos h5, if_neg h6, h7, h8, Bool.false_eq_true, ↓reduceIte, Nat.reduceAdd, Nat.reduceMul, mj_tn0, mj_tn1, mj_tn2, mj_tn3]; done) | contradiction))
                    · skip
                      replace h8 := bI_1 h8
                      refine R_seg (φ := [0 ≤ (i : Int32).toInt ∧ 0 ≤ (j : Int32).toInt ∧ 0 ≤ (n : Int32).toInt ∧ (i : Int32).toInt + (n : Int32).toInt ≤ ((60 : Nat) : Int) ∧ (j : Int32).toInt + (n : Int32).toInt ≤ ((60 : Nat) : Int) ∧ ((60 : Nat) : Int) < 2147483648 ∧ ((60 : Nat) : Int) < 2147483648]) (pc' := 136) (L' := [.ref 1, .int (2), .int i, .int (2), .int j, .int n, .ref 38, .ref 38]) (st' := [.int n]) (σ' := (mj_KS N, mj_cpy (mj_upI I 1 13 0) 39 39 i j n, mj_PP c d r)) 12 rfl ⟨mj_cp h6 h7 h8 (hl 2 (by decide)) (hl 2 (by decide)), trivial⟩ ?_
                      exact R_ri rfl rfl (mj_leaf (by first | (simp only [s_X5_copy, if_neg h1, if_neg h2, if_neg h3, if_neg h4, if_pos h5, if_neg h6, h7, h8, Bool.false_eq_true, ↓reduceIte, Nat.reduceAdd, Nat.reduceMul, mj_tn0, mj_tn1, mj_tn2, mj_tn3]; done) | contradiction) (by first | (simp only [s_X5_copy, if_neg h1, if_neg h2, if_neg h3, if_neg h4, if_pos h5, if_neg h6, h7, h8, Bool.false_eq_true, ↓reduceIte, Nat.reduceAdd, Nat.reduceMul, mj_tn0, mj_tn1, mj_tn2, mj_tn3]; done) | contradiction))
              · skip
                refine R_seg (φ := []) (pc' := 73) (L' := [.ref 1, .int (2), .int i, .int (2), .int j, .int n, .ref 38, .ref 38]) (st' := [.int 2, .ref 1]) (σ' := (mj_KS N, I, mj_PP c d r)) 2 rfl trivial ?_
                refine R_ce (idx := 90) (mid := 91) (kind := 0) (N := N) (M' := mj_m_X5_comeTo) (As := [.ref 1, .int 2]) (rest := []) (I := I) (P := mj_PP c d r) (I' := (s_X5_comeTo 2 I).2) (P' := mj_PP c d r) (v := some (.int ((s_X5_comeTo 2 I).1))) rfl rfl rfl mj_mc91 mj_dc91 rfl rfl rfl rfl rfl rfl (x_X5_comeTo l b base D z N 2 I c d r) ?_
                refine R_seg (φ := []) (pc' := 76) (L' := [.ref 1, .int (2), .int i, .int (2), .int j, .int n, .ref 38, .ref 38]) (st' := [.int ((s_X5_comeTo 2 I).1)]) (σ' := (mj_KS N, (s_X5_comeTo 2 I).2, mj_PP c d r)) 0 rfl trivial ?_
                exact R_ri rfl rfl (mj_leaf (by first | (simp only [s_X5_copy, if_neg h1, if_neg h2, if_neg h3, if_neg h4, if_neg h5, Bool.false_eq_true, ↓reduceIte, Nat.reduceAdd, Nat.reduceMul, mj_tn0, mj_tn1, mj_tn2, mj_tn3]; done) | contradiction) (by first | (simp only [s_X5_copy, if_neg h1, if_neg h2, if_neg h3, if_neg h4, if_neg h5, Bool.false_eq_true, ↓reduceIte, Nat.reduceAdd, Nat.reduceMul, mj_tn0, mj_tn1, mj_tn2, mj_tn3]; done) | contradiction))
        · skip
          refine R_seg (φ := [mj_in (2) 4, mj_in (3) 4]) (pc' := 41) (L' := [.ref 1, .int (2), .int i, .int (3), .int j, .int n, .ref 38, .ref 40]) (st' := [.int (I 38 0)]) (σ' := (mj_KS N, I, mj_PP c d r)) 11 rfl ⟨mj_in_d (by decide), mj_in_d (by decide), trivial⟩ ?_
          refine R_br (q := (I 38 0 : Int32) = 0) (t := 52) (f := 44) (rest := []) rfl (fun h3 => ?_) (fun h3 => ?_)
          · skip
            refine R_seg (φ := []) (pc' := 54) (L' := [.ref 1, .int (2), .int i, .int (3), .int j, .int n, .ref 38, .ref 40]) (st' := [.int 1, .ref 1]) (σ' := (mj_KS N, I, mj_PP c d r)) 2 rfl trivial ?_
            refine R_ce (idx := 90) (mid := 91) (kind := 0) (N := N) (M' := mj_m_X5_comeTo) (As := [.ref 1, .int 1]) (rest := []) (I := I) (P := mj_PP c d r) (I' := (s_X5_comeTo 1 I).2) (P' := mj_PP c d r) (v := some (.int ((s_X5_comeTo 1 I).1))) rfl rfl rfl mj_mc91 mj_dc91 rfl rfl rfl rfl rfl rfl (x_X5_comeTo l b base D z N 1 I c d r) ?_
            refine R_seg (φ := []) (pc' := 57) (L' := [.ref 1, .int (2), .int i, .int (3), .int j, .int n, .ref 38, .ref 40]) (st' := [.int ((s_X5_comeTo 1 I).1)]) (σ' := (mj_KS N, (s_X5_comeTo 1 I).2, mj_PP c d r)) 0 rfl trivial ?_
            exact R_ri rfl rfl (mj_leaf (by first | (simp only [s_X5_copy, if_neg h1, if_neg h2, if_pos h3, Bool.false_eq_true, ↓reduceIte, Nat.reduceAdd, Nat.reduceMul, mj_tn0, mj_tn1, mj_tn2, mj_tn3]; done) | contradiction) (by first | (simp only [s_X5_copy, if_neg h1, if_neg h2, if_pos h3, Bool.false_eq_true, ↓reduceIte, Nat.reduceAdd, Nat.reduceMul, mj_tn0, mj_tn1, mj_tn2, mj_tn3]; done) | contradiction))
          · skip
            refine R_seg (φ := []) (pc' := 49) (L' := [.ref 1, .int (2), .int i, .int (3), .int j, .int n, .ref 38, .ref 40]) (st' := [.int (I 40 0)]) (σ' := (mj_KS N, I, mj_PP c d r)) 2 rfl trivial ?_
            refine R_br (q := (I 40 0 : Int32) = 0) (t := 52) (f := 58) (rest := []) rfl (fun h4 => ?_) (fun h4 => ?_)
            · skip
              refine R_seg (φ := []) (pc' := 54) (L' := [.ref 1, .int (2), .int i, .int (3), .int j, .int n, .ref 38, .ref 40]) (st' := [.int 1, .ref 1]) (σ' := (mj_KS N, I, mj_PP c d r)) 2 rfl trivial ?_
              refine R_ce (idx := 90) (mid := 91) (kind := 0) (N := N) (M' := mj_m_X5_comeTo) (As := [.ref 1, .int 1]) (rest := []) (I := I) (P := mj_PP c d r) (I' := (s_X5_comeTo 1 I).2) (P' := mj_PP c d r) (v := some (.int ((s_X5_comeTo 1 I).1))) rfl rfl rfl mj_mc91 mj_dc91 rfl rfl rfl rfl rfl rfl (x_X5_comeTo l b base D z N 1 I c d r) ?_
              refine R_seg (φ := []) (pc' := 57) (L' := [.ref 1, .int (2), .int i, .int (3), .int j, .int n, .ref 38, .ref 40]) (st' := [.int ((s_X5_comeTo 1 I).1)]) (σ' := (mj_KS N, (s_X5_comeTo 1 I).2, mj_PP c d r)) 0 rfl trivial ?_
              exact R_ri rfl rfl (mj_leaf (by first | (simp only [s_X5_copy, if_neg h1, if_neg h2, if_neg h3, if_pos h4, Bool.false_eq_true, ↓reduceIte, Nat.reduceAdd, Nat.reduceMul, mj_tn0, mj_tn1, mj_tn2, mj_tn3]; done) | contradiction) (by first | (simp only [s_X5_copy, if_neg h1, if_neg h2, if_neg h3, if_pos h4, Bool.false_eq_true, ↓reduceIte, Nat.reduceAdd, Nat.reduceMul, mj_tn0, mj_tn1, mj_tn2, mj_tn3]; done) | contradiction))
            · skip
              refine R_seg (φ := []) (pc' := 68) (L' := [.ref 1, .int (2), .int i, .int (3), .int j, .int n, .ref 38, .ref 40]) (st' := [.int (I 40 1), .int (I 38 1)]) (σ' := (mj_KS N, I, mj_PP c d r)) 4 rfl trivial ?_
              refine R_br (q := (I 38 1 : Int32) = I 40 1) (t := 77) (f := 71) (rest := []) rfl (fun h5 => ?_) (fun h5 => ?_)
              · skip
                refine R_seg (φ := []) (pc' := 79) (L' := [.ref 1, .int (2), .int i, .int (3), .int j, .int n, .ref 38, .ref 40]) (st' := [.int n]) (σ' := (mj_KS N, I, mj_PP c d r)) 1 rfl trivial ?_
                refine R_br (q := (n : Int32) < 0) (t := 105) (f := 82) (rest := []) rfl (fun h6 => ?_) (fun h6 => ?_)
                · skip
                  refine R_seg (φ := []) (pc' := 107) (L' := [.ref 1, .int (2), .int i, .int (3), .int j, .int n, .ref 38, .ref 40]) (st' := [.int 3, .ref 1]) (σ' := (mj_KS N, I, mj_PP c d r)) 2 rfl trivial ?_
                  refine R_ce (idx := 90) (mid := 91) (kind := 0) (N := N) (M' := mj_m_X5_comeTo) (As := [.ref 1, .int 3]) (rest := []) (I := I) (P := mj_PP c d r) (I' := (s_X5_comeTo 3 I).2) (P' := mj_PP c d r) (v := some (.int ((s_X5_comeTo 3 I).1))) rfl rfl rfl mj_mc91 mj_dc91 rfl rfl rfl rfl rfl rfl (x_X5_comeTo l b base D z N 3 I c d r) ?_
                  refine R_seg (φ := []) (pc' := 110) (L' := [.ref 1, .int (2), .int i, .int (3), .int j, .int n, .ref 38, .ref 40]) (st' := [.int ((s_X5_comeTo 3 I).1)]) (σ' := (mj_KS N, (s_X5_comeTo 3 I).2, mj_PP c d r)) 0 rfl trivial ?_
                  exact R_ri rfl rfl (mj_leaf (by first | (simp only [s_X5_copy, if_neg h1, if_neg h2, if_neg h3, if_neg h4, if_pos h5, if_pos h6, Bool.false_eq_true, ↓reduceIte, Nat.reduceAdd, Nat.reduceMul, mj_tn0, mj_tn1, mj_tn2, mj_tn3]; done) | contradiction) (by first | (simp only [s_X5_copy, if_neg h1, if_neg h2, if_neg h3, if_neg h4, if_pos h5, if_pos h6, Bool.false_eq_true, ↓reduceIte, Nat.reduceAdd, Nat.reduceMul, mj_tn0, mj_tn1, mj_tn2, mj_tn3]; done) | contradiction))
                · skip
                  refine R_seg (φ := []) (pc' := 87) (L' := [.ref 1, .int (2), .int i, .int (3), .int j, .int n, .ref 38, .ref 40]) (st' := [.int n, .int i, .ref 38]) (σ' := (mj_KS N, I, mj_PP c d r)) 3 rfl trivial ?_
                  refine R_ce (idx := 242) (mid := 36) (kind := 3) (N := N) (M' := mj_m_X4_hasCells) (As := [.ref 38, .int i, .int n]) (rest := []) (I := I) (P := mj_PP c d r) (I' := I) (P' := mj_PP c d r) (v := some (.int (bI (sp_hc (I 38 2) i n)))) rfl rfl rfl mj_mc36 mj_dc36 rfl rfl rfl rfl rfl rfl (x_hasCells l b base D z N 38 (by decide) i n I c d r) ?_
                  refine R_seg (φ := []) (pc' := 90) (L' := [.ref 1, .int (2), .int i, .int (3), .int j, .int n, .ref 38, .ref 40]) (st' := [.int (bI (sp_hc (I 38 2) i n))]) (σ' := (mj_KS N, I, mj_PP c d r)) 0 rfl trivial ?_
                  refine R_br (q := (bI (sp_hc (I 38 2) i n) : Int32) = 0) (t := 105) (f := 93) (rest := []) rfl (fun h7 => ?_) (fun h7 => ?_)
                  · skip
                    replace h7 := bI_0.mp h7
                    refine R_seg (φ := []) (pc' := 107) (L' := [.ref 1, .int (2), .int i, .int (3), .int j, .int n, .ref 38, .ref 40]) (st' := [.int 3, .ref 1]) (σ' := (mj_KS N, I, mj_PP c d r)) 2 rfl trivial ?_
                    refine R_ce (idx := 90) (mid := 91) (kind := 0) (N := N) (M' := mj_m_X5_comeTo) (As := [.ref 1, .int 3]) (rest := []) (I := I) (P := mj_PP c d r) (I' := (s_X5_comeTo 3 I).2) (P' := mj_PP c d r) (v := some (.int ((s_X5_comeTo 3 I).1))) rfl rfl rfl mj_mc91 mj_dc91 rfl rfl rfl rfl rfl rfl (x_X5_comeTo l b base D z N 3 I c d r) ?_
                    refine R_seg (φ := []) (pc' := 110) (L' := [.ref 1, .int (2), .int i, .int (3), .int j, .int n, .ref 38, .ref 40]) (st' := [.int ((s_X5_comeTo 3 I).1)]) (σ' := (mj_KS N, (s_X5_comeTo 3 I).2, mj_PP c d r)) 0 rfl trivial ?_
                    exact R_ri rfl rfl (mj_leaf (by first | (simp only [s_X5_copy, if_neg h1, if_neg h2, if_neg h3, if_neg h4, if_pos h5, if_neg h6, h7, Bool.false_eq_true, ↓reduceIte, Nat.reduceAdd, Nat.reduceMul, mj_tn0, mj_tn1, mj_tn2, mj_tn3]; done) | contradiction) (by first | (simp only [s_X5_copy, if_neg h1, if_neg h2, if_neg h3, if_neg h4, if_pos h5, if_neg h6, h7, Bool.false_eq_true, ↓reduceIte, Nat.reduceAdd, Nat.reduceMul, mj_tn0, mj_tn1, mj_tn2, mj_tn3]; done) | contradiction))
                  · skip
                    replace h7 := bI_1 h7
                    refine R_seg (φ := []) (pc' := 99) (L' := [.ref 1, .int (2), .int i, .int (3), .int j, .int n, .ref 38, .ref 40]) (st' := [.int n, .int j, .ref 40]) (σ' := (mj_KS N, I, mj_PP c d r)) 3 rfl trivial ?_
                    refine R_ce (idx := 242) (mid := 36) (kind := 3) (N := N) (M' := mj_m_X4_hasCells) (As := [.ref 40, .int j, .int n]) (rest := []) (I := I) (P := mj_PP c d r) (I' := I) (P' := mj_PP c d r) (v := some (.int (bI (sp_hc (I 40 2) j n)))) rfl rfl rfl mj_mc36 mj_dc36 rfl rfl rfl rfl rfl rfl (x_hasCells l b base D z N 40 (by decide) j n I c d r) ?_
                    refine R_seg (φ := []) (pc' := 102) (L' := [.ref 1, .int (2), .int i, .int (3), .int j, .int n, .ref 38, .ref 40]) (st' := [.int (bI (sp_hc (I 40 2) j n))]) (σ' := (mj_KS N, I, mj_PP c d r)) 0 rfl trivial ?_
                    refine R_br (q := (bI (sp_hc (I 40 2) j n) : Int32) = 0) (t := 105) (f := 111) (rest := []) rfl (fun h8 => ?_) (fun h8 => ?_)
                    · skip
                      replace h8 := bI_0.mp h8
                      refine R_seg (φ := []) (pc' := 107) (L' := [.ref 1, .int (2), .int i, .int (3), .int j, .int n, .ref 38, .ref 40]) (st' := [.int 3, .ref 1]) (σ' := (mj_KS N, I, mj_PP c d r)) 2 rfl trivial ?_
                      refine R_ce (idx := 90) (mid := 91) (kind := 0) (N := N) (M' := mj_m_X5_comeTo) (As := [.ref 1, .int 3]) (rest := []) (I := I) (P := mj_PP c d r) (I' := (s_X5_comeTo 3 I).2) (P' := mj_PP c d r) (v := some (.int ((s_X5_comeTo 3 I).1))) rfl rfl rfl mj_mc91 mj_dc91 rfl rfl rfl rfl rfl rfl (x_X5_comeTo l b base D z N 3 I c d r) ?_
                      refine R_seg (φ := []) (pc' := 110) (L' := [.ref 1, .int (2), .int i, .int (3), .int j, .int n, .ref 38, .ref 40]) (st' := [.int ((s_X5_comeTo 3 I).1)]) (σ' := (mj_KS N, (s_X5_comeTo 3 I).2, mj_PP c d r)) 0 rfl trivial ?_
                      exact R_ri rfl rfl (mj_leaf (by first | (simp only [s_X5_copy, if_neg h1, if_neg h2, if_neg h3, if_neg h4, if_pos h5, if_neg h6, h7, h8, Bool.false_eq_true, ↓reduceIte, Nat.reduceAdd, Nat.reduceMul, mj_tn0, mj_tn1, mj_tn2, mj_tn3]; done) | contradiction) (by first | (simp only [s_X5_copy, if_neg h1, if_neg h2, if_neg h3, if_neg h4, if_pos h5, if_neg h6, h7, h8, Bool.false_eq_true, ↓reduceIte, Nat.reduceAdd, Nat.reduceMul, mj_tn0, mj_tn1, mj_tn2, mj_tn3]; done) | contradiction))
                    · skip
                      replace h8 := bI_1 h8
                      refine R_seg (φ := [0 ≤ (i : Int32).toInt ∧ 0 ≤ (j : Int32).toInt ∧ 0 ≤ (n : Int32).toInt ∧ (i : Int32).toInt + (n : Int32).toInt ≤ ((60 : Nat) : Int) ∧ (j : Int32).toInt + (n : Int32).toInt ≤ ((60 : Nat) : Int) ∧ ((60 : Nat) : Int) < 2147483648 ∧ ((60 : Nat) : Int) < 2147483648]) (pc' := 136) (L' := [.ref 1, .int (2), .int i, .int (3), .int j, .int n, .ref 38, .ref 40]) (st' := [.int n]) (σ' := (mj_KS N, mj_cpy (mj_upI I 1 13 0) 39 41 i j n, mj_PP c d r)) 12 rfl ⟨mj_cp h6 h7 h8 (hl 2 (by decide)) (hl 3 (by decide)), trivial⟩ ?_
                      exact R_ri rfl rfl (mj_leaf (by first | (simp only [s_X5_copy, if_neg h1, if_neg h2, if_neg h3, if_neg h4, if_pos h5, if_neg h6, h7, h8, Bool.false_eq_true, ↓reduceIte, Nat.reduceAdd, Nat.reduceMul, mj_tn0, mj_tn1, mj_tn2, mj_tn3]; done) | contradiction) (by first | (simp only [s_X5_copy, if_neg h1, if_neg h2, if_neg h3, if_neg h4, if_pos h5, if_neg h6, h7, h8, Bool.false_eq_true, ↓reduceIte, Nat.reduceAdd, Nat.reduceMul, mj_tn0, mj_tn1, mj_tn2, mj_tn3]; done) | contradiction))
              · skip
                refine R_seg (φ := []) (pc' := 73) (L' := [.ref 1, .int (2), .int i, .int (3), .int j, .int n, .ref 38, .ref 40]) (st' := [.int 2, .ref 1]) (σ' := (mj_KS N, I, mj_PP c d r)) 2 rfl trivial ?_
                refine R_ce (idx := 90) (mid := 91) (kind := 0) (N := N) (M' := mj_m_X5_comeTo) (As := [.ref 1, .int 2]) (rest := []) (I := I) (P := mj_PP c d r) (I' := (s_X5_comeTo 2 I).2) (P' := mj_PP c d r) (v := some (.int ((s_X5_comeTo 2 I).1))) rfl rfl rfl mj_mc91 mj_dc91 rfl rfl rfl rfl rfl rfl (x_X5_comeTo l b base D z N 2 I c d r) ?_
                refine R_seg (φ := []) (pc' := 76) (L' := [.ref 1, .int (2), .int i, .int (3), .int j, .int n, .ref 38, .ref 40]) (st' := [.int ((s_X5_comeTo 2 I).1)]) (σ' := (mj_KS N, (s_X5_comeTo 2 I).2, mj_PP c d r)) 0 rfl trivial ?_
                exact R_ri rfl rfl (mj_leaf (by first | (simp only [s_X5_copy, if_neg h1, if_neg h2, if_neg h3, if_neg h4, if_neg h5, Bool.false_eq_true, ↓reduceIte, Nat.reduceAdd, Nat.reduceMul, mj_tn0, mj_tn1, mj_tn2, mj_tn3]; done) | contradiction) (by first | (simp only [s_X5_copy, if_neg h1, if_neg h2, if_neg h3, if_neg h4, if_neg h5, Bool.false_eq_true, ↓reduceIte, Nat.reduceAdd, Nat.reduceMul, mj_tn0, mj_tn1, mj_tn2, mj_tn3]; done) | contradiction))
      · skip
        refine R_seg (φ := []) (pc' := 21) (L' := [.ref 1, .int (3), .int i, .int v, .int j, .int n, mj_mk, mj_mk]) (st' := [.ref 1]) (σ' := (mj_KS N, I, mj_PP c d r)) 1 rfl trivial ?_
        rcases mj_sh4 h2 with rfl | rfl | rfl | rfl
        · skip
          refine R_seg (φ := [mj_in (3) 4, mj_in (0) 4]) (pc' := 41) (L' := [.ref 1, .int (3), .int i, .int (0), .int j, .int n, .ref 40, .ref 34]) (st' := [.int (I 40 0)]) (σ' := (mj_KS N, I, mj_PP c d r)) 11 rfl ⟨mj_in_d (by decide), mj_in_d (by decide), trivial⟩ ?_
          refine R_br (q := (I 40 0 : Int32) = 0) (t := 52) (f := 44) (rest := []) rfl (fun h3 => ?_) (fun h3 => ?_)
          · skip
            refine R_seg (φ := []) (pc' := 54) (L' := [.ref 1, .int (3), .int i, .int (0), .int j, .int n, .ref 40, .ref 34]) (st' := [.int 1, .ref 1]) (σ' := (mj_KS N, I, mj_PP c d r)) 2 rfl trivial ?_
            refine R_ce (idx := 90) (mid := 91) (kind := 0) (N := N) (M' := mj_m_X5_comeTo) (As := [.ref 1, .int 1]) (rest := []) (I := I) (P := mj_PP c d r) (I' := (s_X5_comeTo 1 I).2) (P' := mj_PP c d r) (v := some (.int ((s_X5_comeTo 1 I).1))) rfl rfl rfl mj_mc91 mj_dc91 rfl rfl rfl rfl rfl rfl (x_X5_comeTo l b base D z N 1 I c d r) ?_
            refine R_seg (φ := []) (pc' := 57) (L' := [.ref 1, .int (3), .int i, .int (0), .int j, .int n, .ref 40, .ref 34]) (st' := [.int ((s_X5_comeTo 1 I).1)]) (σ' := (mj_KS N, (s_X5_comeTo 1 I).2, mj_PP c d r)) 0 rfl trivial ?_
            exact R_ri rfl rfl (mj_leaf (by first | (simp only [s_X5_copy, if_neg h1, if_neg h2, if_pos h3, Bool.false_eq_true, ↓reduceIte, Nat.reduceAdd, Nat.reduceMul, mj_tn0, mj_tn1, mj_tn2, mj_tn3]; done) | contradiction) (by first | (simp only [s_X5_copy, if_neg h1, if_neg h2, if_pos h3, Bool.false_eq_true, ↓reduceIte, Nat.reduceAdd, Nat.reduceMul, mj_tn0, mj_tn1, mj_tn2, mj_tn3]; done) | contradiction))
          · skip
            refine R_seg (φ := []) (pc' := 49) (L' := [.ref 1, .int (3), .int i, .int (0), .int j, .int n, .ref 40, .ref 34]) (st' := [.int (I 34 0)]) (σ' := (mj_KS N, I, mj_PP c d r)) 2 rfl trivial ?_
            refine R_br (q := (I 34 0 : Int32) = 0) (t := 52) (f := 58) (rest := []) rfl (fun h4 => ?_) (fun h4 => ?_)
            · skip
              refine R_seg (φ := []) (pc' := 54) (L' := [.ref 1, .int (3), .int i, .int (0), .int j, .int n, .ref 40, .ref 34]) (st' := [.int 1, .ref 1]) (σ' := (mj_KS N, I, mj_PP c d r)) 2 rfl trivial ?_
              refine R_ce (idx := 90) (mid := 91) (kind := 0) (N := N) (M' := mj_m_X5_comeTo) (As := [.ref 1, .int 1]) (rest := []) (I := I) (P := mj_PP c d r) (I' := (s_X5_comeTo 1 I).2) (P' := mj_PP c d r) (v := some (.int ((s_X5_comeTo 1 I).1))) rfl rfl rfl mj_mc91 mj_dc91 rfl rfl rfl rfl rfl rfl (x_X5_comeTo l b base D z N 1 I c d r) ?_
              refine R_seg (φ := []) (pc' := 57) (L' := [.ref 1, .int (3), .int i, .int (0), .int j, .int n, .ref 40, .ref 34]) (st' := [.int ((s_X5_comeTo 1 I).1)]) (σ' := (mj_KS N, (s_X5_comeTo 1 I).2, mj_PP c d r)) 0 rfl trivial ?_
              exact R_ri rfl rfl (mj_leaf (by first | (simp only [s_X5_copy, if_neg h1, if_neg h2, if_neg h3, if_pos h4, Bool.false_eq_true, ↓reduceIte, Nat.reduceAdd, Nat.reduceMul, mj_tn0, mj_tn1, mj_tn2, mj_tn3]; done) | contradiction) (by first | (simp only [s_X5_copy, if_neg h1, if_neg h2, if_neg h3, if_pos h4, Bool.false_eq_true, ↓reduceIte, Nat.reduceAdd, Nat.reduceMul, mj_tn0, mj_tn1, mj_tn2, mj_tn3]; done) | contradiction))
            · skip
              refine R_seg (φ := []) (pc' := 68) (L' := [.ref 1, .int (3), .int i, .int (0), .int j, .int n, .ref 40, .ref 34]) (st' := [.int (I 34 1), .int (I 40 1)]) (σ' := (mj_KS N, I, mj_PP c d r)) 4 rfl trivial ?_
              refine R_br (q := (I 40 1 : Int32) = I 34 1) (t := 77) (f := 71) (rest := []) rfl (fun h5 => ?_) (fun h5 => ?_)
              · skip
                refine R_seg (φ := []) (pc' := 79) (L' := [.ref 1, .int (3), .int i, .int (0), .int j, .int n, .ref 40, .ref 34]) (st' := [.int n]) (σ' := (mj_KS N, I, mj_PP c d r)) 1 rfl trivial ?_
                refine R_br (q := (n : Int32) < 0) (t := 105) (f := 82) (rest := []) rfl (fun h6 => ?_) (fun h6 => ?_)
                · skip
                  refine R_seg (φ := []) (pc' := 107) (L' := [.ref 1, .int (3), .int i, .int (0), .int j, .int n, .ref 40, .ref 34]) (st' := [.int 3, .ref 1]) (σ' := (mj_KS N, I, mj_PP c d r)) 2 rfl trivial ?_
                  refine R_ce (idx := 90) (mid := 91) (kind := 0) (N := N) (M' := mj_m_X5_comeTo) (As := [.ref 1, .int 3]) (rest := []) (I := I) (P := mj_PP c d r) (I' := (s_X5_comeTo 3 I).2) (P' := mj_PP c d r) (v := some (.int ((s_X5_comeTo 3 I).1))) rfl rfl rfl mj_mc91 mj_dc91 rfl rfl rfl rfl rfl rfl (x_X5_comeTo l b base D z N 3 I c d r) ?_
                  refine R_seg (φ := []) (pc' := 110) (L' := [.ref 1, .int (3), .int i, .int (0), .int j, .int n, .ref 40, .ref 34]) (st' := [.int ((s_X5_comeTo 3 I).1)]) (σ' := (mj_KS N, (s_X5_comeTo 3 I).2, mj_PP c d r)) 0 rfl trivial ?_
                  exact R_ri rfl rfl (mj_leaf (by first | (simp only [s_X5_copy, if_neg h1, if_neg h2, if_neg h3, if_neg h4, if_pos h5, if_pos h6, Bool.false_eq_true, ↓reduceIte, Nat.reduceAdd, Nat.reduceMul, mj_tn0, mj_tn1, mj_tn2, mj_tn3]; done) | contradiction) (by first | (simp only [s_X5_copy, if_neg h1, if_neg h2, if_neg h3, if_neg h4, if_pos h5, if_pos h6, Bool.false_eq_true, ↓reduceIte, Nat.reduceAdd, Nat.reduceMul, mj_tn0, mj_tn1, mj_tn2, mj_tn3]; done) | contradiction))
                · skip
                  refine R_seg (φ := []) (pc' := 87) (L' := [.ref 1, .int (3), .int i, .int (0), .int j, .int n, .ref 40, .ref 34]) (st' := [.int n, .int i, .ref 40]) (σ' := (mj_KS N, I, mj_PP c d r)) 3 rfl trivial ?_
                  refine R_ce (idx := 242) (mid := 36) (kind := 3) (N := N) (M' := mj_m_X4_hasCells) (As := [.ref 40, .int i, .int n]) (rest := []) (I := I) (P := mj_PP c d r) (I' := I) (P' := mj_PP c d r) (v := some (.int (bI (sp_hc (I 40 2) i n)))) rfl rfl rfl mj_mc36 mj_dc36 rfl rfl rfl rfl rfl rfl (x_hasCells l b base D z N 40 (by decide) i n I c d r) ?_
                  refine R_seg (φ := []) (pc' := 90) (L' := [.ref 1, .int (3), .int i, .int (0), .int j, .int n, .ref 40, .ref 34]) (st' := [.int (bI (sp_hc (I 40 2) i n))]) (σ' := (mj_KS N, I, mj_PP c d r)) 0 rfl trivial ?_
                  refine R_br (q := (bI (sp_hc (I 40 2) i n) : Int32) = 0) (t := 105) (f := 93) (rest := []) rfl (fun h7 => ?_) (fun h7 => ?_)
                  · skip
                    replace h7 := bI_0.mp h7
                    refine R_seg (φ := []) (pc' := 107) (L' := [.ref 1, .int (3), .int i, .int (0), .int j, .int n, .ref 40, .ref 34]) (st' := [.int 3, .ref 1]) (σ' := (mj_KS N, I, mj_PP c d r)) 2 rfl trivial ?_
                    refine R_ce (idx := 90) (mid := 91) (kind := 0) (N := N) (M' := mj_m_X5_comeTo) (As := [.ref 1, .int 3]) (rest := []) (I := I) (P := mj_PP c d r) (I' := (s_X5_comeTo 3 I).2) (P' := mj_PP c d r) (v := some (.int ((s_X5_comeTo 3 I).1))) rfl rfl rfl mj_mc91 mj_dc91 rfl rfl rfl rfl rfl rfl (x_X5_comeTo l b base D z N 3 I c d r) ?_
                    refine R_seg (φ := []) (pc' := 110) (L' := [.ref 1, .int (3), .int i, .int (0), .int j, .int n, .ref 40, .ref 34]) (st' := [.int ((s_X5_comeTo 3 I).1)]) (σ' := (mj_KS N, (s_X5_comeTo 3 I).2, mj_PP c d r)) 0 rfl trivial ?_
                    exact R_ri rfl rfl (mj_leaf (by first | (simp only [s_X5_copy, if_neg h1, if_neg h2, if_neg h3, if_neg h4, if_pos h5, if_neg h6, h7, Bool.false_eq_true, ↓reduceIte, Nat.reduceAdd, Nat.reduceMul, mj_tn0, mj_tn1, mj_tn2, mj_tn3]; done) | contradiction) (by first | (simp only [s_X5_copy, if_neg h1, if_neg h2, if_neg h3, if_neg h4, if_pos h5, if_neg h6, h7, Bool.false_eq_true, ↓reduceIte, Nat.reduceAdd, Nat.reduceMul, mj_tn0, mj_tn1, mj_tn2, mj_tn3]; done) | contradiction))
                  · skip
                    replace h7 := bI_1 h7
                    refine R_seg (φ := []) (pc' := 99) (L' := [.ref 1, .int (3), .int i, .int (0), .int j, .int n, .ref 40, .ref 34]) (st' := [.int n, .int j, .ref 34]) (σ' := (mj_KS N, I, mj_PP c d r)) 3 rfl trivial ?_
                    refine R_ce (idx := 242) (mid := 36) (kind := 3) (N := N) (M' := mj_m_X4_hasCells) (As := [.ref 34, .int j, .int n]) (rest := []) (I := I) (P := mj_PP c d r) (I' := I) (P' := mj_PP c d r) (v := some (.int (bI (sp_hc (I 34 2) j n)))) rfl rfl rfl mj_mc36 mj_dc36 rfl rfl rfl rfl rfl rfl (x_hasCells l b base D z N 34 (by decide) j n I c d r) ?_
                    refine R_seg (φ := []) (pc' := 102) (L' := [.ref 1, .int (3), .int i, .int (0), .int j, .int n, .ref 40, .ref 34]) (st' := [.int (bI (sp_hc (I 34 2) j n))]) (σ' := (mj_KS N, I, mj_PP c d r)) 0 rfl trivial ?_
                    refine R_br (q := (bI (sp_hc (I 34 2) j n) : Int32) = 0) (t := 105) (f := 111) (rest := []) rfl (fun h8 => ?_) (fun h8 => ?_)
                    · skip
                      replace h8 := bI_0.mp h8
                      refine R_seg (φ := []) (pc' := 107) (L' := [.ref 1, .int (3), .int i, .int (0), .int j, .int n, .ref 40, .ref 34]) (st' := [.int 3, .ref 1]) (σ' := (mj_KS N, I, mj_PP c d r)) 2 rfl trivial ?_
                      refine R_ce (idx := 90) (mid := 91) (kind := 0) (N := N) (M' := mj_m_X5_comeTo) (As := [.ref 1, .int 3]) (rest := []) (I := I) (P := mj_PP c d r) (I' := (s_X5_comeTo 3 I).2) (P' := mj_PP c d r) (v := some (.int ((s_X5_comeTo 3 I).1))) rfl rfl rfl mj_mc91 mj_dc91 rfl rfl rfl rfl rfl rfl (x_X5_comeTo l b base D z N 3 I c d r) ?_
                      refine R_seg (φ := []) (pc' := 110) (L' := [.ref 1, .int (3), .int i, .int (0), .int j, .int n, .ref 40, .ref 34]) (st' := [.int ((s_X5_comeTo 3 I).1)]) (σ' := (mj_KS N, (s_X5_comeTo 3 I).2, mj_PP c d r)) 0 rfl trivial ?_
                      exact R_ri rfl rfl (mj_leaf (by first | (simp only [s_X5_copy, if_neg h1, if_neg h2, if_neg h3, if_neg h4, if_pos h5, if_neg h6, h7, h8, Bool.false_eq_true, ↓reduceIte, Nat.reduceAdd, Nat.reduceMul, mj_tn0, mj_tn1, mj_tn2, mj_tn3]; done) | contradiction) (by first | (simp only [s_X5_copy, if_neg h1, if_neg h2, if_neg h3, if_neg h4, if_pos h5, if_neg h6, h7, h8, Bool.false_eq_true, ↓reduceIte, Nat.reduceAdd, Nat.reduceMul, mj_tn0, mj_tn1, mj_tn2, mj_tn3]; done) | contradiction))
                    · skip
                      replace h8 := bI_1 h8
                      refine R_seg (φ := [0 ≤ (i : Int32).toInt ∧ 0 ≤ (j : Int32).toInt ∧ 0 ≤ (n : Int32).toInt ∧ (i : Int32).toInt + (n : Int32).toInt ≤ ((60 : Nat) : Int) ∧ (j : Int32).toInt + (n : Int32).toInt ≤ ((60 : Nat) : Int) ∧ ((60 : Nat) : Int) < 2147483648 ∧ ((60 : Nat) : Int) < 2147483648]) (pc' := 136) (L' := [.ref 1, .int (3), .int i, .int (0), .int j, .int n, .ref 40, .ref 34]) (st' := [.int n]) (σ' := (mj_KS N, mj_cpy (mj_upI I 1 13 0) 41 35 i j n, mj_PP c d r)) 12 rfl ⟨mj_cp h6 h7 h8 (hl 3 (by decide)) (hl 0 (by decide)), trivial⟩ ?_
                      exact R_ri rfl rfl (mj_leaf (by first | (simp only [s_X5_copy, if_neg h1, if_neg h2, if_neg h3, if_neg h4, if_pos h5, if_neg h6, h7, h8, Bool.false_eq_true, ↓reduceIte, Nat.reduceAdd, Nat.reduceMul, mj_tn0, mj_tn1, mj_tn2, mj_tn3]; done) | contradiction) (by first | (simp only [s_X5_copy, if_neg h1, if_neg h2, if_neg h3, if_neg h4, if_pos h5, if_neg h6, h7, h8, Bool.false_eq_true, ↓reduceIte, Nat.reduceAdd, Nat.reduceMul, mj_tn0, mj_tn1, mj_tn2, mj_tn3]; done) | contradiction))
              · skip
                refine R_seg (φ := []) (pc' := 73) (L' := [.ref 1, .int (3), .int i, .int (0), .int j, .int n, .ref 40, .ref 34]) (st' := [.int 2, .ref 1]) (σ' := (mj_KS N, I, mj_PP c d r)) 2 rfl trivial ?_
                refine R_ce (idx := 90) (mid := 91) (kind := 0) (N := N) (M' := mj_m_X5_comeTo) (As := [.ref 1, .int 2]) (rest := []) (I := I) (P := mj_PP c d r) (I' := (s_X5_comeTo 2 I).2) (P' := mj_PP c d r) (v := some (.int ((s_X5_comeTo 2 I).1))) rfl rfl rfl mj_mc91 mj_dc91 rfl rfl rfl rfl rfl rfl (x_X5_comeTo l b base D z N 2 I c d r) ?_
                refine R_seg (φ := []) (pc' := 76) (L' := [.ref 1, .int (3), .int i, .int (0), .int j, .int n, .ref 40, .ref 34]) (st' := [.int ((s_X5_comeTo 2 I).1)]) (σ' := (mj_KS N, (s_X5_comeTo 2 I).2, mj_PP c d r)) 0 rfl trivial ?_
                exact R_ri rfl rfl (mj_leaf (by first | (simp only [s_X5_copy, if_neg h1, if_neg h2, if_neg h3, if_neg h4, if_neg h5, Bool.false_eq_true, ↓reduceIte, Nat.reduceAdd, Nat.reduceMul, mj_tn0, mj_tn1, mj_tn2, mj_tn3]; done) | contradiction) (by first | (simp only [s_X5_copy, if_neg h1, if_neg h2, if_neg h3, if_neg h4, if_neg h5, Bool.false_eq_true, ↓reduceIte, Nat.reduceAdd, Nat.reduceMul, mj_tn0, mj_tn1, mj_tn2, mj_tn3]; done) | contradiction))
        · skip
          refine R_seg (φ := [mj_in (3) 4, mj_in (1) 4]) (pc' := 41) (L' := [.ref 1, .int (3), .int i, .int (1), .int j, .int n, .ref 40, .ref 36]) (st' := [.int (I 40 0)]) (σ' := (mj_KS N, I, mj_PP c d r)) 11 rfl ⟨mj_in_d (by decide), mj_in_d (by decide), trivial⟩ ?_
          refine R_br (q := (I 40 0 : Int32) = 0) (t := 52) (f := 44) (rest := []) rfl (fun h3 => ?_) (fun h3 => ?_)
          · skip
            refine R_seg (φ := []) (pc' := 54) (L' := [.ref 1, .int (3), .int i, .int (1), .int j, .int n, .ref 40, .ref 36]) (st' := [.int 1, .ref 1]) (σ' := (mj_KS N, I, mj_PP c d r)) 2 rfl trivial ?_
            refine R_ce (idx := 90) (mid := 91) (kind := 0) (N := N) (M' := mj_m_X5_comeTo) (As := [.ref 1, .int 1]) (rest := []) (I := I) (P := mj_PP c d r) (I' := (s_X5_comeTo 1 I).2) (P' := mj_PP c d r) (v := some (.int ((s_X5_comeTo 1 I).1))) rfl rfl rfl mj_mc91 mj_dc91 rfl rfl rfl rfl rfl rfl (x_X5_comeTo l b base D z N 1 I c d r) ?_
            refine R_seg (φ := []) (pc' := 57) (L' := [.ref 1, .int (3), .int i, .int (1), .int j, .int n, .ref 40, .ref 36]) (st' := [.int ((s_X5_comeTo 1 I).1)]) (σ' := (mj_KS N, (s_X5_comeTo 1 I).2, mj_PP c d r)) 0 rfl trivial ?_
            exact R_ri rfl rfl (mj_leaf (by first | (simp only [s_X5_copy, if_neg h1, if_neg h2, if_pos h3, Bool.false_eq_true, ↓reduceIte, Nat.reduceAdd, Nat.reduceMul, mj_tn0, mj_tn1, mj_tn2, mj_tn3]; done) | contradiction) (by first | (simp only [s_X5_copy, if_neg h1, if_neg h2, if_pos h3, Bool.false_eq_true, ↓reduceIte, Nat.reduceAdd, Nat.reduceMul, mj_tn0, mj_tn1, mj_tn2, mj_tn3]; done) | contradiction))
          · skip
            refine R_seg (φ := []) (pc' := 49) (L' := [.ref 1, .int (3), .int i, .int (1), .int j, .int n, .ref 40, .ref 36]) (st' := [.int (I 36 0)]) (σ' := (mj_KS N, I, mj_PP c d r)) 2 rfl trivial ?_
            refine R_br (q := (I 36 0 : Int32) = 0) (t := 52) (f := 58) (rest := []) rfl (fun h4 => ?_) (fun h4 => ?_)
            · skip
              refine R_seg (φ := []) (pc' := 54) (L' := [.ref 1, .int (3), .int i, .int (1), .int j, .int n, .ref 40, .ref 36]) (st' := [.int 1, .ref 1]) (σ' := (mj_KS N, I, mj_PP c d r)) 2 rfl trivial ?_
              refine R_ce (idx := 90) (mid := 91) (kind := 0) (N := N) (M' := mj_m_X5_comeTo) (As := [.ref 1, .int 1]) (rest := []) (I := I) (P := mj_PP c d r) (I' := (s_X5_comeTo 1 I).2) (P' := mj_PP c d r) (v := some (.int ((s_X5_comeTo 1 I).1))) rfl rfl rfl mj_mc91 mj_dc91 rfl rfl rfl rfl rfl rfl (x_X5_comeTo l b base D z N 1 I c d r) ?_
              refine R_seg (φ := []) (pc' := 57) (L' := [.ref 1, .int (3), .int i, .int (1), .int j, .int n, .ref 40, .ref 36]) (st' := [.int ((s_X5_comeTo 1 I).1)]) (σ' := (mj_KS N, (s_X5_comeTo 1 I).2, mj_PP c d r)) 0 rfl trivial ?_
              exact R_ri rfl rfl (mj_leaf (by first | (simp only [s_X5_copy, if_neg h1, if_neg h2, if_neg h3, if_pos h4, Bool.false_eq_true, ↓reduceIte, Nat.reduceAdd, Nat.reduceMul, mj_tn0, mj_tn1, mj_tn2, mj_tn3]; done) | contradiction) (by first | (simp only [s_X5_copy, if_neg h1, if_neg h2, if_neg h3, if_pos h4, Bool.false_eq_true, ↓reduceIte, Nat.reduceAdd, Nat.reduceMul, mj_tn0, mj_tn1, mj_tn2, mj_tn3]; done) | contradiction))
            · skip
              refine R_seg (φ := []) (pc' := 68) (L' := [.ref 1, .int (3), .int i, .int (1), .int j, .int n, .ref 40, .ref 36]) (st' := [.int (I 36 1), .int (I 40 1)]) (σ' := (mj_KS N, I, mj_PP c d r)) 4 rfl trivial ?_
              refine R_br (q := (I 40 1 : Int32) = I 36 1) (t := 77) (f := 71) (rest := []) rfl (fun h5 => ?_) (fun h5 => ?_)
              · skip
                refine R_seg (φ := []) (pc' := 79) (L' := [.ref 1, .int (3), .int i, .int (1), .int j, .int n, .ref 40, .ref 36]) (st' := [.int n]) (σ' := (mj_KS N, I, mj_PP c d r)) 1 rfl trivial ?_
                refine R_br (q := (n : Int32) < 0) (t := 105) (f := 82) (rest := []) rfl (fun h6 => ?_) (fun h6 => ?_)
                · skip
                  refine R_seg (φ := []) (pc' := 107) (L' := [.ref 1, .int (3), .int i, .int (1), .int j, .int n, .ref 40, .ref 36]) (st' := [.int 3, .ref 1]) (σ' := (mj_KS N, I, mj_PP c d r)) 2 rfl trivial ?_
                  refine R_ce (idx := 90) (mid := 91) (kind := 0) (N := N) (M' := mj_m_X5_comeTo) (As := [.ref 1, .int 3]) (rest := []) (I := I) (P := mj_PP c d r) (I' := (s_X5_comeTo 3 I).2) (P' := mj_PP c d r) (v := some (.int ((s_X5_comeTo 3 I).1))) rfl rfl rfl mj_mc91 mj_dc91 rfl rfl rfl rfl rfl rfl (x_X5_comeTo l b base D z N 3 I c d r) ?_
                  refine R_seg (φ := []) (pc' := 110) (L' := [.ref 1, .int (3), .int i, .int (1), .int j, .int n, .ref 40, .ref 36]) (st' := [.int ((s_X5_comeTo 3 I).1)]) (σ' := (mj_KS N, (s_X5_comeTo 3 I).2, mj_PP c d r)) 0 rfl trivial ?_
                  exact R_ri rfl rfl (mj_leaf (by first | (simp only [s_X5_copy, if_neg h1, if_neg h2, if_neg h3, if_neg h4, if_pos h5, if_pos h6, Bool.false_eq_true, ↓reduceIte, Nat.reduceAdd, Nat.reduceMul, mj_tn0, mj_tn1, mj_tn2, mj_tn3]; done) | contradiction) (by first | (simp only [s_X5_copy, if_neg h1, if_neg h2, if_neg h3, if_neg h4, if_pos h5, if_pos h6, Bool.false_eq_true, ↓reduceIte, Nat.reduceAdd, Nat.reduceMul, mj_tn0, mj_tn1, mj_tn2, mj_tn3]; done) | contradiction))
                · skip
                  refine R_seg (φ := []) (pc' := 87) (L' := [.ref 1, .int (3), .int i, .int (1), .int j, .int n, .ref 40, .ref 36]) (st' := [.int n, .int i, .ref 40]) (σ' := (mj_KS N, I, mj_PP c d r)) 3 rfl trivial ?_
                  refine R_ce (idx := 242) (mid := 36) (kind := 3) (N := N) (M' := mj_m_X4_hasCells) (As := [.ref 40, .int i, .int n]) (rest := []) (I := I) (P := mj_PP c d r) (I' := I) (P' := mj_PP c d r) (v := some (.int (bI (sp_hc (I 40 2) i n)))) rfl rfl rfl mj_mc36 mj_dc36 rfl rfl rfl rfl rfl rfl (x_hasCells l b base D z N 40 (by decide) i n I c d r) ?_
                  refine R_seg (φ := []) (pc' := 90) (L' := [.ref 1, .int (3), .int i, .int (1), .int j, .int n, .ref 40, .ref 36]) (st' := [.int (bI (sp_hc (I 40 2) i n))]) (σ' := (mj_KS N, I, mj_PP c d r)) 0 rfl trivial ?_
                  refine R_br (q := (bI (sp_hc (I 40 2) i n) : Int32) = 0) (t := 105) (f := 93) (rest := []) rfl (fun h7 => ?_) (fun h7 => ?_)
                  · skip
                    replace h7 := bI_0.mp h7
                    refine R_seg (φ := []) (pc' := 107) (L' := [.ref 1, .int (3), .int i, .int (1), .int j, .int n, .ref 40, .ref 36]) (st' := [.int 3, .ref 1]) (σ' := (mj_KS N, I, mj_PP c d r)) 2 rfl trivial ?_
                    refine R_ce (idx := 90) (mid := 91) (kind := 0) (N := N) (M' := mj_m_X5_comeTo) (As := [.ref 1, .int 3]) (rest := []) (I := I) (P := mj_PP c d r) (I' := (s_X5_comeTo 3 I).2) (P' := mj_PP c d r) (v := some (.int ((s_X5_comeTo 3 I).1))) rfl rfl rfl mj_mc91 mj_dc91 rfl rfl rfl rfl rfl rfl (x_X5_comeTo l b base D z N 3 I c d r) ?_
                    refine R_seg (φ := []) (pc' := 110) (L' := [.ref 1, .int (3), .int i, .int (1), .int j, .int n, .ref 40, .ref 36]) (st' := [.int ((s_X5_comeTo 3 I).1)]) (σ' := (mj_KS N, (s_X5_comeTo 3 I).2, mj_PP c d r)) 0 rfl trivial ?_
                    exact R_ri rfl rfl (mj_leaf (by first | (simp only [s_X5_copy, if_neg h1, if_neg h2, if_neg h3, if_neg h4, if_pos h5, if_neg h6, h7, Bool.false_eq_true, ↓reduceIte, Nat.reduceAdd, Nat.reduceMul, mj_tn0, mj_tn1, mj_tn2, mj_tn3]; done) | contradiction) (by first | (simp only [s_X5_copy, if_neg h1, if_neg h2, if_neg h3, if_neg h4, if_pos h5, if_neg h6, h7, Bool.false_eq_true, ↓reduceIte, Nat.reduceAdd, Nat.reduceMul, mj_tn0, mj_tn1, mj_tn2, mj_tn3]; done) | contradiction))
                  · skip
                    replace h7 := bI_1 h7
                    refine R_seg (φ := []) (pc' := 99) (L' := [.ref 1, .int (3), .int i, .int (1), .int j, .int n, .ref 40, .ref 36]) (st' := [.int n, .int j, .ref 36]) (σ' := (mj_KS N, I, mj_PP c d r)) 3 rfl trivial ?_
                    refine R_ce (idx := 242) (mid := 36) (kind := 3) (N := N) (M' := mj_m_X4_hasCells) (As := [.ref 36, .int j, .int n]) (rest := []) (I := I) (P := mj_PP c d r) (I' := I) (P' := mj_PP c d r) (v := some (.int (bI (sp_hc (I 36 2) j n)))) rfl rfl rfl mj_mc36 mj_dc36 rfl rfl rfl rfl rfl rfl (x_hasCells l b base D z N 36 (by decide) j n I c d r) ?_
                    refine R_seg (φ := []) (pc' := 102) (L' := [.ref 1, .int (3), .int i, .int (1), .int j, .int n, .ref 40, .ref 36]) (st' := [.int (bI (sp_hc (I 36 2) j n))]) (σ' := (mj_KS N, I, mj_PP c d r)) 0 rfl trivial ?_
                    refine R_br (q := (bI (sp_hc (I 36 2) j n) : Int32) = 0) (t := 105) (f := 111) (rest := []) rfl (fun h8 => ?_) (fun h8 => ?_)
                    · skip
                      replace h8 := bI_0.mp h8
                      refine R_seg (φ := []) (pc' := 107) (L' := [.ref 1, .int (3), .int i, .int (1), .int j, .int n, .ref 40, .ref 36]) (st' := [.int 3, .ref 1]) (σ' := (mj_KS N, I, mj_PP c d r)) 2 rfl trivial ?_
                      refine R_ce (idx := 90) (mid := 91) (kind := 0) (N := N) (M' := mj_m_X5_comeTo) (As := [.ref 1, .int 3]) (rest := []) (I := I) (P := mj_PP c d r) (I' := (s_X5_comeTo 3 I).2) (P' := mj_PP c d r) (v := some (.int ((s_X5_comeTo 3 I).1))) rfl rfl rfl mj_mc91 mj_dc91 rfl rfl rfl rfl rfl rfl (x_X5_comeTo l b base D z N 3 I c d r) ?_
                      refine R_seg (φ := []) (pc' := 110) (L' := [.ref 1, .int (3), .int i, .int (1), .int j, .int n, .ref 40, .ref 36]) (st' := [.int ((s_X5_comeTo 3 I).1)]) (σ' := (mj_KS N, (s_X5_comeTo 3 I).2, mj_PP c d r)) 0 rfl trivial ?_
                      exact R_ri rfl rfl (mj_leaf (by first | (simp only [s_X5_copy, if_neg h1, if_neg h2, if_neg h3, if_neg h4, if_pos h5, if_neg h6, h7, h8, Bool.false_eq_true, ↓reduceIte, Nat.reduceAdd, Nat.reduceMul, mj_tn0, mj_tn1, mj_tn2, mj_tn3]; done) | contradiction) (by first | (simp only [s_X5_copy, if_neg h1, if_neg h2, if_neg h3, if_neg h4, if_pos h5, if_neg h6, h7, h8, Bool.false_eq_true, ↓reduceIte, Nat.reduceAdd, Nat.reduceMul, mj_tn0, mj_tn1, mj_tn2, mj_tn3]; done) | contradiction))
                    · skip
                      replace h8 := bI_1 h8
                      refine R_seg (φ := [0 ≤ (i : Int32).toInt ∧ 0 ≤ (j : Int32).toInt ∧ 0 ≤ (n : Int32).toInt ∧ (i : Int32).toInt + (n : Int32).toInt ≤ ((60 : Nat) : Int) ∧ (j : Int32).toInt + (n : Int32).toInt ≤ ((60 : Nat) : Int) ∧ ((60 : Nat) : Int) < 2147483648 ∧ ((60 : Nat) : Int) < 2147483648]) (pc' := 136) (L' := [.ref 1, .int (3), .int i, .int (1), .int j, .int n, .ref 40, .ref 36]) (st' := [.int n]) (σ' := (mj_KS N, mj_cpy (mj_upI I 1 13 0) 41 37 i j n, mj_PP c d r)) 12 rfl ⟨mj_cp h6 h7 h8 (hl 3 (by decide)) (hl 1 (by decide)), trivial⟩ ?_
                      exact R_ri rfl rfl (mj_leaf (by first | (simp only [s_X5_copy, if_neg h1, if_neg h2, if_neg h3, if_neg h4, if_pos h5, if_neg h6, h7, h8, Bool.false_eq_true, ↓reduceIte, Nat.reduceAdd, Nat.reduceMul, mj_tn0, mj_tn1, mj_tn2, mj_tn3]; done) | contradiction) (by first | (simp only [s_X5_copy, if_neg h1, if_neg h2, if_neg h3, if_neg h4, if_pos h5, if_neg h6, h7, h8, Bool.false_eq_true, ↓reduceIte, Nat.reduceAdd, Nat.reduceMul, mj_tn0, mj_tn1, mj_tn2, mj_tn3]; done) | contradiction))
              · skip
                refine R_seg (φ := []) (pc' := 73) (L' := [.ref 1, .int (3), .int i, .int (1), .int j, .int n, .ref 40, .ref 36]) (st' := [.int 2, .ref 1]) (σ' := (mj_KS N, I, mj_PP c d r)) 2 rfl trivial ?_
                refine R_ce (idx := 90) (mid := 91) (kind := 0) (N := N) (M' := mj_m_X5_comeTo) (As := [.ref 1, .int 2]) (rest := []) (I := I) (P := mj_PP c d r) (I' := (s_X5_comeTo 2 I).2) (P' := mj_PP c d r) (v := some (.int ((s_X5_comeTo 2 I).1))) rfl rfl rfl mj_mc91 mj_dc91 rfl rfl rfl rfl rfl rfl (x_X5_comeTo l b base D z N 2 I c d r) ?_
                refine R_seg (φ := []) (pc' := 76) (L' := [.ref 1, .int (3), .int i, .int (1), .int j, .int n, .ref 40, .ref 36]) (st' := [.int ((s_X5_comeTo 2 I).1)]) (σ' := (mj_KS N, (s_X5_comeTo 2 I).2, mj_PP c d r)) 0 rfl trivial ?_
                exact R_ri rfl rfl (mj_leaf (by first | (simp only [s_X5_copy, if_neg h1, if_neg h2, if_neg h3, if_neg h4, if_neg h5, Bool.false_eq_true, ↓reduceIte, Nat.reduceAdd, Nat.reduceMul, mj_tn0, mj_tn1, mj_tn2, mj_tn3]; done) | contradiction) (by first | (simp only [s_X5_copy, if_neg h1, if_neg h2, if_neg h3, if_neg h4, if_neg h5, Bool.false_eq_true, ↓reduceIte, Nat.reduceAdd, Nat.reduceMul, mj_tn0, mj_tn1, mj_tn2, mj_tn3]; done) | contradiction))
        · skip
          refine R_seg (φ := [mj_in (3) 4, mj_in (2) 4]) (pc' := 41) (L' := [.ref 1, .int (3), .int i, .int (2), .int j, .int n, .ref 40, .ref 38]) (st' := [.int (I 40 0)]) (σ' := (mj_KS N, I, mj_PP c d r)) 11 rfl ⟨mj_in_d (by decide), mj_in_d (by decide), trivial⟩ ?_
          refine R_br (q := (I 40 0 : Int32) = 0) (t := 52) (f := 44) (rest := []) rfl (fun h3 => ?_) (fun h3 => ?_)
          · skip
            refine R_seg (φ := []) (pc' := 54) (L' := [.ref 1, .int (3), .int i, .int (2), .int j, .int n, .ref 40, .ref 38]) (st' := [.int 1, .ref 1]) (σ' := (mj_KS N, I, mj_PP c d r)) 2 rfl trivial ?_
            refine R_ce (idx := 90) (mid := 91) (kind := 0) (N := N) (M' := mj_m_X5_comeTo) (As := [.ref 1, .int 1]) (rest := []) (I := I) (P := mj_PP c d r) (I' := (s_X5_comeTo 1 I).2) (P' := mj_PP c d r) (v := some (.int ((s_X5_comeTo 1 I).1))) rfl rfl rfl mj_mc91 mj_dc91 rfl rfl rfl rfl rfl rfl (x_X5_comeTo l b base D z N 1 I c d r) ?_
            refine R_seg (φ := []) (pc' := 57) (L' := [.ref 1, .int (3), .int i, .int (2), .int j, .int n, .ref 40, .ref 38]) (st' := [.int ((s_X5_comeTo 1 I).1)]) (σ' := (mj_KS N, (s_X5_comeTo 1 I).2, mj_PP c d r)) 0 rfl trivial ?_
            exact R_ri rfl rfl (mj_leaf (by first | (simp only [s_X5_copy, if_neg h1, if_neg h2, if_pos h3, Bool.false_eq_true, ↓reduceIte, Nat.reduceAdd, Nat.reduceMul, mj_tn0, mj_tn1, mj_tn2, mj_tn3]; done) | contradiction) (by first | (simp only [s_X5_copy, if_neg h1, if_neg h2, if_pos h3, Bool.false_eq_true, ↓reduceIte, Nat.reduceAdd, Nat.reduceMul, mj_tn0, mj_tn1, mj_tn2, mj_tn3]; done) | contradiction))
          · skip
            refine R_seg (φ := []) (pc' := 49) (L' := [.ref 1, .int (3), .int i, .int (2), .int j, .int n, .ref 40, .ref 38]) (st' := [.int (I 38 0)]) (σ' := (mj_KS N, I, mj_PP c d r)) 2 rfl trivial ?_
            refine R_br (q := (I 38 0 : Int32) = 0) (t := 52) (f := 58) (rest := []) rfl (fun h4 => ?_) (fun h4 => ?_)
            · skip
              refine R_seg (φ := []) (pc' := 54) (L' := [.ref 1, .int (3), .int i, .int (2), .int j, .int n, .ref 40, .ref 38]) (st' := [.int 1, .ref 1]) (σ' := (mj_KS N, I, mj_PP c d r)) 2 rfl trivial ?_
              refine R_ce (idx := 90) (mid := 91) (kind := 0) (N := N) (M' := mj_m_X5_comeTo) (As := [.ref 1, .int 1]) (rest := []) (I := I) (P := mj_PP c d r) (I' := (s_X5_comeTo 1 I).2) (P' := mj_PP c d r) (v := some (.int ((s_X5_comeTo 1 I).1))) rfl rfl rfl mj_mc91 mj_dc91 rfl rfl rfl rfl rfl rfl (x_X5_comeTo l b base D z N 1 I c d r) ?_
              refine R_seg (φ := []) (pc' := 57) (L' := [.ref 1, .int (3), .int i, .int (2), .int j, .int n, .ref 40, .ref 38]) (st' := [.int ((s_X5_comeTo 1 I).1)]) (σ' := (mj_KS N, (s_X5_comeTo 1 I).2, mj_PP c d r)) 0 rfl trivial ?_
              exact R_ri rfl rfl (mj_leaf (by first | (simp only [s_X5_copy, if_neg h1, if_neg h2, if_neg h3, if_pos h4, Bool.false_eq_true, ↓reduceIte, Nat.reduceAdd, Nat.reduceMul, mj_tn0, mj_tn1, mj_tn2, mj_tn3]; done) | contradiction) (by first | (simp only [s_X5_copy, if_neg h1, if_neg h2, if_neg h3, if_pos h4, Bool.false_eq_true, ↓reduceIte, Nat.reduceAdd, Nat.reduceMul, mj_tn0, mj_tn1, mj_tn2, mj_tn3]; done) | contradiction))
            · skip
              refine R_seg (φ := []) (pc' := 68) (L' := [.ref 1, .int (3), .int i, .int (2), .int j, .int n, .ref 40, .ref 38]) (st' := [.int (I 38 1), .int (I 40 1)]) (σ' := (mj_KS N, I, mj_PP c d r)) 4 rfl trivial ?_
              refine R_br (q := (I 40 1 : Int32) = I 38 1) (t := 77) (f := 71) (rest := []) rfl (fun h5 => ?_) (fun h5 => ?_)
              · skip
                refine R_seg (φ := []) (pc' := 79) (L' := [.ref 1, .int (3), .int i, .int (2), .int j, .int n, .ref 40, .ref 38]) (st' := [.int n]) (σ' := (mj_KS N, I, mj_PP c d r)) 1 rfl trivial ?_
                refine R_br (q := (n : Int32) < 0) (t := 105) (f := 82) (rest := []) rfl (fun h6 => ?_) (fun h6 => ?_)
                · skip
                  refine R_seg (φ := []) (pc' := 107) (L' := [.ref 1, .int (3), .int i, .int (2), .int j, .int n, .ref 40, .ref 38]) (st' := [.int 3, .ref 1]) (σ' := (mj_KS N, I, mj_PP c d r)) 2 rfl trivial ?_
                  refine R_ce (idx := 90) (mid := 91) (kind := 0) (N := N) (M' := mj_m_X5_comeTo) (As := [.ref 1, .int 3]) (rest := []) (I := I) (P := mj_PP c d r) (I' := (s_X5_comeTo 3 I).2) (P' := mj_PP c d r) (v := some (.int ((s_X5_comeTo 3 I).1))) rfl rfl rfl mj_mc91 mj_dc91 rfl rfl rfl rfl rfl rfl (x_X5_comeTo l b base D z N 3 I c d r) ?_
                  refine R_seg (φ := []) (pc' := 110) (L' := [.ref 1, .int (3), .int i, .int (2), .int j, .int n, .ref 40, .ref 38]) (st' := [.int ((s_X5_comeTo 3 I).1)]) (σ' := (mj_KS N, (s_X5_comeTo 3 I).2, mj_PP c d r)) 0 rfl trivial ?_
                  exact R_ri rfl rfl (mj_leaf (by first | (simp only [s_X5_copy, if_neg h1, if_neg h2, if_neg h3, if_neg h4, if_pos h5, if_pos h6, Bool.false_eq_true, ↓reduceIte, Nat.reduceAdd, Nat.reduceMul, mj_tn0, mj_tn1, mj_tn2, mj_tn3]; done) | contradiction) (by first | (simp only [s_X5_copy, if_neg h1, if_neg h2, if_neg h3, if_neg h4, if_pos h5, if_pos h6, Bool.false_eq_true, ↓reduceIte, Nat.reduceAdd, Nat.reduceMul, mj_tn0, mj_tn1, mj_tn2, mj_tn3]; done) | contradiction))
                · skip
                  refine R_seg (φ := []) (pc' := 87) (L' := [.ref 1, .int (3), .int i, .int (2), .int j, .int n, .ref 40, .ref 38]) (st' := [.int n, .int i, .ref 40]) (σ' := (mj_KS N, I, mj_PP c d r)) 3 rfl trivial ?_
                  refine R_ce (idx := 242) (mid := 36) (kind := 3) (N := N) (M' := mj_m_X4_hasCells) (As := [.ref 40, .int i, .int n]) (rest := []) (I := I) (P := mj_PP c d r) (I' := I) (P' := mj_PP c d r) (v := some (.int (bI (sp_hc (I 40 2) i n)))) rfl rfl rfl mj_mc36 mj_dc36 rfl rfl rfl rfl rfl rfl (x_hasCells l b base D z N 40 (by decide) i n I c d r) ?_
                  refine R_seg (φ := []) (pc' := 90) (L' := [.ref 1, .int (3), .int i, .int (2), .int j, .int n, .ref 40, .ref 38]) (st' := [.int (bI (sp_hc (I 40 2) i n))]) (σ' := (mj_KS N, I, mj_PP c d r)) 0 rfl trivial ?_
                  refine R_br (q := (bI (sp_hc (I 40 2) i n) : Int32) = 0) (t := 105) (f := 93) (rest := []) rfl (fun h7 => ?_) (fun h7 => ?_)
                  · skip
                    replace h7 := bI_0.mp h7
                    refine R_seg (φ := []) (pc' := 107) (L' := [.ref 1, .int (3), .int i, .int (2), .int j, .int n, .ref 40, .ref 38]) (st' := [.int 3, .ref 1]) (σ' := (mj_KS N, I, mj_PP c d r)) 2 rfl trivial ?_
                    refine R_ce (idx := 90) (mid := 91) (kind := 0) (N := N) (M' := mj_m_X5_comeTo) (As := [.ref 1, .int 3]) (rest := []) (I := I) (P := mj_PP c d r) (I' := (s_X5_comeTo 3 I).2) (P' := mj_PP c d r) (v := some (.int ((s_X5_comeTo 3 I).1))) rfl rfl rfl mj_mc91 mj_dc91 rfl rfl rfl rfl rfl rfl (x_X5_comeTo l b base D z N 3 I c d r) ?_
                    refine R_seg (φ := []) (pc' := 110) (L' := [.ref 1, .int (3), .int i, .int (2), .int j, .int n, .ref 40, .ref 38]) (st' := [.int ((s_X5_comeTo 3 I).1)]) (σ' := (mj_KS N, (s_X5_comeTo 3 I).2, mj_PP c d r)) 0 rfl trivial ?_
                    exact R_ri rfl rfl (mj_leaf (by first | (simp only [s_X5_copy, if_neg h1, if_neg h2, if_neg h3, if_neg h4, if_pos h5, if_neg h6, h7, Bool.false_eq_true, ↓reduceIte, Nat.reduceAdd, Nat.reduceMul, mj_tn0, mj_tn1, mj_tn2, mj_tn3]; done) | contradiction) (by first | (simp only [s_X5_copy, if_neg h1, if_neg h2, if_neg h3, if_neg h4, if_pos h5, if_neg h6, h7, Bool.false_eq_true, ↓reduceIte, Nat.reduceAdd, Nat.reduceMul, mj_tn0, mj_tn1, mj_tn2, mj_tn3]; done) | contradiction))
                  · skip
                    replace h7 := bI_1 h7
                    refine R_seg (φ := []) (pc' := 99) (L' := [.ref 1, .int (3), .int i, .int (2), .int j, .int n, .ref 40, .ref 38]) (st' := [.int n, .int j, .ref 38]) (σ' := (mj_KS N, I, mj_PP c d r)) 3 rfl trivial ?_
                    refine R_ce (idx := 242) (mid := 36) (kind := 3) (N := N) (M' := mj_m_X4_hasCells) (As := [.ref 38, .int j, .int n]) (rest := []) (I := I) (P := mj_PP c d r) (I' := I) (P' := mj_PP c d r) (v := some (.int (bI (sp_hc (I 38 2) j n)))) rfl rfl rfl mj_mc36 mj_dc36 rfl rfl rfl rfl rfl rfl (x_hasCells l b base D z N 38 (by decide) j n I c d r) ?_
                    refine R_seg (φ := []) (pc' := 102) (L' := [.ref 1, .int (3), .int i, .int (2), .int j, .int n, .ref 40, .ref 38]) (st' := [.int (bI (sp_hc (I 38 2) j n))]) (σ' := (mj_KS N, I, mj_PP c d r)) 0 rfl trivial ?_
                    refine R_br (q := (bI (sp_hc (I 38 2) j n) : Int32) = 0) (t := 105) (f := 111) (rest := []) rfl (fun h8 => ?_) (fun h8 => ?_)
                    · skip
                      replace h8 := bI_0.mp h8
                      refine R_seg (φ := []) (pc' := 107) (L' := [.ref 1, .int (3), .int i, .int (2), .int j, .int n, .ref 40, .ref 38]) (st' := [.int 3, .ref 1]) (σ' := (mj_KS N, I, mj_PP c d r)) 2 rfl trivial ?_
                      refine R_ce (idx := 90) (mid := 91) (kind := 0) (N := N) (M' := mj_m_X5_comeTo) (As := [.ref 1, .int 3]) (rest := []) (I := I) (P := mj_PP c d r) (I' := (s_X5_comeTo 3 I).2) (P' := mj_PP c d r) (v := some (.int ((s_X5_comeTo 3 I).1))) rfl rfl rfl mj_mc91 mj_dc91 rfl rfl rfl rfl rfl rfl (x_X5_comeTo l b base D z N 3 I c d r) ?_
                      refine R_seg (φ := []) (pc' := 110) (L' := [.ref 1, .int (3), .int i, .int (2), .int j, .int n, .ref 40, .ref 38]) (st' := [.int ((s_X5_comeTo 3 I).1)]) (σ' := (mj_KS N, (s_X5_comeTo 3 I).2, mj_PP c d r)) 0 rfl trivial ?_
                      exact R_ri rfl rfl (mj_leaf (by first | (simp only [s_X5_copy, if_neg h1, if_neg h2, if_neg h3, if_neg h4, if_pos h5, if_neg h6, h7, h8, Bool.false_eq_true, ↓reduceIte, Nat.reduceAdd, Nat.reduceMul, mj_tn0, mj_tn1, mj_tn2, mj_tn3]; done) | contradiction) (by first | (simp only [s_X5_copy, if_neg h1, if_neg h2, if_neg h3, if_neg h4, if_pos h5, if_neg h6, h7, h8, Bool.false_eq_true, ↓reduceIte, Nat.reduceAdd, Nat.reduceMul, mj_tn0, mj_tn1, mj_tn2, mj_tn3]; done) | contradiction))
                    · skip
                      replace h8 := bI_1 h8
                      refine R_seg (φ := [0 ≤ (i : Int32).toInt ∧ 0 ≤ (j : Int32).toInt ∧ 0 ≤ (n : Int32).toInt ∧ (i : Int32).toInt + (n : Int32).toInt ≤ ((60 : Nat) : Int) ∧ (j : Int32).toInt + (n : Int32).toInt ≤ ((60 : Nat) : Int) ∧ ((60 : Nat) : Int) < 2147483648 ∧ ((60 : Nat) : Int) < 2147483648]) (pc' := 136) (L' := [.ref 1, .int (3), .int i, .int (2), .int j, .int n, .ref 40, .ref 38]) (st' := [.int n]) (σ' := (mj_KS N, mj_cpy (mj_upI I 1 13 0) 41 39 i j n, mj_PP c d r)) 12 rfl ⟨mj_cp h6 h7 h8 (hl 3 (by decide)) (hl 2 (by decide)), trivial⟩ ?_
                      exact R_ri rfl rfl (mj_leaf (by first | (simp only [s_X5_copy, if_neg h1, if_neg h2, if_neg h3, if_neg h4, if_pos h5, if_neg h6, h7, h8, Bool.false_eq_true, ↓reduceIte, Nat.reduceAdd, Nat.reduceMul, mj_tn0, mj_tn1, mj_tn2, mj_tn3]; done) | contradiction) (by first | (simp only [s_X5_copy, if_neg h1, if_neg h2, if_neg h3, if_neg h4, if_pos h5, if_neg h6, h7, h8, Bool.false_eq_true, ↓reduceIte, Nat.reduceAdd, Nat.reduceMul, mj_tn0, mj_tn1, mj_tn2, mj_tn3]; done) | contradiction))
              · skip
                refine R_seg (φ := []) (pc' := 73) (L' := [.ref 1, .int (3), .int i, .int (2), .int j, .int n, .ref 40, .ref 38]) (st' := [.int 2, .ref 1]) (σ' := (mj_KS N, I, mj_PP c d r)) 2 rfl trivial ?_
                refine R_ce (idx := 90) (mid := 91) (kind := 0) (N := N) (M' := mj_m_X5_comeTo) (As := [.ref 1, .int 2]) (rest := []) (I := I) (P := mj_PP c d r) (I' := (s_X5_comeTo 2 I).2) (P' := mj_PP c d r) (v := some (.int ((s_X5_comeTo 2 I).1))) rfl rfl rfl mj_mc91 mj_dc91 rfl rfl rfl rfl rfl rfl (x_X5_comeTo l b base D z N 2 I c d r) ?_
                refine R_seg (φ := []) (pc' := 76) (L' := [.ref 1, .int (3), .int i, .int (2), .int j, .int n, .ref 40, .ref 38]) (st' := [.int ((s_X5_comeTo 2 I).1)]) (σ' := (mj_KS N, (s_X5_comeTo 2 I).2, mj_PP c d r)) 0 rfl trivial ?_
                exact R_ri rfl rfl (mj_leaf (by first | (simp only [s_X5_copy, if_neg h1, if_neg h2, if_neg h3, if_neg h4, if_neg h5, Bool.false_eq_true, ↓reduceIte, Nat.reduceAdd, Nat.reduceMul, mj_tn0, mj_tn1, mj_tn2, mj_tn3]; done) | contradiction) (by first | (simp only [s_X5_copy, if_neg h1, if_neg h2, if_neg h3, if_neg h4, if_neg h5, Bool.false_eq_true, ↓reduceIte, Nat.reduceAdd, Nat.reduceMul, mj_tn0, mj_tn1, mj_tn2, mj_tn3]; done) | contradiction))
        · skip
          refine R_seg (φ := [mj_in (3) 4, mj_in (3) 4]) (pc' := 41) (L' := [.ref 1, .int (3), .int i, .int (3), .int j, .int n, .ref 40, .ref 40]) (st' := [.int (I 40 0)]) (σ' := (mj_KS N, I, mj_PP c d r)) 11 rfl ⟨mj_in_d (by decide), mj_in_d (by decide), trivial⟩ ?_
          refine R_br (q := (I 40 0 : Int32) = 0) (t := 52) (f := 44) (rest := []) rfl (fun h3 => ?_) (fun h3 => ?_)
          · skip
            refine R_seg (φ := []) (pc' := 54) (L' := [.ref 1, .int (3), .int i, .int (3), .int j, .int n, .ref 40, .ref 40]) (st' := [.int 1, .ref 1]) (σ' := (mj_KS N, I, mj_PP c d r)) 2 rfl trivial ?_
            refine R_ce (idx := 90) (mid := 91) (kind := 0) (N := N) (M' := mj_m_X5_comeTo) (As := [.ref 1, .int 1]) (rest := []) (I := I) (P := mj_PP c d r) (I' := (s_X5_comeTo 1 I).2) (P' := mj_PP c d r) (v := some (.int ((s_X5_comeTo 1 I).1))) rfl rfl rfl mj_mc91 mj_dc91 rfl rfl rfl rfl rfl rfl (x_X5_comeTo l b base D z N 1 I c d r) ?_
            refine R_seg (φ := []) (pc' := 57) (L' := [.ref 1, .int (3), .int i, .int (3), .int j, .int n, .ref 40, .ref 40]) (st' := [.int ((s_X5_comeTo 1 I).1)]) (σ' := (mj_KS N, (s_X5_comeTo 1 I).2, mj_PP c d r)) 0 rfl trivial ?_
            exact R_ri rfl rfl (mj_leaf (by first | (simp only [s_X5_copy, if_neg h1, if_neg h2, if_pos h3, Bool.false_eq_true, ↓reduceIte, Nat.reduceAdd, Nat.reduceMul, mj_tn0, mj_tn1, mj_tn2, mj_tn3]; done) | contradiction) (by first | (simp only [s_X5_copy, if_neg h1, if_neg h2, if_pos h3, Bool.false_eq_true, ↓reduceIte, Nat.reduceAdd, Nat.reduceMul, mj_tn0, mj_tn1, mj_tn2, mj_tn3]; done) | contradiction))
          · skip
            refine R_seg (φ := []) (pc' := 49) (L' := [.ref 1, .int (3), .int i, .int (3), .int j, .int n, .ref 40, .ref 40]) (st' := [.int (I 40 0)]) (σ' := (mj_KS N, I, mj_PP c d r)) 2 rfl trivial ?_
            refine R_br (q := (I 40 0 : Int32) = 0) (t := 52) (f := 58) (rest := []) rfl (fun h4 => ?_) (fun h4 => ?_)
            · skip
              refine R_seg (φ := []) (pc' := 54) (L' := [.ref 1, .int (3), .int i, .int (3), .int j, .int n, .ref 40, .ref 40]) (st' := [.int 1, .ref 1]) (σ' := (mj_KS N, I, mj_PP c d r)) 2 rfl trivial ?_
              refine R_ce (idx := 90) (mid := 91) (kind := 0) (N := N) (M' := mj_m_X5_comeTo) (As := [.ref 1, .int 1]) (rest := []) (I := I) (P := mj_PP c d r) (I' := (s_X5_comeTo 1 I).2) (P' := mj_PP c d r) (v := some (.int ((s_X5_comeTo 1 I).1))) rfl rfl rfl mj_mc91 mj_dc91 rfl rfl rfl rfl rfl rfl (x_X5_comeTo l b base D z N 1 I c d r) ?_
              refine R_seg (φ := []) (pc' := 57) (L' := [.ref 1, .int (3), .int i, .int (3), .int j, .int n, .ref 40, .ref 40]) (st' := [.int ((s_X5_comeTo 1 I).1)]) (σ' := (mj_KS N, (s_X5_comeTo 1 I).2, mj_PP c d r)) 0 rfl trivial ?_
              exact R_ri rfl rfl (mj_leaf (by first | (simp only [s_X5_copy, if_neg h1, if_neg h2, if_neg h3, if_pos h4, Bool.false_eq_true, ↓reduceIte, Nat.reduceAdd, Nat.reduceMul, mj_tn0, mj_tn1, mj_tn2, mj_tn3]; done) | contradiction) (by first | (simp only [s_X5_copy, if_neg h1, if_neg h2, if_neg h3, if_pos h4, Bool.false_eq_true, ↓reduceIte, Nat.reduceAdd, Nat.reduceMul, mj_tn0, mj_tn1, mj_tn2, mj_tn3]; done) | contradiction))
            · skip
              refine R_seg (φ := []) (pc' := 68) (L' := [.ref 1, .int (3), .int i, .int (3), .int j, .int n, .ref 40, .ref 40]) (st' := [.int (I 40 1), .int (I 40 1)]) (σ' := (mj_KS N, I, mj_PP c d r)) 4 rfl trivial ?_
              refine R_br (q := (I 40 1 : Int32) = I 40 1) (t := 77) (f := 71) (rest := []) rfl (fun h5 => ?_) (fun h5 => ?_)
              · skip
                refine R_seg (φ := []) (pc' := 79) (L' := [.ref 1, .int (3), .int i, .int (3), .int j, .int n, .ref 40, .ref 40]) (st' := [.int n]) (σ' := (mj_KS N, I, mj_PP c d r)) 1 rfl trivial ?_
                refine R_br (q := (n : Int32) < 0) (t := 105) (f := 82) (rest := []) rfl (fun h6 => ?_) (fun h6 => ?_)
                · skip
                  refine R_seg (φ := []) (pc' := 107) (L' := [.ref 1, .int (3), .int i, .int (3), .int j, .int n, .ref 40, .ref 40]) (st' := [.int 3, .ref 1]) (σ' := (mj_KS N, I, mj_PP c d r)) 2 rfl trivial ?_
                  refine R_ce (idx := 90) (mid := 91) (kind := 0) (N := N) (M' := mj_m_X5_comeTo) (As := [.ref 1, .int 3]) (rest := []) (I := I) (P := mj_PP c d r) (I' := (s_X5_comeTo 3 I).2) (P' := mj_PP c d r) (v := some (.int ((s_X5_comeTo 3 I).1))) rfl rfl rfl mj_mc91 mj_dc91 rfl rfl rfl rfl rfl rfl (x_X5_comeTo l b base D z N 3 I c d r) ?_
                  refine R_seg (φ := []) (pc' := 110) (L' := [.ref 1, .int (3), .int i, .int (3), .int j, .int n, .ref 40, .ref 40]) (st' := [.int ((s_X5_comeTo 3 I).1)]) (σ' := (mj_KS N, (s_X5_comeTo 3 I).2, mj_PP c d r)) 0 rfl trivial ?_
                  exact R_ri rfl rfl (mj_leaf (by first | (simp only [s_X5_copy, if_neg h1, if_neg h2, if_neg h3, if_neg h4, if_pos h5, if_pos h6, Bool.false_eq_true, ↓reduceIte, Nat.reduceAdd, Nat.reduceMul, mj_tn0, mj_tn1, mj_tn2, mj_tn3]; done) | contradiction) (by first | (simp only [s_X5_copy, if_neg h1, if_neg h2, if_neg h3, if_neg h4, if_pos h5, if_pos h6, Bool.false_eq_true, ↓reduceIte, Nat.reduceAdd, Nat.reduceMul, mj_tn0, mj_tn1, mj_tn2, mj_tn3]; done) | contradiction))
                · skip
                  refine R_seg (φ := []) (pc' := 87) (L' := [.ref 1, .int (3), .int i, .int (3), .int j, .int n, .ref 40, .ref 40]) (st' := [.int n, .int i, .ref 40]) (σ' := (mj_KS N, I, mj_PP c d r)) 3 rfl trivial ?_
                  refine R_ce (idx := 242) (mid := 36) (kind := 3) (N := N) (M' := mj_m_X4_hasCells) (As := [.ref 40, .int i, .int n]) (rest := []) (I := I) (P := mj_PP c d r) (I' := I) (P' := mj_PP c d r) (v := some (.int (bI (sp_hc (I 40 2) i n)))) rfl rfl rfl mj_mc36 mj_dc36 rfl rfl rfl rfl rfl rfl (x_hasCells l b base D z N 40 (by decide) i n I c d r) ?_
                  refine R_seg (φ := []) (pc' := 90) (L' := [.ref 1, .int (3), .int i, .int (3), .int j, .int n, .ref 40, .ref 40]) (st' := [.int (bI (sp_hc (I 40 2) i n))]) (σ' := (mj_KS N, I, mj_PP c d r)) 0 rfl trivial ?_
                  refine R_br (q := (bI (sp_hc (I 40 2) i n) : Int32) = 0) (t := 105) (f := 93) (rest := []) rfl (fun h7 => ?_) (fun h7 => ?_)
                  · skip
                    replace h7 := bI_0.mp h7
                    refine R_seg (φ := []) (pc' := 107) (L' := [.ref 1, .int (3), .int i, .int (3), .int j, .int n, .ref 40, .ref 40]) (st' := [.int 3, .ref 1]) (σ' := (mj_KS N, I, mj_PP c d r)) 2 rfl trivial ?_
                    refine R_ce (idx := 90) (mid := 91) (kind := 0) (N := N) (M' := mj_m_X5_comeTo) (As := [.ref 1, .int 3]) (rest := []) (I := I) (P := mj_PP c d r) (I' := (s_X5_comeTo 3 I).2) (P' := mj_PP c d r) (v := some (.int ((s_X5_comeTo 3 I).1))) rfl rfl rfl mj_mc91 mj_dc91 rfl rfl rfl rfl rfl rfl (x_X5_comeTo l b base D z N 3 I c d r) ?_
                    refine R_seg (φ := []) (pc' := 110) (L' := [.ref 1, .int (3), .int i, .int (3), .int j, .int n, .ref 40, .ref 40]) (st' := [.int ((s_X5_comeTo 3 I).1)]) (σ' := (mj_KS N, (s_X5_comeTo 3 I).2, mj_PP c d r)) 0 rfl trivial ?_
                    exact R_ri rfl rfl (mj_leaf (by first | (simp only [s_X5_copy, if_neg h1, if_neg h2, if_neg h3, if_neg h4, if_pos h5, if_neg h6, h7, Bool.false_eq_true, ↓reduceIte, Nat.reduceAdd, Nat.reduceMul, mj_tn0, mj_tn1, mj_tn2, mj_tn3]; done) | contradiction) (by first | (simp only [s_X5_copy, if_neg h1, if_neg h2, if_neg h3, if_neg h4, if_pos h5, if_neg h6, h7, Bool.false_eq_true, ↓reduceIte, Nat.reduceAdd, Nat.reduceMul, mj_tn0, mj_tn1, mj_tn2, mj_tn3]; done) | contradiction))
                  · skip
                    replace h7 := bI_1 h7
                    refine R_seg (φ := []) (pc' := 99) (L' := [.ref 1, .int (3), .int i, .int (3), .int j, .int n, .ref 40, .ref 40]) (st' := [.int n, .int j, .ref 40]) (σ' := (mj_KS N, I, mj_PP c d r)) 3 rfl trivial ?_
                    refine R_ce (idx := 242) (mid := 36) (kind := 3) (N := N) (M' := mj_m_X4_hasCells) (As := [.ref 40, .int j, .int n]) (rest := []) (I := I) (P := mj_PP c d r) (I' := I) (P' := mj_PP c d r) (v := some (.int (bI (sp_hc (I 40 2) j n)))) rfl rfl rfl mj_mc36 mj_dc36 rfl rfl rfl rfl rfl rfl (x_hasCells l b base D z N 40 (by decide) j n I c d r) ?_
                    refine R_seg (φ := []) (pc' := 102) (L' := [.ref 1, .int (3), .int i, .int (3), .int j, .int n, .ref 40, .ref 40]) (st' := [.int (bI (sp_hc (I 40 2) j n))]) (σ' := (mj_KS N, I, mj_PP c d r)) 0 rfl trivial ?_
                    refine R_br (q := (bI (sp_hc (I 40 2) j n) : Int32) = 0) (t := 105) (f := 111) (rest := []) rfl (fun h8 => ?_) (fun h8 => ?_)
                    · skip
                      replace h8 := bI_0.mp h8
                      refine R_seg (φ := []) (pc' := 107) (L' := [.ref 1, .int (3), .int i, .int (3), .int j, .int n, .ref 40, .ref 40]) (st' := [.int 3, .ref 1]) (σ' := (mj_KS N, I, mj_PP c d r)) 2 rfl trivial ?_
                      refine R_ce (idx := 90) (mid := 91) (kind := 0) (N := N) (M' := mj_m_X5_comeTo) (As := [.ref 1, .int 3]) (rest := []) (I := I) (P := mj_PP c d r) (I' := (s_X5_comeTo 3 I).2) (P' := mj_PP c d r) (v := some (.int ((s_X5_comeTo 3 I).1))) rfl rfl rfl mj_mc91 mj_dc91 rfl rfl rfl rfl rfl rfl (x_X5_comeTo l b base D z N 3 I c d r) ?_
                      refine R_seg (φ := []) (pc' := 110) (L' := [.ref 1, .int (3), .int i, .int (3), .int j, .int n, .ref 40, .ref 40]) (st' := [.int ((s_X5_comeTo 3 I).1)]) (σ' := (mj_KS N, (s_X5_comeTo 3 I).2, mj_PP c d r)) 0 rfl trivial ?_
                      exact R_ri rfl rfl (mj_leaf (by first | (simp only [s_X5_copy, if_neg h1, if_neg h2, if_neg h3, if_neg h4, if_pos h5, if_neg h6, h7, h8, Bool.false_eq_true, ↓reduceIte, Nat.reduceAdd, Nat.reduceMul, mj_tn0, mj_tn1, mj_tn2, mj_tn3]; done) | contradiction) (by first | (simp only [s_X5_copy, if_neg h1, if_neg h2, if_neg h3, if_neg h4, if_pos h5, if_neg h6, h7, h8, Bool.false_eq_true, ↓reduceIte, Nat.reduceAdd, Nat.reduceMul, mj_tn0, mj_tn1, mj_tn2, mj_tn3]; done) | contradiction))
                    · skip
                      replace h8 := bI_1 h8
                      refine R_seg (φ := [0 ≤ (i : Int32).toInt ∧ 0 ≤ (j : Int32).toInt ∧ 0 ≤ (n : Int32).toInt ∧ (i : Int32).toInt + (n : Int32).toInt ≤ ((60 : Nat) : Int) ∧ (j : Int32).toInt + (n : Int32).toInt ≤ ((60 : Nat) : Int) ∧ ((60 : Nat) : Int) < 2147483648 ∧ ((60 : Nat) : Int) < 2147483648]) (pc' := 136) (L' := [.ref 1, .int (3), .int i, .int (3), .int j, .int n, .ref 40, .ref 40]) (st' := [.int n]) (σ' := (mj_KS N, mj_cpy (mj_upI I 1 13 0) 41 41 i j n, mj_PP c d r)) 12 rfl ⟨mj_cp h6 h7 h8 (hl 3 (by decide)) (hl 3 (by decide)), trivial⟩ ?_
                      exact R_ri rfl rfl (mj_leaf (by first | (simp only [s_X5_copy, if_neg h1, if_neg h2, if_neg h3, if_neg h4, if_pos h5, if_neg h6, h7, h8, Bool.false_eq_true, ↓reduceIte, Nat.reduceAdd, Nat.reduceMul, mj_tn0, mj_tn1, mj_tn2, mj_tn3]; done) | contradiction) (by first | (simp only [s_X5_copy, if_neg h1, if_neg h2, if_neg h3, if_neg h4, if_pos h5, if_neg h6, h7, h8, Bool.false_eq_true, ↓reduceIte, Nat.reduceAdd, Nat.reduceMul, mj_tn0, mj_tn1, mj_tn2, mj_tn3]; done) | contradiction))
              · skip
                refine R_seg (φ := []) (pc' := 73) (L' := [.ref 1, .int (3), .int i, .int (3), .int j, .int n, .ref 40, .ref 40]) (st' := [.int 2, .ref 1]) (σ' := (mj_KS N, I, mj_PP c d r)) 2 rfl trivial ?_
                refine R_ce (idx := 90) (mid := 91) (kind := 0) (N := N) (M' := mj_m_X5_comeTo) (As := [.ref 1, .int 2]) (rest := []) (I := I) (P := mj_PP c d r) (I' := (s_X5_comeTo 2 I).2) (P' := mj_PP c d r) (v := some (.int ((s_X5_comeTo 2 I).1))) rfl rfl rfl mj_mc91 mj_dc91 rfl rfl rfl rfl rfl rfl (x_X5_comeTo l b base D z N 2 I c d r) ?_
                refine R_seg (φ := []) (pc' := 76) (L' := [.ref 1, .int (3), .int i, .int (3), .int j, .int n, .ref 40, .ref 40]) (st' := [.int ((s_X5_comeTo 2 I).1)]) (σ' := (mj_KS N, (s_X5_comeTo 2 I).2, mj_PP c d r)) 0 rfl trivial ?_
                exact R_ri rfl rfl (mj_leaf (by first | (simp only [s_X5_copy, if_neg h1, if_neg h2, if_neg h3, if_neg h4, if_neg h5, Bool.false_eq_true, ↓reduceIte, Nat.reduceAdd, Nat.reduceMul, mj_tn0, mj_tn1, mj_tn2, mj_tn3]; done) | contradiction) (by first | (simp only [s_X5_copy, if_neg h1, if_neg h2, if_neg h3, if_neg h4, if_neg h5, Bool.false_eq_true, ↓reduceIte, Nat.reduceAdd, Nat.reduceMul, mj_tn0, mj_tn1, mj_tn2, mj_tn3]; done) | contradiction))
