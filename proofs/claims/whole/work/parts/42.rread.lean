/-! the reference: routes told, readings -/
theorem mj6_rowm {a n : Int32} {I : mj_I} (h : ¬ s_X6_isRow a n I = 0) : ∃ m : Nat, m ≤ 24 ∧ n = nI m := by
  unfold s_X6_isRow at h
  by_cases h1 : s_X6_isSort a I = 0
  · rw [if_pos h1] at h; exact absurd rfl h
  · rw [if_neg h1] at h
    by_cases h2 : s_X6_within n 0 24 I = 0
    · rw [if_pos h2] at h; exact absurd rfl h
    · have a1 := mj6_wi h2
      have e24 : (24 : Int32).toInt = 24 := by decide
      rw [Int32.toInt_zero, e24] at a1
      exact ⟨n.toInt.toNat, by omega, mj_ofI (by rw [nI_toInt (by omega)]; omega)⟩
theorem mj6_gr_ne (m p : Nat) (I : mj_I) (x : Nat) (h1 : x ≠ 55) (h2 : x ≠ 56) : s_X6_goRoute m p I x = I x := by
  have g3 : ∀ (y k j : Nat) (I : mj_I), s_X6_g3 m p y k j I x = I x := by
    intro y k
    induction k with
    | zero => intro j I; rfl
    | succ k ih =>
      intro j I
      rw [s_X6_g3]
      repeat' split
      all_goals rw [ih, mj_upI_ne h2, mj_upI_ne h1]
  have g2 : ∀ (k j : Nat) (I : mj_I), s_X6_g2 m p k j I x = I x := by
    intro k
    induction k with
    | zero => intro j I; rfl
    | succ k ih => intro j I; rw [s_X6_g2, ih, g3]
  rw [s_X6_goRoute, g2, mj6_g1_ne p x h1 h2]
theorem mj6_ly_ne (u a i : Int32) (m : Nat) (I : mj_I) (x : Nat) (h1 : x ≠ 54) (h2 : x ≠ 42) : (s_X6_layRoute u a i m I).2 x = I x := by
  unfold s_X6_layRoute
  repeat' split
  · rfl
  · exact mj6_lr_ne u a i m _ x h1 h2 m 0 I
  · exact mj_upI_ne h2
theorem mj6_ly_42 (u a i : Int32) (m : Nat) (I : mj_I) (y : Int32) (h1 : y ≠ 19) (h2 : y ≠ 0) : (s_X6_layRoute u a i m I).2 42 y = I 42 y := by
  unfold s_X6_layRoute
  repeat' split
  · rfl
  · exact mj6_lr_42 u a i m _ y h1 m 0 I
  · show mj_upI I 42 0 _ 42 y = I 42 y
    rw [mj_upI_eq, if_neg h2]
def mj6_J (m p R : Nat) (I : mj_I) : Prop := mj6_G0 m p I ∧ I 42 25 = nI R ∧ R ≤ 8 ∧ ∀ j : Nat, j < R → mj_in (I 59 (nI j)) 3
theorem mj6_J_eq {m p R : Nat} {I I' : mj_I} (h54 : I' 54 = I 54) (h59 : I' 59 = I 59) (h42 : I' 42 = I 42) (h : mj6_J m p R I) : mj6_J m p R I' := by
  obtain ⟨⟨a, b, c, d, e⟩, f, g, k⟩ := h
  exact ⟨⟨a, b, by rw [h42]; exact c, by rw [h42]; exact d, by rw [h54]; exact e⟩, by rw [h42]; exact f, g, by rw [h59]; exact k⟩
theorem mj6_J_gr {m p R : Nat} {I : mj_I} (h : mj6_J m p R I) : mj6_J m p R (s_X6_goRoute m p I) := mj6_J_eq (mj6_gr_ne _ _ _ _ (by decide) (by decide)) (mj6_gr_ne _ _ _ _ (by decide) (by decide)) (mj6_gr_ne _ _ _ _ (by decide) (by decide)) h
theorem mj6_J_up {m p R x : Nat} {I : mj_I} {y v : Int32} (h1 : 54 ≠ x) (h2 : 59 ≠ x) (h3 : 42 ≠ x) (h : mj6_J m p R I) : mj6_J m p R (mj_upI I x y v) := mj6_J_eq (mj_upI_ne h1) (mj_upI_ne h2) (mj_upI_ne h3) h
def s_X6_ar (R : Nat) (I : mj_I) : Nat → Nat → Int32
  | 0, j => 1
  | k + 1, j => if (I 56 (I 59 (nI j)) : Int32) = I 60 (nI j) then (s_X6_ar R I k (j + 1) ) else 0
set_option maxHeartbeats 8000000 in
theorem x_X6_ar (l : Launch) (b base : Nat) (D : va_G) (z : mj_K × (Int32 → Int32)) (N : Nat) (R : Nat) (I : mj_I) (c d r : Nat) (hr : I 42 25 = nI R) (hR : R ≤ 8) (hq2 : ∀ j : Nat, j < R → mj_in (I 59 (nI j)) 3) : ∀ (k j : Nat), k = R - j → 0 ≤ j → j ≤ R + 1 → mj_Rn l b base D z mj_m_X6_areSo 6 [.ref 42, .int (nI j)] [] (mj_KS N, I, mj_PP c d r) (mj_E N (some (.int (s_X6_ar R I k j ))) I (mj_PP c d r)) := by
  intro k
  induction k with
  | zero =>
    intro j hk hlo hj
    refine R_seg (φ := []) (pc' := 11) (L' := [.ref 42, .int (nI j)]) (st' := [.int (I 42 25), .int (nI j)]) (σ' := (mj_KS N, I, mj_PP c d r)) 3 rfl trivial ?_
    refine R_br (q := (nI j : Int32) < I 42 25) (t := 14) (f := 42) (rest := []) rfl (fun h1 => absurd h1 (by rw [hr]; exact nI_nlt (by omega) (by omega))) (fun h1 => ?_)
    refine R_seg (φ := []) (pc' := 43) (L' := [.ref 42, .int (nI j)]) (st' := [.int 1]) (σ' := (mj_KS N, I, mj_PP c d r)) 1 rfl trivial ?_
    exact R_rb rfl rfl (Or.inr rfl) (mj_leaf (by simp only [s_X6_ar, Bool.false_eq_true, ↓reduceIte, Nat.reduceAdd, Nat.reduceMul, mj_tn0, mj_tn1, mj_tn2, mj_tn3]) (by simp only [s_X6_ar, Bool.false_eq_true, ↓reduceIte, Nat.reduceAdd, Nat.reduceMul, mj_tn0, mj_tn1, mj_tn2, mj_tn3]))
  | succ k ih =>
    intro j hk hlo hj
    have hjm : j < R := by omega
    have hin : mj_in (nI j) 8 := mj_in_nI (by omega) (by omega)
    have hin3 := hq2 j hjm
    refine R_seg (φ := []) (pc' := 11) (L' := [.ref 42, .int (nI j)]) (st' := [.int (I 42 25), .int (nI j)]) (σ' := (mj_KS N, I, mj_PP c d r)) 3 rfl trivial ?_
    refine R_br (q := (nI j : Int32) < I 42 25) (t := 14) (f := 42) (rest := []) rfl (fun h1 => ?_) (fun h1 => absurd (by rw [hr]; exact nI_lt hjm (by omega)) h1)
    refine R_seg (φ := [mj_in (nI j) 8, mj_in (I 59 (nI j)) 3, mj_in (nI j) 8]) (pc' := 31) (L' := [.ref 42, .int (nI j)]) (st' := [.int (I 60 (nI j)), .int (I 56 (I 59 (nI j)))]) (σ' := (mj_KS N, I, mj_PP c d r)) 11 rfl ⟨hin, hin3, hin, trivial⟩ ?_
    refine R_br (q := (I 56 (I 59 (nI j)) : Int32) = I 60 (nI j)) (t := 36) (f := 34) (rest := []) rfl (fun h2 => ?_) (fun h2 => ?_)
    · skip
      refine R_seg (φ := []) (pc' := 6) (L' := [.ref 42, .int ((nI j) + 1)]) (st' := []) (σ' := (mj_KS N, I, mj_PP c d r)) 2 rfl trivial ?_
      rw [nI_1 j]
      rw [show s_X6_ar R I (k + 1) j  = s_X6_ar R I k (j + 1)  from by simp only [s_X6_ar, if_pos h2, Bool.false_eq_true, ↓reduceIte, Nat.reduceAdd, Nat.reduceMul, mj_tn0, mj_tn1, mj_tn2, mj_tn3]]
      exact ih (j + 1)  (by omega) (by omega) (by omega)
    · skip
      refine R_seg (φ := []) (pc' := 35) (L' := [.ref 42, .int (nI j)]) (st' := [.int 0]) (σ' := (mj_KS N, I, mj_PP c d r)) 1 rfl trivial ?_
      exact R_rb rfl rfl (Or.inl rfl) (mj_leaf (by simp only [s_X6_ar, if_neg h2, Bool.false_eq_true, ↓reduceIte, Nat.reduceAdd, Nat.reduceMul, mj_tn0, mj_tn1, mj_tn2, mj_tn3]) (by simp only [s_X6_ar, if_neg h2, Bool.false_eq_true, ↓reduceIte, Nat.reduceAdd, Nat.reduceMul, mj_tn0, mj_tn1, mj_tn2, mj_tn3]))
def s_X6_areSo (m : Nat) (p : Nat) (R : Nat) (I : mj_I) : Int32 × mj_I := (s_X6_ar R (s_X6_goRoute m p I) R 0 , (s_X6_goRoute m p I))
set_option maxHeartbeats 8000000 in
theorem x_X6_areSo (l : Launch) (b base : Nat) (D : va_G) (z : mj_K × (Int32 → Int32)) (N : Nat) (m : Nat) (p : Nat) (R : Nat) (I : mj_I) (c d r : Nat) (hJ : mj6_J m p R I) : mj_Rn l b base D z mj_m_X6_areSo 0 [.ref 42, mj_mk] [] (mj_KS N, I, mj_PP c d r) (mj_E N (some (.int (s_X6_areSo m p R I).1)) (s_X6_areSo m p R I).2 (mj_PP c d r)) := by
  refine R_seg (φ := []) (pc' := 1) (L' := [.ref 42, mj_mk]) (st' := [.ref 42]) (σ' := (mj_KS N, I, mj_PP c d r)) 1 rfl trivial ?_
  refine R_ce (idx := 168) (mid := 118) (kind := 0) (N := N) (M' := mj_m_X6_goRoute) (As := [.ref 42]) (rest := []) (I := I) (P := mj_PP c d r) (I' := (s_X6_goRoute m p I)) (P' := mj_PP c d r) (v := none) rfl rfl rfl mj_mc118 mj_dc118 rfl rfl rfl rfl rfl rfl (x_X6_goRoute l b base D z N m p  I c d r hJ.1) ?_
  refine R_seg (φ := []) (pc' := 6) (L' := [.ref 42, .int 0]) (st' := []) (σ' := (mj_KS N, (s_X6_goRoute m p I), mj_PP c d r)) 2 rfl trivial ?_
  exact x_X6_ar l b base D z N R (s_X6_goRoute m p I) c d r (mj6_J_gr hJ).2.1 (mj6_J_gr hJ).2.2.1 (mj6_J_gr hJ).2.2.2 R 0  (by omega) (by omega) (by omega)
theorem mj6_as_ne (m p R : Nat) (I : mj_I) (x : Nat) (h1 : x ≠ 55) (h2 : x ≠ 56) : (s_X6_areSo m p R I).2 x = I x := mj6_gr_ne m p I x h1 h2
theorem mj6_J_as {m p R : Nat} {I : mj_I} (h : mj6_J m p R I) : mj6_J m p R (s_X6_areSo m p R I).2 := mj6_J_gr h
def s_X6_route (p : Nat) (u : Int32) (a : Int32) (i : Int32) (n : Int32) (w : Int32) (I : mj_I) : Int32 × mj_I := if ((s_X6_isSheet u (mj_upI I 42 0 0)) : Int32) = 0 then ((-1), (mj_upI I 42 0 0)) else (if ((s_X6_isRow a n (mj_upI I 42 0 0)) : Int32) = 0 then ((-2), (mj_upI I 42 0 0)) else (if ((s_X6_within w 0 2 (mj_upI I 42 0 0)) : Int32) = 0 then (if ((s_X6_within w 10 12 (mj_upI I 42 0 0)) : Int32) = 0 then (if ((s_X6_within w 20 22 (mj_upI I 42 0 0)) : Int32) = 0 then ((-2), (mj_upI I 42 0 0)) else (if ((s_X6_layRoute u a i n.toNatClampNeg (mj_upI I 42 0 0)).1 : Int32) = 0 then (if (w : Int32) = 1 then ((s_X6_wrongDay n.toNatClampNeg p ((s_X6_layRoute u a i n.toNatClampNeg (mj_upI I 42 0 0)).2)), (s_X6_layRoute u a i n.toNatClampNeg (mj_upI I 42 0 0)).2) else (if ((s_X6_wrongDay n.toNatClampNeg p ((s_X6_layRoute u a i n.toNatClampNeg (mj_upI I 42 0 0)).2)) : Int32) = (-9) then ((s_X6_tellRoute w n.toNatClampNeg p ((s_X6_layRoute u a i n.toNatClampNeg (mj_upI I 42 0 0)).2)).1, (s_X6_tellRoute w n.toNatClampNeg p ((s_X6_layRoute u a i n.toNatClampNeg (mj_upI I 42 0 0)).2)).2) else ((-100) - (s_X6_wrongDay n.toNatClampNeg p ((s_X6_layRoute u a i n.toNatClampNeg (mj_upI I 42 0 0)).2)), (s_X6_layRoute u a i n.toNatClampNeg (mj_upI I 42 0 0)).2))) else ((s_X6_layRoute u a i n.toNatClampNeg (mj_upI I 42 0 0)).1, (s_X6_layRoute u a i n.toNatClampNeg (mj_upI I 42 0 0)).2))) else (if ((s_X6_layRoute u a i n.toNatClampNeg (mj_upI I 42 0 0)).1 : Int32) = 0 then (if (w : Int32) = 1 then ((s_X6_wrongDay n.toNatClampNeg p ((s_X6_layRoute u a i n.toNatClampNeg (mj_upI I 42 0 0)).2)), (s_X6_layRoute u a i n.toNatClampNeg (mj_upI I 42 0 0)).2) else (if ((s_X6_wrongDay n.toNatClampNeg p ((s_X6_layRoute u a i n.toNatClampNeg (mj_upI I 42 0 0)).2)) : Int32) = (-9) then ((s_X6_tellRoute w n.toNatClampNeg p ((s_X6_layRoute u a i n.toNatClampNeg (mj_upI I 42 0 0)).2)).1, (s_X6_tellRoute w n.toNatClampNeg p ((s_X6_layRoute u a i n.toNatClampNeg (mj_upI I 42 0 0)).2)).2) else ((-100) - (s_X6_wrongDay n.toNatClampNeg p ((s_X6_layRoute u a i n.toNatClampNeg (mj_upI I 42 0 0)).2)), (s_X6_layRoute u a i n.toNatClampNeg (mj_upI I 42 0 0)).2))) else ((s_X6_layRoute u a i n.toNatClampNeg (mj_upI I 42 0 0)).1, (s_X6_layRoute u a i n.toNatClampNeg (mj_upI I 42 0 0)).2))) else (if ((s_X6_layRoute u a i n.toNatClampNeg (mj_upI I 42 0 0)).1 : Int32) = 0 then (if (w : Int32) = 1 then ((s_X6_wrongDay n.toNatClampNeg p ((s_X6_layRoute u a i n.toNatClampNeg (mj_upI I 42 0 0)).2)), (s_X6_layRoute u a i n.toNatClampNeg (mj_upI I 42 0 0)).2) else (if ((s_X6_wrongDay n.toNatClampNeg p ((s_X6_layRoute u a i n.toNatClampNeg (mj_upI I 42 0 0)).2)) : Int32) = (-9) then ((s_X6_tellRoute w n.toNatClampNeg p ((s_X6_layRoute u a i n.toNatClampNeg (mj_upI I 42 0 0)).2)).1, (s_X6_tellRoute w n.toNatClampNeg p ((s_X6_layRoute u a i n.toNatClampNeg (mj_upI I 42 0 0)).2)).2) else ((-100) - (s_X6_wrongDay n.toNatClampNeg p ((s_X6_layRoute u a i n.toNatClampNeg (mj_upI I 42 0 0)).2)), (s_X6_layRoute u a i n.toNatClampNeg (mj_upI I 42 0 0)).2))) else ((s_X6_layRoute u a i n.toNatClampNeg (mj_upI I 42 0 0)).1, (s_X6_layRoute u a i n.toNatClampNeg (mj_upI I 42 0 0)).2))))
set_option maxHeartbeats 8000000 in
theorem x_X6_route (l : Launch) (b base : Nat) (D : va_G) (z : mj_K × (Int32 → Int32)) (N : Nat) (p : Nat) (u : Int32) (a : Int32) (i : Int32) (n : Int32) (w : Int32) (I : mj_I) (c d r : Nat) (hS : (I 42 5).toInt ≤ 6) (hp : I 42 6 = nI p) (hp3 : p ≤ 3) (hL : ∀ k, mj_in k 4 → 0 ≤ (I 44 k).toInt ∧ (I 44 k).toInt ≤ 60) : mj_Rn l b base D z mj_m_X6_route 0 [.ref 42, .int u, .int a, .int i, .int n, .int w, mj_mk, mj_mk] [] (mj_KS N, I, mj_PP c d r) (mj_E N (some (.int (s_X6_route p u a i n w I).1)) (s_X6_route p u a i n w I).2 (mj_PP c d r)) := by
  refine R_seg (φ := []) (pc' := 6) (L' := [.ref 42, .int u, .int a, .int i, .int n, .int w, mj_mk, mj_mk]) (st' := [.int u]) (σ' := (mj_KS N, (mj_upI I 42 0 0), mj_PP c d r)) 4 rfl trivial ?_
  refine R_ce (idx := 89) (mid := 96) (kind := 1) (N := N) (M' := mj_m_X6_isSheet) (As := [.int u]) (rest := []) (I := (mj_upI I 42 0 0)) (P := mj_PP c d r) (I' := (mj_upI I 42 0 0)) (P' := mj_PP c d r) (v := some (.int (s_X6_isSheet u (mj_upI I 42 0 0)))) rfl rfl rfl mj_mc96 mj_dc96 rfl rfl rfl rfl rfl rfl (x_X6_isSheet l b base D z N u (mj_upI I 42 0 0) c d r) ?_
  refine R_seg (φ := []) (pc' := 9) (L' := [.ref 42, .int u, .int a, .int i, .int n, .int w, mj_mk, mj_mk]) (st' := [.int (s_X6_isSheet u (mj_upI I 42 0 0))]) (σ' := (mj_KS N, (mj_upI I 42 0 0), mj_PP c d r)) 0 rfl trivial ?_
  refine R_br (q := ((s_X6_isSheet u (mj_upI I 42 0 0)) : Int32) = 0) (t := 12) (f := 14) (rest := []) rfl (fun h1 => ?_) (fun h1 => ?_)
  · skip
    refine R_seg (φ := []) (pc' := 13) (L' := [.ref 42, .int u, .int a, .int i, .int n, .int w, mj_mk, mj_mk]) (st' := [.int (-1)]) (σ' := (mj_KS N, (mj_upI I 42 0 0), mj_PP c d r)) 1 rfl trivial ?_
    exact R_ri rfl rfl (mj_leaf (by simp only [s_X6_route, if_pos h1, Bool.false_eq_true, ↓reduceIte, Nat.reduceAdd, Nat.reduceMul, mj_tn0, mj_tn1, mj_tn2, mj_tn3]) (by simp only [s_X6_route, if_pos h1, Bool.false_eq_true, ↓reduceIte, Nat.reduceAdd, Nat.reduceMul, mj_tn0, mj_tn1, mj_tn2, mj_tn3]))
  · skip
    refine R_seg (φ := []) (pc' := 17) (L' := [.ref 42, .int u, .int a, .int i, .int n, .int w, mj_mk, mj_mk]) (st' := [.int n, .int a]) (σ' := (mj_KS N, (mj_upI I 42 0 0), mj_PP c d r)) 2 rfl trivial ?_
    refine R_ce (idx := 155) (mid := 116) (kind := 1) (N := N) (M' := mj_m_X6_isRow) (As := [.int a, .int n]) (rest := []) (I := (mj_upI I 42 0 0)) (P := mj_PP c d r) (I' := (mj_upI I 42 0 0)) (P' := mj_PP c d r) (v := some (.int (s_X6_isRow a n (mj_upI I 42 0 0)))) rfl rfl rfl mj_mc116 mj_dc116 rfl rfl rfl rfl rfl rfl (x_X6_isRow l b base D z N a n (mj_upI I 42 0 0) c d r) ?_
    refine R_seg (φ := []) (pc' := 20) (L' := [.ref 42, .int u, .int a, .int i, .int n, .int w, mj_mk, mj_mk]) (st' := [.int (s_X6_isRow a n (mj_upI I 42 0 0))]) (σ' := (mj_KS N, (mj_upI I 42 0 0), mj_PP c d r)) 0 rfl trivial ?_
    refine R_br (q := ((s_X6_isRow a n (mj_upI I 42 0 0)) : Int32) = 0) (t := 57) (f := 23) (rest := []) rfl (fun h2 => ?_) (fun h2 => ?_)
    · skip
      refine R_seg (φ := []) (pc' := 59) (L' := [.ref 42, .int u, .int a, .int i, .int n, .int w, mj_mk, mj_mk]) (st' := [.int (-2)]) (σ' := (mj_KS N, (mj_upI I 42 0 0), mj_PP c d r)) 1 rfl trivial ?_
      exact R_ri rfl rfl (mj_leaf (by simp only [s_X6_route, if_neg h1, if_pos h2, Bool.false_eq_true, ↓reduceIte, Nat.reduceAdd, Nat.reduceMul, mj_tn0, mj_tn1, mj_tn2, mj_tn3]) (by simp only [s_X6_route, if_neg h1, if_pos h2, Bool.false_eq_true, ↓reduceIte, Nat.reduceAdd, Nat.reduceMul, mj_tn0, mj_tn1, mj_tn2, mj_tn3]))
    · skip
      refine R_seg (φ := []) (pc' := 27) (L' := [.ref 42, .int u, .int a, .int i, .int n, .int w, mj_mk, mj_mk]) (st' := [.int 2, .int 0, .int w]) (σ' := (mj_KS N, (mj_upI I 42 0 0), mj_PP c d r)) 3 rfl trivial ?_
      refine R_ce (idx := 76) (mid := 95) (kind := 1) (N := N) (M' := mj_m_X6_within) (As := [.int w, .int 0, .int 2]) (rest := []) (I := (mj_upI I 42 0 0)) (P := mj_PP c d r) (I' := (mj_upI I 42 0 0)) (P' := mj_PP c d r) (v := some (.int (s_X6_within w 0 2 (mj_upI I 42 0 0)))) rfl rfl rfl mj_mc95 mj_dc95 rfl rfl rfl rfl rfl rfl (x_X6_within l b base D z N w 0 2 (mj_upI I 42 0 0) c d r) ?_
      refine R_seg (φ := []) (pc' := 30) (L' := [.ref 42, .int u, .int a, .int i, .int n, .int w, mj_mk, mj_mk]) (st' := [.int (s_X6_within w 0 2 (mj_upI I 42 0 0))]) (σ' := (mj_KS N, (mj_upI I 42 0 0), mj_PP c d r)) 0 rfl trivial ?_
      refine R_br (q := ((s_X6_within w 0 2 (mj_upI I 42 0 0)) : Int32) = 0) (t := 33) (f := 60) (rest := []) rfl (fun h3 => ?_) (fun h3 => ?_)
      · skip
        refine R_seg (φ := []) (pc' := 39) (L' := [.ref 42, .int u, .int a, .int i, .int n, .int w, mj_mk, mj_mk]) (st' := [.int 12, .int 10, .int w]) (σ' := (mj_KS N, (mj_upI I 42 0 0), mj_PP c d r)) 3 rfl trivial ?_
        refine R_ce (idx := 76) (mid := 95) (kind := 1) (N := N) (M' := mj_m_X6_within) (As := [.int w, .int 10, .int 12]) (rest := []) (I := (mj_upI I 42 0 0)) (P := mj_PP c d r) (I' := (mj_upI I 42 0 0)) (P' := mj_PP c d r) (v := some (.int (s_X6_within w 10 12 (mj_upI I 42 0 0)))) rfl rfl rfl mj_mc95 mj_dc95 rfl rfl rfl rfl rfl rfl (x_X6_within l b base D z N w 10 12 (mj_upI I 42 0 0) c d r) ?_
        refine R_seg (φ := []) (pc' := 42) (L' := [.ref 42, .int u, .int a, .int i, .int n, .int w, mj_mk, mj_mk]) (st' := [.int (s_X6_within w 10 12 (mj_upI I 42 0 0))]) (σ' := (mj_KS N, (mj_upI I 42 0 0), mj_PP c d r)) 0 rfl trivial ?_
        refine R_br (q := ((s_X6_within w 10 12 (mj_upI I 42 0 0)) : Int32) = 0) (t := 45) (f := 60) (rest := []) rfl (fun h4 => ?_) (fun h4 => ?_)
        · skip
          refine R_seg (φ := []) (pc' := 51) (L' := [.ref 42, .int u, .int a, .int i, .int n, .int w, mj_mk, mj_mk]) (st' := [.int 22, .int 20, .int w]) (σ' := (mj_KS N, (mj_upI I 42 0 0), mj_PP c d r)) 3 rfl trivial ?_
          refine R_ce (idx := 76) (mid := 95) (kind := 1) (N := N) (M' := mj_m_X6_within) (As := [.int w, .int 20, .int 22]) (rest := []) (I := (mj_upI I 42 0 0)) (P := mj_PP c d r) (I' := (mj_upI I 42 0 0)) (P' := mj_PP c d r) (v := some (.int (s_X6_within w 20 22 (mj_upI I 42 0 0)))) rfl rfl rfl mj_mc95 mj_dc95 rfl rfl rfl rfl rfl rfl (x_X6_within l b base D z N w 20 22 (mj_upI I 42 0 0) c d r) ?_
          refine R_seg (φ := []) (pc' := 54) (L' := [.ref 42, .int u, .int a, .int i, .int n, .int w, mj_mk, mj_mk]) (st' := [.int (s_X6_within w 20 22 (mj_upI I 42 0 0))]) (σ' := (mj_KS N, (mj_upI I 42 0 0), mj_PP c d r)) 0 rfl trivial ?_
          refine R_br (q := ((s_X6_within w 20 22 (mj_upI I 42 0 0)) : Int32) = 0) (t := 57) (f := 60) (rest := []) rfl (fun h5 => ?_) (fun h5 => ?_)
          · skip
            refine R_seg (φ := []) (pc' := 59) (L' := [.ref 42, .int u, .int a, .int i, .int n, .int w, mj_mk, mj_mk]) (st' := [.int (-2)]) (σ' := (mj_KS N, (mj_upI I 42 0 0), mj_PP c d r)) 1 rfl trivial ?_
            exact R_ri rfl rfl (mj_leaf (by simp only [s_X6_route, if_neg h1, if_neg h2, if_pos h3, if_pos h4, if_pos h5, Bool.false_eq_true, ↓reduceIte, Nat.reduceAdd, Nat.reduceMul, mj_tn0, mj_tn1, mj_tn2, mj_tn3]) (by simp only [s_X6_route, if_neg h1, if_neg h2, if_pos h3, if_pos h4, if_pos h5, Bool.false_eq_true, ↓reduceIte, Nat.reduceAdd, Nat.reduceMul, mj_tn0, mj_tn1, mj_tn2, mj_tn3]))
          · skip
            obtain ⟨m, hm, hn⟩ := mj6_rowm h2
            subst hn
            · skip
              refine R_seg (φ := []) (pc' := 66) (L' := [.ref 42, .int u, .int a, .int i, .int ((nI m)), .int w, mj_mk, mj_mk]) (st' := [.int ((nI m)), .int i, .int a, .int u, .ref 42]) (σ' := (mj_KS N, (mj_upI I 42 0 0), mj_PP c d r)) 5 rfl trivial ?_
              refine R_ce (idx := 158) (mid := 117) (kind := 0) (N := N) (M' := mj_m_X6_layRoute) (As := [.ref 42, .int u, .int a, .int i, .int ((nI m))]) (rest := []) (I := (mj_upI I 42 0 0)) (P := mj_PP c d r) (I' := (s_X6_layRoute u a i m (mj_upI I 42 0 0)).2) (P' := mj_PP c d r) (v := some (.int ((s_X6_layRoute u a i m (mj_upI I 42 0 0)).1))) rfl rfl rfl mj_mc117 mj_dc117 rfl rfl rfl rfl rfl rfl (x_X6_layRoute l b base D z N u a i m  (mj_upI I 42 0 0) c d r hm (fun k hk => by rw [mj_upI_ne (show (44 : Nat) ≠ 42 by decide)]; exact hL k hk) (mj6_sh h1)) ?_
              refine R_seg (φ := []) (pc' := 73) (L' := [.ref 42, .int u, .int a, .int i, .int ((nI m)), .int w, .int ((s_X6_layRoute u a i m (mj_upI I 42 0 0)).1), mj_mk]) (st' := [.int ((s_X6_layRoute u a i m (mj_upI I 42 0 0)).1)]) (σ' := (mj_KS N, (s_X6_layRoute u a i m (mj_upI I 42 0 0)).2, mj_PP c d r)) 2 rfl trivial ?_
              refine R_br (q := ((s_X6_layRoute u a i m (mj_upI I 42 0 0)).1 : Int32) = 0) (t := 79) (f := 76) (rest := []) rfl (fun h6 => ?_) (fun h6 => ?_)
              · skip
                refine R_seg (φ := []) (pc' := 80) (L' := [.ref 42, .int u, .int a, .int i, .int ((nI m)), .int w, .int ((s_X6_layRoute u a i m (mj_upI I 42 0 0)).1), mj_mk]) (st' := [.ref 42]) (σ' := (mj_KS N, (s_X6_layRoute u a i m (mj_upI I 42 0 0)).2, mj_PP c d r)) 1 rfl trivial ?_
                refine R_ce (idx := 161) (mid := 119) (kind := 0) (N := N) (M' := mj_m_X6_wrongDay) (As := [.ref 42]) (rest := []) (I := (s_X6_layRoute u a i m (mj_upI I 42 0 0)).2) (P := mj_PP c d r) (I' := (s_X6_layRoute u a i m (mj_upI I 42 0 0)).2) (P' := mj_PP c d r) (v := some (.int (s_X6_wrongDay m p ((s_X6_layRoute u a i m (mj_upI I 42 0 0)).2)))) rfl rfl rfl mj_mc119 mj_dc119 rfl rfl rfl rfl rfl rfl (x_X6_wrongDay l b base D z N m p  ((s_X6_layRoute u a i m (mj_upI I 42 0 0)).2) c d r (mj6_lay_G hm hS hp3 hp h6)) ?_
                refine R_seg (φ := []) (pc' := 88) (L' := [.ref 42, .int u, .int a, .int i, .int ((nI m)), .int w, .int ((s_X6_layRoute u a i m (mj_upI I 42 0 0)).1), .int (s_X6_wrongDay m p ((s_X6_layRoute u a i m (mj_upI I 42 0 0)).2))]) (st' := [.int 1, .int w]) (σ' := (mj_KS N, (s_X6_layRoute u a i m (mj_upI I 42 0 0)).2, mj_PP c d r)) 3 rfl trivial ?_
                refine R_br (q := (w : Int32) = 1) (t := 91) (f := 94) (rest := []) rfl (fun h7 => ?_) (fun h7 => ?_)
                · skip
                  refine R_seg (φ := []) (pc' := 93) (L' := [.ref 42, .int u, .int a, .int i, .int ((nI m)), .int w, .int ((s_X6_layRoute u a i m (mj_upI I 42 0 0)).1), .int (s_X6_wrongDay m p ((s_X6_layRoute u a i m (mj_upI I 42 0 0)).2))]) (st' := [.int (s_X6_wrongDay m p ((s_X6_layRoute u a i m (mj_upI I 42 0 0)).2))]) (σ' := (mj_KS N, (s_X6_layRoute u a i m (mj_upI I 42 0 0)).2, mj_PP c d r)) 1 rfl trivial ?_
                  exact R_ri rfl rfl (mj_leaf (by simp only [s_X6_route, mj_tnm (show m < 2147483648 by omega), if_neg h1, if_neg h2, if_pos h3, if_pos h4, if_neg h5, if_pos h6, if_pos h7, Bool.false_eq_true, ↓reduceIte, Nat.reduceAdd, Nat.reduceMul, mj_tn0, mj_tn1, mj_tn2, mj_tn3]) (by simp only [s_X6_route, mj_tnm (show m < 2147483648 by omega), if_neg h1, if_neg h2, if_pos h3, if_pos h4, if_neg h5, if_pos h6, if_pos h7, Bool.false_eq_true, ↓reduceIte, Nat.reduceAdd, Nat.reduceMul, mj_tn0, mj_tn1, mj_tn2, mj_tn3]))
                · skip
                  refine R_seg (φ := []) (pc' := 98) (L' := [.ref 42, .int u, .int a, .int i, .int ((nI m)), .int w, .int ((s_X6_layRoute u a i m (mj_upI I 42 0 0)).1), .int (s_X6_wrongDay m p ((s_X6_layRoute u a i m (mj_upI I 42 0 0)).2))]) (st' := [.int (-9), .int (s_X6_wrongDay m p ((s_X6_layRoute u a i m (mj_upI I 42 0 0)).2))]) (σ' := (mj_KS N, (s_X6_layRoute u a i m (mj_upI I 42 0 0)).2, mj_PP c d r)) 2 rfl trivial ?_
                  refine R_br (q := ((s_X6_wrongDay m p ((s_X6_layRoute u a i m (mj_upI I 42 0 0)).2)) : Int32) = (-9)) (t := 101) (f := 110) (rest := []) rfl (fun h8 => ?_) (fun h8 => ?_)
                  · skip
                    refine R_seg (φ := []) (pc' := 104) (L' := [.ref 42, .int u, .int a, .int i, .int ((nI m)), .int w, .int ((s_X6_layRoute u a i m (mj_upI I 42 0 0)).1), .int (s_X6_wrongDay m p ((s_X6_layRoute u a i m (mj_upI I 42 0 0)).2))]) (st' := [.int w, .ref 42]) (σ' := (mj_KS N, (s_X6_layRoute u a i m (mj_upI I 42 0 0)).2, mj_PP c d r)) 2 rfl trivial ?_
                    refine R_ce (idx := 165) (mid := 121) (kind := 0) (N := N) (M' := mj_m_X6_tellRoute) (As := [.ref 42, .int w]) (rest := []) (I := (s_X6_layRoute u a i m (mj_upI I 42 0 0)).2) (P := mj_PP c d r) (I' := (s_X6_tellRoute w m p ((s_X6_layRoute u a i m (mj_upI I 42 0 0)).2)).2) (P' := mj_PP c d r) (v := some (.int ((s_X6_tellRoute w m p ((s_X6_layRoute u a i m (mj_upI I 42 0 0)).2)).1))) rfl rfl rfl mj_mc121 mj_dc121 rfl rfl rfl rfl rfl rfl (x_X6_tellRoute l b base D z N w m p  ((s_X6_layRoute u a i m (mj_upI I 42 0 0)).2) c d r (mj6_lay_G hm hS hp3 hp h6)) ?_
                    refine R_seg (φ := []) (pc' := 115) (L' := [.ref 42, .int u, .int a, .int i, .int ((nI m)), .int w, .int ((s_X6_layRoute u a i m (mj_upI I 42 0 0)).1), .int (s_X6_wrongDay m p ((s_X6_layRoute u a i m (mj_upI I 42 0 0)).2))]) (st' := [.int ((s_X6_tellRoute w m p ((s_X6_layRoute u a i m (mj_upI I 42 0 0)).2)).1)]) (σ' := (mj_KS N, (s_X6_tellRoute w m p ((s_X6_layRoute u a i m (mj_upI I 42 0 0)).2)).2, mj_PP c d r)) 1 rfl trivial ?_
                    exact R_ri rfl rfl (mj_leaf (by simp only [s_X6_route, mj_tnm (show m < 2147483648 by omega), if_neg h1, if_neg h2, if_pos h3, if_pos h4, if_neg h5, if_pos h6, if_neg h7, if_pos h8, Bool.false_eq_true, ↓reduceIte, Nat.reduceAdd, Nat.reduceMul, mj_tn0, mj_tn1, mj_tn2, mj_tn3]) (by simp only [s_X6_route, mj_tnm (show m < 2147483648 by omega), if_neg h1, if_neg h2, if_pos h3, if_pos h4, if_neg h5, if_pos h6, if_neg h7, if_pos h8, Bool.false_eq_true, ↓reduceIte, Nat.reduceAdd, Nat.reduceMul, mj_tn0, mj_tn1, mj_tn2, mj_tn3]))
                  · skip
                    refine R_seg (φ := []) (pc' := 115) (L' := [.ref 42, .int u, .int a, .int i, .int ((nI m)), .int w, .int ((s_X6_layRoute u a i m (mj_upI I 42 0 0)).1), .int (s_X6_wrongDay m p ((s_X6_layRoute u a i m (mj_upI I 42 0 0)).2))]) (st' := [.int ((-100) - (s_X6_wrongDay m p ((s_X6_layRoute u a i m (mj_upI I 42 0 0)).2)))]) (σ' := (mj_KS N, (s_X6_layRoute u a i m (mj_upI I 42 0 0)).2, mj_PP c d r)) 3 rfl trivial ?_
                    exact R_ri rfl rfl (mj_leaf (by simp only [s_X6_route, mj_tnm (show m < 2147483648 by omega), if_neg h1, if_neg h2, if_pos h3, if_pos h4, if_neg h5, if_pos h6, if_neg h7, if_neg h8, Bool.false_eq_true, ↓reduceIte, Nat.reduceAdd, Nat.reduceMul, mj_tn0, mj_tn1, mj_tn2, mj_tn3]) (by simp only [s_X6_route, mj_tnm (show m < 2147483648 by omega), if_neg h1, if_neg h2, if_pos h3, if_pos h4, if_neg h5, if_pos h6, if_neg h7, if_neg h8, Bool.false_eq_true, ↓reduceIte, Nat.reduceAdd, Nat.reduceMul, mj_tn0, mj_tn1, mj_tn2, mj_tn3]))
              · skip
                refine R_seg (φ := []) (pc' := 78) (L' := [.ref 42, .int u, .int a, .int i, .int ((nI m)), .int w, .int ((s_X6_layRoute u a i m (mj_upI I 42 0 0)).1), mj_mk]) (st' := [.int ((s_X6_layRoute u a i m (mj_upI I 42 0 0)).1)]) (σ' := (mj_KS N, (s_X6_layRoute u a i m (mj_upI I 42 0 0)).2, mj_PP c d r)) 1 rfl trivial ?_
                exact R_ri rfl rfl (mj_leaf (by simp only [s_X6_route, mj_tnm (show m < 2147483648 by omega), if_neg h1, if_neg h2, if_pos h3, if_pos h4, if_neg h5, if_neg h6, Bool.false_eq_true, ↓reduceIte, Nat.reduceAdd, Nat.reduceMul, mj_tn0, mj_tn1, mj_tn2, mj_tn3]) (by simp only [s_X6_route, mj_tnm (show m < 2147483648 by omega), if_neg h1, if_neg h2, if_pos h3, if_pos h4, if_neg h5, if_neg h6, Bool.false_eq_true, ↓reduceIte, Nat.reduceAdd, Nat.reduceMul, mj_tn0, mj_tn1, mj_tn2, mj_tn3]))
        · skip
          obtain ⟨m, hm, hn⟩ := mj6_rowm h2
          subst hn
          · skip
            refine R_seg (φ := []) (pc' := 66) (L' := [.ref 42, .int u, .int a, .int i, .int ((nI m)), .int w, mj_mk, mj_mk]) (st' := [.int ((nI m)), .int i, .int a, .int u, .ref 42]) (σ' := (mj_KS N, (mj_upI I 42 0 0), mj_PP c d r)) 5 rfl trivial ?_
            refine R_ce (idx := 158) (mid := 117) (kind := 0) (N := N) (M' := mj_m_X6_layRoute) (As := [.ref 42, .int u, .int a, .int i, .int ((nI m))]) (rest := []) (I := (mj_upI I 42 0 0)) (P := mj_PP c d r) (I' := (s_X6_layRoute u a i m (mj_upI I 42 0 0)).2) (P' := mj_PP c d r) (v := some (.int ((s_X6_layRoute u a i m (mj_upI I 42 0 0)).1))) rfl rfl rfl mj_mc117 mj_dc117 rfl rfl rfl rfl rfl rfl (x_X6_layRoute l b base D z N u a i m  (mj_upI I 42 0 0) c d r hm (fun k hk => by rw [mj_upI_ne (show (44 : Nat) ≠ 42 by decide)]; exact hL k hk) (mj6_sh h1)) ?_
            refine R_seg (φ := []) (pc' := 73) (L' := [.ref 42, .int u, .int a, .int i, .int ((nI m)), .int w, .int ((s_X6_layRoute u a i m (mj_upI I 42 0 0)).1), mj_mk]) (st' := [.int ((s_X6_layRoute u a i m (mj_upI I 42 0 0)).1)]) (σ' := (mj_KS N, (s_X6_layRoute u a i m (mj_upI I 42 0 0)).2, mj_PP c d r)) 2 rfl trivial ?_
            refine R_br (q := ((s_X6_layRoute u a i m (mj_upI I 42 0 0)).1 : Int32) = 0) (t := 79) (f := 76) (rest := []) rfl (fun h9 => ?_) (fun h9 => ?_)
            · skip
              refine R_seg (φ := []) (pc' := 80) (L' := [.ref 42, .int u, .int a, .int i, .int ((nI m)), .int w, .int ((s_X6_layRoute u a i m (mj_upI I 42 0 0)).1), mj_mk]) (st' := [.ref 42]) (σ' := (mj_KS N, (s_X6_layRoute u a i m (mj_upI I 42 0 0)).2, mj_PP c d r)) 1 rfl trivial ?_
              refine R_ce (idx := 161) (mid := 119) (kind := 0) (N := N) (M' := mj_m_X6_wrongDay) (As := [.ref 42]) (rest := []) (I := (s_X6_layRoute u a i m (mj_upI I 42 0 0)).2) (P := mj_PP c d r) (I' := (s_X6_layRoute u a i m (mj_upI I 42 0 0)).2) (P' := mj_PP c d r) (v := some (.int (s_X6_wrongDay m p ((s_X6_layRoute u a i m (mj_upI I 42 0 0)).2)))) rfl rfl rfl mj_mc119 mj_dc119 rfl rfl rfl rfl rfl rfl (x_X6_wrongDay l b base D z N m p  ((s_X6_layRoute u a i m (mj_upI I 42 0 0)).2) c d r (mj6_lay_G hm hS hp3 hp h9)) ?_
              refine R_seg (φ := []) (pc' := 88) (L' := [.ref 42, .int u, .int a, .int i, .int ((nI m)), .int w, .int ((s_X6_layRoute u a i m (mj_upI I 42 0 0)).1), .int (s_X6_wrongDay m p ((s_X6_layRoute u a i m (mj_upI I 42 0 0)).2))]) (st' := [.int 1, .int w]) (σ' := (mj_KS N, (s_X6_layRoute u a i m (mj_upI I 42 0 0)).2, mj_PP c d r)) 3 rfl trivial ?_
              refine R_br (q := (w : Int32) = 1) (t := 91) (f := 94) (rest := []) rfl (fun h10 => ?_) (fun h10 => ?_)
              · skip
                refine R_seg (φ := []) (pc' := 93) (L' := [.ref 42, .int u, .int a, .int i, .int ((nI m)), .int w, .int ((s_X6_layRoute u a i m (mj_upI I 42 0 0)).1), .int (s_X6_wrongDay m p ((s_X6_layRoute u a i m (mj_upI I 42 0 0)).2))]) (st' := [.int (s_X6_wrongDay m p ((s_X6_layRoute u a i m (mj_upI I 42 0 0)).2))]) (σ' := (mj_KS N, (s_X6_layRoute u a i m (mj_upI I 42 0 0)).2, mj_PP c d r)) 1 rfl trivial ?_
                exact R_ri rfl rfl (mj_leaf (by simp only [s_X6_route, mj_tnm (show m < 2147483648 by omega), if_neg h1, if_neg h2, if_pos h3, if_neg h4, if_pos h9, if_pos h10, Bool.false_eq_true, ↓reduceIte, Nat.reduceAdd, Nat.reduceMul, mj_tn0, mj_tn1, mj_tn2, mj_tn3]) (by simp only [s_X6_route, mj_tnm (show m < 2147483648 by omega), if_neg h1, if_neg h2, if_pos h3, if_neg h4, if_pos h9, if_pos h10, Bool.false_eq_true, ↓reduceIte, Nat.reduceAdd, Nat.reduceMul, mj_tn0, mj_tn1, mj_tn2, mj_tn3]))
              · skip
                refine R_seg (φ := []) (pc' := 98) (L' := [.ref 42, .int u, .int a, .int i, .int ((nI m)), .int w, .int ((s_X6_layRoute u a i m (mj_upI I 42 0 0)).1), .int (s_X6_wrongDay m p ((s_X6_layRoute u a i m (mj_upI I 42 0 0)).2))]) (st' := [.int (-9), .int (s_X6_wrongDay m p ((s_X6_layRoute u a i m (mj_upI I 42 0 0)).2))]) (σ' := (mj_KS N, (s_X6_layRoute u a i m (mj_upI I 42 0 0)).2, mj_PP c d r)) 2 rfl trivial ?_
                refine R_br (q := ((s_X6_wrongDay m p ((s_X6_layRoute u a i m (mj_upI I 42 0 0)).2)) : Int32) = (-9)) (t := 101) (f := 110) (rest := []) rfl (fun h11 => ?_) (fun h11 => ?_)
                · skip
                  refine R_seg (φ := []) (pc' := 104) (L' := [.ref 42, .int u, .int a, .int i, .int ((nI m)), .int w, .int ((s_X6_layRoute u a i m (mj_upI I 42 0 0)).1), .int (s_X6_wrongDay m p ((s_X6_layRoute u a i m (mj_upI I 42 0 0)).2))]) (st' := [.int w, .ref 42]) (σ' := (mj_KS N, (s_X6_layRoute u a i m (mj_upI I 42 0 0)).2, mj_PP c d r)) 2 rfl trivial ?_
                  refine R_ce (idx := 165) (mid := 121) (kind := 0) (N := N) (M' := mj_m_X6_tellRoute) (As := [.ref 42, .int w]) (rest := []) (I := (s_X6_layRoute u a i m (mj_upI I 42 0 0)).2) (P := mj_PP c d r) (I' := (s_X6_tellRoute w m p ((s_X6_layRoute u a i m (mj_upI I 42 0 0)).2)).2) (P' := mj_PP c d r) (v := some (.int ((s_X6_tellRoute w m p ((s_X6_layRoute u a i m (mj_upI I 42 0 0)).2)).1))) rfl rfl rfl mj_mc121 mj_dc121 rfl rfl rfl rfl rfl rfl (x_X6_tellRoute l b base D z N w m p  ((s_X6_layRoute u a i m (mj_upI I 42 0 0)).2) c d r (mj6_lay_G hm hS hp3 hp h9)) ?_
                  refine R_seg (φ := []) (pc' := 115) (L' := [.ref 42, .int u, .int a, .int i, .int ((nI m)), .int w, .int ((s_X6_layRoute u a i m (mj_upI I 42 0 0)).1), .int (s_X6_wrongDay m p ((s_X6_layRoute u a i m (mj_upI I 42 0 0)).2))]) (st' := [.int ((s_X6_tellRoute w m p ((s_X6_layRoute u a i m (mj_upI I 42 0 0)).2)).1)]) (σ' := (mj_KS N, (s_X6_tellRoute w m p ((s_X6_layRoute u a i m (mj_upI I 42 0 0)).2)).2, mj_PP c d r)) 1 rfl trivial ?_
                  exact R_ri rfl rfl (mj_leaf (by simp only [s_X6_route, mj_tnm (show m < 2147483648 by omega), if_neg h1, if_neg h2, if_pos h3, if_neg h4, if_pos h9, if_neg h10, if_pos h11, Bool.false_eq_true, ↓reduceIte, Nat.reduceAdd, Nat.reduceMul, mj_tn0, mj_tn1, mj_tn2, mj_tn3]) (by simp only [s_X6_route, mj_tnm (show m < 2147483648 by omega), if_neg h1, if_neg h2, if_pos h3, if_neg h4, if_pos h9, if_neg h10, if_pos h11, Bool.false_eq_true, ↓reduceIte, Nat.reduceAdd, Nat.reduceMul, mj_tn0, mj_tn1, mj_tn2, mj_tn3]))
                · skip
                  refine R_seg (φ := []) (pc' := 115) (L' := [.ref 42, .int u, .int a, .int i, .int ((nI m)), .int w, .int ((s_X6_layRoute u a i m (mj_upI I 42 0 0)).1), .int (s_X6_wrongDay m p ((s_X6_layRoute u a i m (mj_upI I 42 0 0)).2))]) (st' := [.int ((-100) - (s_X6_wrongDay m p ((s_X6_layRoute u a i m (mj_upI I 42 0 0)).2)))]) (σ' := (mj_KS N, (s_X6_layRoute u a i m (mj_upI I 42 0 0)).2, mj_PP c d r)) 3 rfl trivial ?_
                  exact R_ri rfl rfl (mj_leaf (by simp only [s_X6_route, mj_tnm (show m < 2147483648 by omega), if_neg h1, if_neg h2, if_pos h3, if_neg h4, if_pos h9, if_neg h10, if_neg h11, Bool.false_eq_true, ↓reduceIte, Nat.reduceAdd, Nat.reduceMul, mj_tn0, mj_tn1, mj_tn2, mj_tn3]) (by simp only [s_X6_route, mj_tnm (show m < 2147483648 by omega), if_neg h1, if_neg h2, if_pos h3, if_neg h4, if_pos h9, if_neg h10, if_neg h11, Bool.false_eq_true, ↓reduceIte, Nat.reduceAdd, Nat.reduceMul, mj_tn0, mj_tn1, mj_tn2, mj_tn3]))
            · skip
              refine R_seg (φ := []) (pc' := 78) (L' := [.ref 42, .int u, .int a, .int i, .int ((nI m)), .int w, .int ((s_X6_layRoute u a i m (mj_upI I 42 0 0)).1), mj_mk]) (st' := [.int ((s_X6_layRoute u a i m (mj_upI I 42 0 0)).1)]) (σ' := (mj_KS N, (s_X6_layRoute u a i m (mj_upI I 42 0 0)).2, mj_PP c d r)) 1 rfl trivial ?_
              exact R_ri rfl rfl (mj_leaf (by simp only [s_X6_route, mj_tnm (show m < 2147483648 by omega), if_neg h1, if_neg h2, if_pos h3, if_neg h4, if_neg h9, Bool.false_eq_true, ↓reduceIte, Nat.reduceAdd, Nat.reduceMul, mj_tn0, mj_tn1, mj_tn2, mj_tn3]) (by simp only [s_X6_route, mj_tnm (show m < 2147483648 by omega), if_neg h1, if_neg h2, if_pos h3, if_neg h4, if_neg h9, Bool.false_eq_true, ↓reduceIte, Nat.reduceAdd, Nat.reduceMul, mj_tn0, mj_tn1, mj_tn2, mj_tn3]))
      · skip
        obtain ⟨m, hm, hn⟩ := mj6_rowm h2
        subst hn
        · skip
          refine R_seg (φ := []) (pc' := 66) (L' := [.ref 42, .int u, .int a, .int i, .int ((nI m)), .int w, mj_mk, mj_mk]) (st' := [.int ((nI m)), .int i, .int a, .int u, .ref 42]) (σ' := (mj_KS N, (mj_upI I 42 0 0), mj_PP c d r)) 5 rfl trivial ?_
          refine R_ce (idx := 158) (mid := 117) (kind := 0) (N := N) (M' := mj_m_X6_layRoute) (As := [.ref 42, .int u, .int a, .int i, .int ((nI m))]) (rest := []) (I := (mj_upI I 42 0 0)) (P := mj_PP c d r) (I' := (s_X6_layRoute u a i m (mj_upI I 42 0 0)).2) (P' := mj_PP c d r) (v := some (.int ((s_X6_layRoute u a i m (mj_upI I 42 0 0)).1))) rfl rfl rfl mj_mc117 mj_dc117 rfl rfl rfl rfl rfl rfl (x_X6_layRoute l b base D z N u a i m  (mj_upI I 42 0 0) c d r hm (fun k hk => by rw [mj_upI_ne (show (44 : Nat) ≠ 42 by decide)]; exact hL k hk) (mj6_sh h1)) ?_
          refine R_seg (φ := []) (pc' := 73) (L' := [.ref 42, .int u, .int a, .int i, .int ((nI m)), .int w, .int ((s_X6_layRoute u a i m (mj_upI I 42 0 0)).1), mj_mk]) (st' := [.int ((s_X6_layRoute u a i m (mj_upI I 42 0 0)).1)]) (σ' := (mj_KS N, (s_X6_layRoute u a i m (mj_upI I 42 0 0)).2, mj_PP c d r)) 2 rfl trivial ?_
          refine R_br (q := ((s_X6_layRoute u a i m (mj_upI I 42 0 0)).1 : Int32) = 0) (t := 79) (f := 76) (rest := []) rfl (fun h12 => ?_) (fun h12 => ?_)
          · skip
            refine R_seg (φ := []) (pc' := 80) (L' := [.ref 42, .int u, .int a, .int i, .int ((nI m)), .int w, .int ((s_X6_layRoute u a i m (mj_upI I 42 0 0)).1), mj_mk]) (st' := [.ref 42]) (σ' := (mj_KS N, (s_X6_layRoute u a i m (mj_upI I 42 0 0)).2, mj_PP c d r)) 1 rfl trivial ?_
            refine R_ce (idx := 161) (mid := 119) (kind := 0) (N := N) (M' := mj_m_X6_wrongDay) (As := [.ref 42]) (rest := []) (I := (s_X6_layRoute u a i m (mj_upI I 42 0 0)).2) (P := mj_PP c d r) (I' := (s_X6_layRoute u a i m (mj_upI I 42 0 0)).2) (P' := mj_PP c d r) (v := some (.int (s_X6_wrongDay m p ((s_X6_layRoute u a i m (mj_upI I 42 0 0)).2)))) rfl rfl rfl mj_mc119 mj_dc119 rfl rfl rfl rfl rfl rfl (x_X6_wrongDay l b base D z N m p  ((s_X6_layRoute u a i m (mj_upI I 42 0 0)).2) c d r (mj6_lay_G hm hS hp3 hp h12)) ?_
            refine R_seg (φ := []) (pc' := 88) (L' := [.ref 42, .int u, .int a, .int i, .int ((nI m)), .int w, .int ((s_X6_layRoute u a i m (mj_upI I 42 0 0)).1), .int (s_X6_wrongDay m p ((s_X6_layRoute u a i m (mj_upI I 42 0 0)).2))]) (st' := [.int 1, .int w]) (σ' := (mj_KS N, (s_X6_layRoute u a i m (mj_upI I 42 0 0)).2, mj_PP c d r)) 3 rfl trivial ?_
            refine R_br (q := (w : Int32) = 1) (t := 91) (f := 94) (rest := []) rfl (fun h13 => ?_) (fun h13 => ?_)
            · skip
              refine R_seg (φ := []) (pc' := 93) (L' := [.ref 42, .int u, .int a, .int i, .int ((nI m)), .int w, .int ((s_X6_layRoute u a i m (mj_upI I 42 0 0)).1), .int (s_X6_wrongDay m p ((s_X6_layRoute u a i m (mj_upI I 42 0 0)).2))]) (st' := [.int (s_X6_wrongDay m p ((s_X6_layRoute u a i m (mj_upI I 42 0 0)).2))]) (σ' := (mj_KS N, (s_X6_layRoute u a i m (mj_upI I 42 0 0)).2, mj_PP c d r)) 1 rfl trivial ?_
              exact R_ri rfl rfl (mj_leaf (by simp only [s_X6_route, mj_tnm (show m < 2147483648 by omega), if_neg h1, if_neg h2, if_neg h3, if_pos h12, if_pos h13, Bool.false_eq_true, ↓reduceIte, Nat.reduceAdd, Nat.reduceMul, mj_tn0, mj_tn1, mj_tn2, mj_tn3]) (by simp only [s_X6_route, mj_tnm (show m < 2147483648 by omega), if_neg h1, if_neg h2, if_neg h3, if_pos h12, if_pos h13, Bool.false_eq_true, ↓reduceIte, Nat.reduceAdd, Nat.reduceMul, mj_tn0, mj_tn1, mj_tn2, mj_tn3]))
            · skip
              refine R_seg (φ := []) (pc' := 98) (L' := [.ref 42, .int u, .int a, .int i, .int ((nI m)), .int w, .int ((s_X6_layRoute u a i m (mj_upI I 42 0 0)).1), .int (s_X6_wrongDay m p ((s_X6_layRoute u a i m (mj_upI I 42 0 0)).2))]) (st' := [.int (-9), .int (s_X6_wrongDay m p ((s_X6_layRoute u a i m (mj_upI I 42 0 0)).2))]) (σ' := (mj_KS N, (s_X6_layRoute u a i m (mj_upI I 42 0 0)).2, mj_PP c d r)) 2 rfl trivial ?_
              refine R_br (q := ((s_X6_wrongDay m p ((s_X6_layRoute u a i m (mj_upI I 42 0 0)).2)) : Int32) = (-9)) (t := 101) (f := 110) (rest := []) rfl (fun h14 => ?_) (fun h14 => ?_)
              · skip
                refine R_seg (φ := []) (pc' := 104) (L' := [.ref 42, .int u, .int a, .int i, .int ((nI m)), .int w, .int ((s_X6_layRoute u a i m (mj_upI I 42 0 0)).1), .int (s_X6_wrongDay m p ((s_X6_layRoute u a i m (mj_upI I 42 0 0)).2))]) (st' := [.int w, .ref 42]) (σ' := (mj_KS N, (s_X6_layRoute u a i m (mj_upI I 42 0 0)).2, mj_PP c d r)) 2 rfl trivial ?_
                refine R_ce (idx := 165) (mid := 121) (kind := 0) (N := N) (M' := mj_m_X6_tellRoute) (As := [.ref 42, .int w]) (rest := []) (I := (s_X6_layRoute u a i m (mj_upI I 42 0 0)).2) (P := mj_PP c d r) (I' := (s_X6_tellRoute w m p ((s_X6_layRoute u a i m (mj_upI I 42 0 0)).2)).2) (P' := mj_PP c d r) (v := some (.int ((s_X6_tellRoute w m p ((s_X6_layRoute u a i m (mj_upI I 42 0 0)).2)).1))) rfl rfl rfl mj_mc121 mj_dc121 rfl rfl rfl rfl rfl rfl (x_X6_tellRoute l b base D z N w m p  ((s_X6_layRoute u a i m (mj_upI I 42 0 0)).2) c d r (mj6_lay_G hm hS hp3 hp h12)) ?_
                refine R_seg (φ := []) (pc' := 115) (L' := [.ref 42, .int u, .int a, .int i, .int ((nI m)), .int w, .int ((s_X6_layRoute u a i m (mj_upI I 42 0 0)).1), .int (s_X6_wrongDay m p ((s_X6_layRoute u a i m (mj_upI I 42 0 0)).2))]) (st' := [.int ((s_X6_tellRoute w m p ((s_X6_layRoute u a i m (mj_upI I 42 0 0)).2)).1)]) (σ' := (mj_KS N, (s_X6_tellRoute w m p ((s_X6_layRoute u a i m (mj_upI I 42 0 0)).2)).2, mj_PP c d r)) 1 rfl trivial ?_
                exact R_ri rfl rfl (mj_leaf (by simp only [s_X6_route, mj_tnm (show m < 2147483648 by omega), if_neg h1, if_neg h2, if_neg h3, if_pos h12, if_neg h13, if_pos h14, Bool.false_eq_true, ↓reduceIte, Nat.reduceAdd, Nat.reduceMul, mj_tn0, mj_tn1, mj_tn2, mj_tn3]) (by simp only [s_X6_route, mj_tnm (show m < 2147483648 by omega), if_neg h1, if_neg h2, if_neg h3, if_pos h12, if_neg h13, if_pos h14, Bool.false_eq_true, ↓reduceIte, Nat.reduceAdd, Nat.reduceMul, mj_tn0, mj_tn1, mj_tn2, mj_tn3]))
              · skip
                refine R_seg (φ := []) (pc' := 115) (L' := [.ref 42, .int u, .int a, .int i, .int ((nI m)), .int w, .int ((s_X6_layRoute u a i m (mj_upI I 42 0 0)).1), .int (s_X6_wrongDay m p ((s_X6_layRoute u a i m (mj_upI I 42 0 0)).2))]) (st' := [.int ((-100) - (s_X6_wrongDay m p ((s_X6_layRoute u a i m (mj_upI I 42 0 0)).2)))]) (σ' := (mj_KS N, (s_X6_layRoute u a i m (mj_upI I 42 0 0)).2, mj_PP c d r)) 3 rfl trivial ?_
                exact R_ri rfl rfl (mj_leaf (by simp only [s_X6_route, mj_tnm (show m < 2147483648 by omega), if_neg h1, if_neg h2, if_neg h3, if_pos h12, if_neg h13, if_neg h14, Bool.false_eq_true, ↓reduceIte, Nat.reduceAdd, Nat.reduceMul, mj_tn0, mj_tn1, mj_tn2, mj_tn3]) (by simp only [s_X6_route, mj_tnm (show m < 2147483648 by omega), if_neg h1, if_neg h2, if_neg h3, if_pos h12, if_neg h13, if_neg h14, Bool.false_eq_true, ↓reduceIte, Nat.reduceAdd, Nat.reduceMul, mj_tn0, mj_tn1, mj_tn2, mj_tn3]))
          · skip
            refine R_seg (φ := []) (pc' := 78) (L' := [.ref 42, .int u, .int a, .int i, .int ((nI m)), .int w, .int ((s_X6_layRoute u a i m (mj_upI I 42 0 0)).1), mj_mk]) (st' := [.int ((s_X6_layRoute u a i m (mj_upI I 42 0 0)).1)]) (σ' := (mj_KS N, (s_X6_layRoute u a i m (mj_upI I 42 0 0)).2, mj_PP c d r)) 1 rfl trivial ?_
            exact R_ri rfl rfl (mj_leaf (by simp only [s_X6_route, mj_tnm (show m < 2147483648 by omega), if_neg h1, if_neg h2, if_neg h3, if_neg h12, Bool.false_eq_true, ↓reduceIte, Nat.reduceAdd, Nat.reduceMul, mj_tn0, mj_tn1, mj_tn2, mj_tn3]) (by simp only [s_X6_route, mj_tnm (show m < 2147483648 by omega), if_neg h1, if_neg h2, if_neg h3, if_neg h12, Bool.false_eq_true, ↓reduceIte, Nat.reduceAdd, Nat.reduceMul, mj_tn0, mj_tn1, mj_tn2, mj_tn3]))
def s_X6_lay (e : Int32) (f : Int32) (u : Int32) (a : Int32) (i : Int32) (n : Int32) (I : mj_I) : Int32 × mj_I := if (e : Int32) = 0 then ((-1), (mj_upI I 42 0 0)) else (if ((s_X6_isSheet u (mj_upI I 42 0 0)) : Int32) = 0 then ((-1), (mj_upI I 42 0 0)) else (if (f : Int32) = 0 then ((-2), (mj_upI I 42 0 0)) else (if ((s_X6_isRow a n (mj_upI I 42 0 0)) : Int32) = 0 then ((-2), (mj_upI I 42 0 0)) else ((s_X6_layRoute u a i n.toNatClampNeg (mj_upI I 42 0 0)).1, (s_X6_layRoute u a i n.toNatClampNeg (mj_upI I 42 0 0)).2))))
set_option maxHeartbeats 8000000 in
theorem x_X6_lay (l : Launch) (b base : Nat) (D : va_G) (z : mj_K × (Int32 → Int32)) (N : Nat) (e : Int32) (f : Int32) (u : Int32) (a : Int32) (i : Int32) (n : Int32) (I : mj_I) (c d r : Nat) (hL : ∀ k, mj_in k 4 → 0 ≤ (I 44 k).toInt ∧ (I 44 k).toInt ≤ 60) : mj_Rn l b base D z mj_m_X6_lay 0 [.ref 42, .int e, .int f, .int u, .int a, .int i, .int n] [] (mj_KS N, I, mj_PP c d r) (mj_E N (some (.int (s_X6_lay e f u a i n I).1)) (s_X6_lay e f u a i n I).2 (mj_PP c d r)) := by
  refine R_seg (φ := []) (pc' := 6) (L' := [.ref 42, .int e, .int f, .int u, .int a, .int i, .int n]) (st' := [.int e]) (σ' := (mj_KS N, (mj_upI I 42 0 0), mj_PP c d r)) 4 rfl trivial ?_
  refine R_br (q := (e : Int32) = 0) (t := 16) (f := 9) (rest := []) rfl (fun h1 => ?_) (fun h1 => ?_)
  · skip
    refine R_seg (φ := []) (pc' := 17) (L' := [.ref 42, .int e, .int f, .int u, .int a, .int i, .int n]) (st' := [.int (-1)]) (σ' := (mj_KS N, (mj_upI I 42 0 0), mj_PP c d r)) 1 rfl trivial ?_
    exact R_ri rfl rfl (mj_leaf (by simp only [s_X6_lay, if_pos h1, Bool.false_eq_true, ↓reduceIte, Nat.reduceAdd, Nat.reduceMul, mj_tn0, mj_tn1, mj_tn2, mj_tn3]) (by simp only [s_X6_lay, if_pos h1, Bool.false_eq_true, ↓reduceIte, Nat.reduceAdd, Nat.reduceMul, mj_tn0, mj_tn1, mj_tn2, mj_tn3]))
  · skip
    refine R_seg (φ := []) (pc' := 10) (L' := [.ref 42, .int e, .int f, .int u, .int a, .int i, .int n]) (st' := [.int u]) (σ' := (mj_KS N, (mj_upI I 42 0 0), mj_PP c d r)) 1 rfl trivial ?_
    refine R_ce (idx := 89) (mid := 96) (kind := 1) (N := N) (M' := mj_m_X6_isSheet) (As := [.int u]) (rest := []) (I := (mj_upI I 42 0 0)) (P := mj_PP c d r) (I' := (mj_upI I 42 0 0)) (P' := mj_PP c d r) (v := some (.int (s_X6_isSheet u (mj_upI I 42 0 0)))) rfl rfl rfl mj_mc96 mj_dc96 rfl rfl rfl rfl rfl rfl (x_X6_isSheet l b base D z N u (mj_upI I 42 0 0) c d r) ?_
    refine R_seg (φ := []) (pc' := 13) (L' := [.ref 42, .int e, .int f, .int u, .int a, .int i, .int n]) (st' := [.int (s_X6_isSheet u (mj_upI I 42 0 0))]) (σ' := (mj_KS N, (mj_upI I 42 0 0), mj_PP c d r)) 0 rfl trivial ?_
    refine R_br (q := ((s_X6_isSheet u (mj_upI I 42 0 0)) : Int32) = 0) (t := 16) (f := 18) (rest := []) rfl (fun h2 => ?_) (fun h2 => ?_)
    · skip
      refine R_seg (φ := []) (pc' := 17) (L' := [.ref 42, .int e, .int f, .int u, .int a, .int i, .int n]) (st' := [.int (-1)]) (σ' := (mj_KS N, (mj_upI I 42 0 0), mj_PP c d r)) 1 rfl trivial ?_
      exact R_ri rfl rfl (mj_leaf (by simp only [s_X6_lay, if_neg h1, if_pos h2, Bool.false_eq_true, ↓reduceIte, Nat.reduceAdd, Nat.reduceMul, mj_tn0, mj_tn1, mj_tn2, mj_tn3]) (by simp only [s_X6_lay, if_neg h1, if_pos h2, Bool.false_eq_true, ↓reduceIte, Nat.reduceAdd, Nat.reduceMul, mj_tn0, mj_tn1, mj_tn2, mj_tn3]))
    · skip
      refine R_seg (φ := []) (pc' := 19) (L' := [.ref 42, .int e, .int f, .int u, .int a, .int i, .int n]) (st' := [.int f]) (σ' := (mj_KS N, (mj_upI I 42 0 0), mj_PP c d r)) 1 rfl trivial ?_
      refine R_br (q := (f : Int32) = 0) (t := 46) (f := 22) (rest := []) rfl (fun h3 => ?_) (fun h3 => ?_)
      · skip
        refine R_seg (φ := []) (pc' := 48) (L' := [.ref 42, .int e, .int f, .int u, .int a, .int i, .int n]) (st' := [.int (-2)]) (σ' := (mj_KS N, (mj_upI I 42 0 0), mj_PP c d r)) 1 rfl trivial ?_
        exact R_ri rfl rfl (mj_leaf (by simp only [s_X6_lay, if_neg h1, if_neg h2, if_pos h3, Bool.false_eq_true, ↓reduceIte, Nat.reduceAdd, Nat.reduceMul, mj_tn0, mj_tn1, mj_tn2, mj_tn3]) (by simp only [s_X6_lay, if_neg h1, if_neg h2, if_pos h3, Bool.false_eq_true, ↓reduceIte, Nat.reduceAdd, Nat.reduceMul, mj_tn0, mj_tn1, mj_tn2, mj_tn3]))
      · skip
        refine R_seg (φ := []) (pc' := 26) (L' := [.ref 42, .int e, .int f, .int u, .int a, .int i, .int n]) (st' := [.int n, .int a]) (σ' := (mj_KS N, (mj_upI I 42 0 0), mj_PP c d r)) 2 rfl trivial ?_
        refine R_ce (idx := 155) (mid := 116) (kind := 1) (N := N) (M' := mj_m_X6_isRow) (As := [.int a, .int n]) (rest := []) (I := (mj_upI I 42 0 0)) (P := mj_PP c d r) (I' := (mj_upI I 42 0 0)) (P' := mj_PP c d r) (v := some (.int (s_X6_isRow a n (mj_upI I 42 0 0)))) rfl rfl rfl mj_mc116 mj_dc116 rfl rfl rfl rfl rfl rfl (x_X6_isRow l b base D z N a n (mj_upI I 42 0 0) c d r) ?_
        refine R_seg (φ := []) (pc' := 29) (L' := [.ref 42, .int e, .int f, .int u, .int a, .int i, .int n]) (st' := [.int (s_X6_isRow a n (mj_upI I 42 0 0))]) (σ' := (mj_KS N, (mj_upI I 42 0 0), mj_PP c d r)) 0 rfl trivial ?_
        refine R_br (q := ((s_X6_isRow a n (mj_upI I 42 0 0)) : Int32) = 0) (t := 46) (f := 32) (rest := []) rfl (fun h4 => ?_) (fun h4 => ?_)
        · skip
          refine R_seg (φ := []) (pc' := 48) (L' := [.ref 42, .int e, .int f, .int u, .int a, .int i, .int n]) (st' := [.int (-2)]) (σ' := (mj_KS N, (mj_upI I 42 0 0), mj_PP c d r)) 1 rfl trivial ?_
          exact R_ri rfl rfl (mj_leaf (by simp only [s_X6_lay, if_neg h1, if_neg h2, if_neg h3, if_pos h4, Bool.false_eq_true, ↓reduceIte, Nat.reduceAdd, Nat.reduceMul, mj_tn0, mj_tn1, mj_tn2, mj_tn3]) (by simp only [s_X6_lay, if_neg h1, if_neg h2, if_neg h3, if_pos h4, Bool.false_eq_true, ↓reduceIte, Nat.reduceAdd, Nat.reduceMul, mj_tn0, mj_tn1, mj_tn2, mj_tn3]))
        · skip
          obtain ⟨m, hm, hn⟩ := mj6_rowm h4
          subst hn
          · skip
            refine R_seg (φ := []) (pc' := 40) (L' := [.ref 42, .int e, .int f, .int u, .int a, .int i, .int ((nI m))]) (st' := [.int ((nI m)), .int i, .int a, .int u, .ref 42]) (σ' := (mj_KS N, (mj_upI I 42 0 0), mj_PP c d r)) 5 rfl trivial ?_
            refine R_ce (idx := 158) (mid := 117) (kind := 0) (N := N) (M' := mj_m_X6_layRoute) (As := [.ref 42, .int u, .int a, .int i, .int ((nI m))]) (rest := []) (I := (mj_upI I 42 0 0)) (P := mj_PP c d r) (I' := (s_X6_layRoute u a i m (mj_upI I 42 0 0)).2) (P' := mj_PP c d r) (v := some (.int ((s_X6_layRoute u a i m (mj_upI I 42 0 0)).1))) rfl rfl rfl mj_mc117 mj_dc117 rfl rfl rfl rfl rfl rfl (x_X6_layRoute l b base D z N u a i m  (mj_upI I 42 0 0) c d r hm (fun k hk => by rw [mj_upI_ne (show (44 : Nat) ≠ 42 by decide)]; exact hL k hk) (mj6_sh h2)) ?_
            refine R_seg (φ := []) (pc' := 48) (L' := [.ref 42, .int e, .int f, .int u, .int a, .int i, .int ((nI m))]) (st' := [.int ((s_X6_layRoute u a i m (mj_upI I 42 0 0)).1)]) (σ' := (mj_KS N, (s_X6_layRoute u a i m (mj_upI I 42 0 0)).2, mj_PP c d r)) 1 rfl trivial ?_
            exact R_ri rfl rfl (mj_leaf (by simp only [s_X6_lay, mj_tnm (show m < 2147483648 by omega), if_neg h1, if_neg h2, if_neg h3, if_neg h4, Bool.false_eq_true, ↓reduceIte, Nat.reduceAdd, Nat.reduceMul, mj_tn0, mj_tn1, mj_tn2, mj_tn3]) (by simp only [s_X6_lay, mj_tnm (show m < 2147483648 by omega), if_neg h1, if_neg h2, if_neg h3, if_neg h4, Bool.false_eq_true, ↓reduceIte, Nat.reduceAdd, Nat.reduceMul, mj_tn0, mj_tn1, mj_tn2, mj_tn3]))
theorem mj6_la_ne (e f u a i n : Int32) (I : mj_I) (x : Nat) (h1 : x ≠ 54) (h2 : x ≠ 42) : (s_X6_lay e f u a i n I).2 x = I x := by
  unfold s_X6_lay
  repeat' split
  all_goals first
    | exact mj_upI_ne h2
    | (show (s_X6_layRoute _ _ _ _ _).2 x = I x
       rw [mj6_ly_ne _ _ _ _ _ x h1 h2, mj_upI_ne h2])
theorem mj6_la_42 (e f u a i n : Int32) (I : mj_I) (y : Int32) (h1 : y ≠ 19) (h2 : y ≠ 0) : (s_X6_lay e f u a i n I).2 42 y = I 42 y := by
  unfold s_X6_lay
  repeat' split
  all_goals first
    | (show (s_X6_layRoute _ _ _ _ _).2 42 y = I 42 y
       rw [mj6_ly_42 _ _ _ _ _ y h1 h2, mj_upI_eq, if_neg h2])
    | (show mj_upI I 42 0 0 42 y = I 42 y
       rw [mj_upI_eq, if_neg h2])
def mj6_J0 (p R : Nat) (I : mj_I) : Prop := (I 42 5).toInt ≤ 6 ∧ p ≤ 3 ∧ I 42 6 = nI p ∧ I 42 25 = nI R ∧ R ≤ 8 ∧ ∀ j : Nat, j < R → mj_in (I 59 (nI j)) 3
theorem mj6_la_J {e f u a i n : Int32} {p R : Nat} {I : mj_I} (hJ : mj6_J0 p R I) (h : (s_X6_lay e f u a i n I).1 = 0) : ∃ m : Nat, m ≤ 24 ∧ n = nI m ∧ mj6_J m p R (s_X6_lay e f u a i n I).2 := by
  obtain ⟨b1, b2, b3, b4, b5, b6⟩ := hJ
  have key : ∃ m : Nat, m ≤ 24 ∧ n = nI m ∧ mj6_G0 m p (s_X6_lay e f u a i n I).2 := by
    revert h
    unfold s_X6_lay
    repeat' split
    all_goals intro h
    all_goals first
      | exact absurd (show (-1 : Int32) = 0 from h) (by decide)
      | exact absurd (show (-2 : Int32) = 0 from h) (by decide)
      | skip
    next h4 =>
      obtain ⟨m, hm, rfl⟩ := mj6_rowm h4
      refine ⟨m, hm, rfl, ?_⟩
      rw [mj_tnm (show m < 2147483648 by omega)] at h ⊢
      exact mj6_lay_G hm b1 b2 b3 h
  obtain ⟨m, hm, hn, hG⟩ := key
  exact ⟨m, hm, hn, hG, by rw [mj6_la_42 _ _ _ _ _ _ _ _ (by decide) (by decide)]; exact b4, b5, by rw [mj6_la_ne _ _ _ _ _ _ _ _ (by decide) (by decide)]; exact b6⟩
theorem mj6_st01 (s : Int32) (I : mj_I) : s_X6_isStreet s I = 0 ∨ s_X6_isStreet s I = 1 := by
  unfold s_X6_isStreet
  repeat' split
  all_goals first
    | exact Or.inl rfl
    | exact Or.inr rfl
theorem mj6_pl01 (s : Int32) (I : mj_I) : s_X6_isPlant s I = 0 ∨ s_X6_isPlant s I = 1 := by
  unfold s_X6_isPlant
  repeat' split
  all_goals first
    | exact Or.inl rfl
    | exact Or.inr rfl
theorem mj6_la_e {e f u a i n : Int32} {I : mj_I} (h : (s_X6_lay e f u a i n I).1 = 0) : ¬ e = 0 ∧ ¬ f = 0 := by
  revert h
  unfold s_X6_lay
  repeat' split
  all_goals intro h
  all_goals first
    | exact absurd (show (-1 : Int32) = 0 from h) (by decide)
    | exact absurd (show (-2 : Int32) = 0 from h) (by decide)
    | exact ⟨by assumption, by assumption⟩
theorem mj6_plJ {q : Int32} {p R : Nat} {I : mj_I} (h : ¬ s_X6_isPlant q I = 0) (hJ : mj6_J0 p R I) : mj_in q 3 := by
  have a := hJ.2.1
  exact mj6_pl h (by rw [hJ.2.2.1, nI_toInt (by omega)]; omega)
def s_X6_se (s : Int32) (u : Int32) (a : Int32) (i : Int32) (n : Int32) (f : Int32) (was : Int32) (m : Nat) (p : Nat) (R : Nat) : Nat → Nat → Int32 → mj_I → Int32 × mj_I
  | 0, j, g, I => (g, (mj_upI I 46 s was))
  | k + 1, j, g, I => if ((s_X6_areSo m p R (mj_upI I 46 s (nI j))).1 : Int32) = 0 then (s_X6_se s u a i n f was m p R k (j + 1) (g ||| 0) ((s_X6_areSo m p R (mj_upI I 46 s (nI j))).2)) else (s_X6_se s u a i n f was m p R k (j + 1) (g ||| (1 <<< ((nI j) &&& 31))) ((s_X6_areSo m p R (mj_upI I 46 s (nI j))).2))
set_option maxHeartbeats 8000000 in
theorem x_X6_se (l : Launch) (b base : Nat) (D : va_G) (z : mj_K × (Int32 → Int32)) (N : Nat) (s : Int32) (u : Int32) (a : Int32) (i : Int32) (n : Int32) (f : Int32) (was : Int32) (m : Nat) (p : Nat) (R : Nat) (c d r : Nat) (hq : mj_in s 6) : ∀ (k j : Nat) (g : Int32) (I : mj_I), k = 4 - j → 0 ≤ j → j ≤ 4 + 1 → (mj6_J m p R I) → mj_Rn l b base D z mj_m_X6_seasons 40 [.ref 42, .int s, .int u, .int a, .int i, .int n, .int f, .int was, .int g, .int (nI j)] [] (mj_KS N, I, mj_PP c d r) (mj_E N (some (.int (s_X6_se s u a i n f was m p R k j g I).1)) (s_X6_se s u a i n f was m p R k j g I).2 (mj_PP c d r)) := by
  intro k
  induction k with
  | zero =>
    intro j g I hk hlo hj hJ
    refine R_seg (φ := []) (pc' := 43) (L' := [.ref 42, .int s, .int u, .int a, .int i, .int n, .int f, .int was, .int g, .int (nI j)]) (st' := [.int 4, .int (nI j)]) (σ' := (mj_KS N, I, mj_PP c d r)) 2 rfl trivial ?_
    refine R_br (q := (nI j : Int32) < 4) (t := 46) (f := 80) (rest := []) rfl (fun h1 => absurd h1 (show ¬ nI j < nI 4 from nI_nlt (by omega) (by omega))) (fun h1 => ?_)
    refine R_seg (φ := [mj_in s 6]) (pc' := 90) (L' := [.ref 42, .int s, .int u, .int a, .int i, .int n, .int f, .int was, .int g, .int (nI j)]) (st' := [.int g]) (σ' := (mj_KS N, (mj_upI I 46 s was), mj_PP c d r)) 6 rfl ⟨hq, trivial⟩ ?_
    exact R_ri rfl rfl (mj_leaf (by simp only [s_X6_se, Bool.false_eq_true, ↓reduceIte, Nat.reduceAdd, Nat.reduceMul, mj_tn0, mj_tn1, mj_tn2, mj_tn3]) (by simp only [s_X6_se, Bool.false_eq_true, ↓reduceIte, Nat.reduceAdd, Nat.reduceMul, mj_tn0, mj_tn1, mj_tn2, mj_tn3]))
  | succ k ih =>
    intro j g I hk hlo hj hJ
    have hjm : j < 4 := by omega
    refine R_seg (φ := []) (pc' := 43) (L' := [.ref 42, .int s, .int u, .int a, .int i, .int n, .int f, .int was, .int g, .int (nI j)]) (st' := [.int 4, .int (nI j)]) (σ' := (mj_KS N, I, mj_PP c d r)) 2 rfl trivial ?_
    refine R_br (q := (nI j : Int32) < 4) (t := 46) (f := 80) (rest := []) rfl (fun h1 => ?_) (fun h1 => absurd (show nI j < nI 4 from nI_lt hjm (by omega)) h1)
    refine R_seg (φ := [mj_in s 6]) (pc' := 57) (L' := [.ref 42, .int s, .int u, .int a, .int i, .int n, .int f, .int was, .int g, .int (nI j)]) (st' := [.ref 42, .int g]) (σ' := (mj_KS N, (mj_upI I 46 s (nI j)), mj_PP c d r)) 7 rfl ⟨hq, trivial⟩ ?_
    refine R_ce (idx := 207) (mid := 136) (kind := 0) (N := N) (M' := mj_m_X6_areSo) (As := [.ref 42]) (rest := [.int g]) (I := (mj_upI I 46 s (nI j))) (P := mj_PP c d r) (I' := (s_X6_areSo m p R (mj_upI I 46 s (nI j))).2) (P' := mj_PP c d r) (v := some (.int ((s_X6_areSo m p R (mj_upI I 46 s (nI j))).1))) rfl rfl rfl mj_mc136 mj_dc136 rfl rfl rfl rfl rfl rfl (x_X6_areSo l b base D z N m p R  (mj_upI I 46 s (nI j)) c d r (mj6_J_up (by decide) (by decide) (by decide) hJ)) ?_
    refine R_seg (φ := []) (pc' := 60) (L' := [.ref 42, .int s, .int u, .int a, .int i, .int n, .int f, .int was, .int g, .int (nI j)]) (st' := [.int ((s_X6_areSo m p R (mj_upI I 46 s (nI j))).1), .int g]) (σ' := (mj_KS N, (s_X6_areSo m p R (mj_upI I 46 s (nI j))).2, mj_PP c d r)) 0 rfl trivial ?_
    refine R_br (q := ((s_X6_areSo m p R (mj_upI I 46 s (nI j))).1 : Int32) = 0) (t := 70) (f := 63) (rest := [.int g]) rfl (fun h2 => ?_) (fun h2 => ?_)
    · skip
      refine R_seg (φ := []) (pc' := 40) (L' := [.ref 42, .int s, .int u, .int a, .int i, .int n, .int f, .int was, .int (g ||| 0), .int ((nI j) + 1)]) (st' := []) (σ' := (mj_KS N, (s_X6_areSo m p R (mj_upI I 46 s (nI j))).2, mj_PP c d r)) 5 rfl trivial ?_
      rw [nI_1 j]
      rw [show s_X6_se s u a i n f was m p R (k + 1) j g I = s_X6_se s u a i n f was m p R k (j + 1) (g ||| 0) ((s_X6_areSo m p R (mj_upI I 46 s (nI j))).2) from by simp only [s_X6_se, if_pos h2, Bool.false_eq_true, ↓reduceIte, Nat.reduceAdd, Nat.reduceMul, mj_tn0, mj_tn1, mj_tn2, mj_tn3]]
      exact ih (j + 1) (g ||| 0) ((s_X6_areSo m p R (mj_upI I 46 s (nI j))).2) (by omega) (by omega) (by omega) (mj6_J_as (mj6_J_up (by decide) (by decide) (by decide) hJ))
    · skip
      refine R_seg (φ := []) (pc' := 40) (L' := [.ref 42, .int s, .int u, .int a, .int i, .int n, .int f, .int was, .int (g ||| (1 <<< ((nI j) &&& 31))), .int ((nI j) + 1)]) (st' := []) (σ' := (mj_KS N, (s_X6_areSo m p R (mj_upI I 46 s (nI j))).2, mj_PP c d r)) 8 rfl trivial ?_
      rw [nI_1 j]
      rw [show s_X6_se s u a i n f was m p R (k + 1) j g I = s_X6_se s u a i n f was m p R k (j + 1) (g ||| (1 <<< ((nI j) &&& 31))) ((s_X6_areSo m p R (mj_upI I 46 s (nI j))).2) from by simp only [s_X6_se, if_neg h2, Bool.false_eq_true, ↓reduceIte, Nat.reduceAdd, Nat.reduceMul, mj_tn0, mj_tn1, mj_tn2, mj_tn3]]
      exact ih (j + 1) (g ||| (1 <<< ((nI j) &&& 31))) ((s_X6_areSo m p R (mj_upI I 46 s (nI j))).2) (by omega) (by omega) (by omega) (mj6_J_as (mj6_J_up (by decide) (by decide) (by decide) hJ))
def s_X6_seasons (p : Nat) (R : Nat) (s : Int32) (u : Int32) (a : Int32) (i : Int32) (n : Int32) (I : mj_I) : Int32 × mj_I := if ((s_X6_lay (s_X6_isStreet s I) 1 u a i n I).1 : Int32) = 0 then ((s_X6_se s u a i (n) ((s_X6_lay (s_X6_isStreet s I) 1 u a i n I).1) (((s_X6_lay (s_X6_isStreet s I) 1 u a i n I).2) 46 s) n.toNatClampNeg p R 4 0 0 ((s_X6_lay (s_X6_isStreet s I) 1 u a i n I).2)).1, (s_X6_se s u a i (n) ((s_X6_lay (s_X6_isStreet s I) 1 u a i n I).1) (((s_X6_lay (s_X6_isStreet s I) 1 u a i n I).2) 46 s) n.toNatClampNeg p R 4 0 0 ((s_X6_lay (s_X6_isStreet s I) 1 u a i n I).2)).2) else ((s_X6_lay (s_X6_isStreet s I) 1 u a i n I).1, (s_X6_lay (s_X6_isStreet s I) 1 u a i n I).2)
set_option maxHeartbeats 8000000 in
theorem x_X6_seasons (l : Launch) (b base : Nat) (D : va_G) (z : mj_K × (Int32 → Int32)) (N : Nat) (p : Nat) (R : Nat) (s : Int32) (u : Int32) (a : Int32) (i : Int32) (n : Int32) (I : mj_I) (c d r : Nat) (hL : ∀ k, mj_in k 4 → 0 ≤ (I 44 k).toInt ∧ (I 44 k).toInt ≤ 60) (hJ : mj6_J0 p R I) : mj_Rn l b base D z mj_m_X6_seasons 0 [.ref 42, .int s, .int u, .int a, .int i, .int n, mj_mk, mj_mk, mj_mk, mj_mk] [] (mj_KS N, I, mj_PP c d r) (mj_E N (some (.int (s_X6_seasons p R s u a i n I).1)) (s_X6_seasons p R s u a i n I).2 (mj_PP c d r)) := by
  refine R_seg (φ := []) (pc' := 3) (L' := [.ref 42, .int s, .int u, .int a, .int i, .int n, mj_mk, mj_mk, mj_mk, mj_mk]) (st' := [.int s, .ref 42, .ref 42]) (σ' := (mj_KS N, I, mj_PP c d r)) 3 rfl trivial ?_
  refine R_ce (idx := 137) (mid := 99) (kind := 0) (N := N) (M' := mj_m_X6_isStreet) (As := [.ref 42, .int s]) (rest := [.ref 42]) (I := I) (P := mj_PP c d r) (I' := I) (P' := mj_PP c d r) (v := some (.int (s_X6_isStreet s I))) rfl rfl rfl mj_mc99 mj_dc99 rfl rfl rfl rfl rfl rfl (x_X6_isStreet l b base D z N s I c d r) ?_
  refine R_seg (φ := []) (pc' := 13) (L' := [.ref 42, .int s, .int u, .int a, .int i, .int n, mj_mk, mj_mk, mj_mk, mj_mk]) (st' := [.int n, .int i, .int a, .int u, .int 1, .int (s_X6_isStreet s I), .ref 42]) (σ' := (mj_KS N, I, mj_PP c d r)) 5 rfl trivial ?_
  refine R_ce (idx := 203) (mid := 137) (kind := 0) (N := N) (M' := mj_m_X6_lay) (As := [.ref 42, .int (s_X6_isStreet s I), .int 1, .int u, .int a, .int i, .int n]) (rest := []) (I := I) (P := mj_PP c d r) (I' := (s_X6_lay (s_X6_isStreet s I) 1 u a i n I).2) (P' := mj_PP c d r) (v := some (.int ((s_X6_lay (s_X6_isStreet s I) 1 u a i n I).1))) rfl rfl rfl mj_mc137 mj_dc137 rfl rfl rfl rfl rfl rfl (x_X6_lay l b base D z N (s_X6_isStreet s I) 1 u a i n  I c d r hL) ?_
  refine R_seg (φ := []) (pc' := 20) (L' := [.ref 42, .int s, .int u, .int a, .int i, .int n, .int ((s_X6_lay (s_X6_isStreet s I) 1 u a i n I).1), mj_mk, mj_mk, mj_mk]) (st' := [.int ((s_X6_lay (s_X6_isStreet s I) 1 u a i n I).1)]) (σ' := (mj_KS N, (s_X6_lay (s_X6_isStreet s I) 1 u a i n I).2, mj_PP c d r)) 2 rfl trivial ?_
  refine R_br (q := ((s_X6_lay (s_X6_isStreet s I) 1 u a i n I).1 : Int32) = 0) (t := 26) (f := 23) (rest := []) rfl (fun h1 => ?_) (fun h1 => ?_)
  · skip
    obtain ⟨m, hm, hn, hJm⟩ := mj6_la_J hJ h1
    subst hn
    · skip
      refine R_seg (φ := [mj_in s 6]) (pc' := 40) (L' := [.ref 42, .int s, .int u, .int a, .int i, .int ((nI m)), .int ((s_X6_lay (s_X6_isStreet s I) 1 u a i (nI m) I).1), .int (((s_X6_lay (s_X6_isStreet s I) 1 u a i (nI m) I).2) 46 s), .int 0, .int 0]) (st' := []) (σ' := (mj_KS N, (s_X6_lay (s_X6_isStreet s I) 1 u a i (nI m) I).2, mj_PP c d r)) 9 rfl ⟨(mj6_st (mj6_la_e h1).1 hJ.1), trivial⟩ ?_
      simp only [s_X6_seasons, mj_tnm (show m < 2147483648 by omega), if_pos h1, Bool.false_eq_true, ↓reduceIte, Nat.reduceAdd, Nat.reduceMul, mj_tn0, mj_tn1, mj_tn2, mj_tn3]
      exact x_X6_se l b base D z N s u a i ((nI m)) ((s_X6_lay (s_X6_isStreet s I) 1 u a i (nI m) I).1) (((s_X6_lay (s_X6_isStreet s I) 1 u a i (nI m) I).2) 46 s) m p R c d r (mj6_st (mj6_la_e h1).1 hJ.1) 4 0 0 ((s_X6_lay (s_X6_isStreet s I) 1 u a i (nI m) I).2) (by omega) (by omega) (by omega) hJm
  · skip
    refine R_seg (φ := []) (pc' := 25) (L' := [.ref 42, .int s, .int u, .int a, .int i, .int n, .int ((s_X6_lay (s_X6_isStreet s I) 1 u a i n I).1), mj_mk, mj_mk, mj_mk]) (st' := [.int ((s_X6_lay (s_X6_isStreet s I) 1 u a i n I).1)]) (σ' := (mj_KS N, (s_X6_lay (s_X6_isStreet s I) 1 u a i n I).2, mj_PP c d r)) 1 rfl trivial ?_
    exact R_ri rfl rfl (mj_leaf (by simp only [s_X6_seasons, if_neg h1, Bool.false_eq_true, ↓reduceIte, Nat.reduceAdd, Nat.reduceMul, mj_tn0, mj_tn1, mj_tn2, mj_tn3]) (by simp only [s_X6_seasons, if_neg h1, Bool.false_eq_true, ↓reduceIte, Nat.reduceAdd, Nat.reduceMul, mj_tn0, mj_tn1, mj_tn2, mj_tn3]))
def s_X6_ki (q : Int32) (u : Int32) (a : Int32) (i : Int32) (n : Int32) (f : Int32) (was : Int32) (m : Nat) (p : Nat) (R : Nat) : Nat → Nat → Int32 → mj_I → Int32 × mj_I
  | 0, j, g, I => (g, (mj_upI I 48 q was))
  | k + 1, j, g, I => if ((s_X6_areSo m p R (mj_upI I 48 q (nI j))).1 : Int32) = 0 then (s_X6_ki q u a i n f was m p R k (j + 1) (g ||| 0) ((s_X6_areSo m p R (mj_upI I 48 q (nI j))).2)) else (s_X6_ki q u a i n f was m p R k (j + 1) (g ||| (1 <<< ((nI j) &&& 31))) ((s_X6_areSo m p R (mj_upI I 48 q (nI j))).2))
set_option maxHeartbeats 8000000 in
theorem x_X6_ki (l : Launch) (b base : Nat) (D : va_G) (z : mj_K × (Int32 → Int32)) (N : Nat) (q : Int32) (u : Int32) (a : Int32) (i : Int32) (n : Int32) (f : Int32) (was : Int32) (m : Nat) (p : Nat) (R : Nat) (c d r : Nat) (hq : mj_in q 3) : ∀ (k j : Nat) (g : Int32) (I : mj_I), k = 3 - j → 0 ≤ j → j ≤ 3 + 1 → (mj6_J m p R I) → mj_Rn l b base D z mj_m_X6_kinds 40 [.ref 42, .int q, .int u, .int a, .int i, .int n, .int f, .int was, .int g, .int (nI j)] [] (mj_KS N, I, mj_PP c d r) (mj_E N (some (.int (s_X6_ki q u a i n f was m p R k j g I).1)) (s_X6_ki q u a i n f was m p R k j g I).2 (mj_PP c d r)) := by
  intro k
  induction k with
  | zero =>
    intro j g I hk hlo hj hJ
    refine R_seg (φ := []) (pc' := 43) (L' := [.ref 42, .int q, .int u, .int a, .int i, .int n, .int f, .int was, .int g, .int (nI j)]) (st' := [.int 3, .int (nI j)]) (σ' := (mj_KS N, I, mj_PP c d r)) 2 rfl trivial ?_
    refine R_br (q := (nI j : Int32) < 3) (t := 46) (f := 80) (rest := []) rfl (fun h1 => absurd h1 (show ¬ nI j < nI 3 from nI_nlt (by omega) (by omega))) (fun h1 => ?_)
    refine R_seg (φ := [mj_in q 3]) (pc' := 90) (L' := [.ref 42, .int q, .int u, .int a, .int i, .int n, .int f, .int was, .int g, .int (nI j)]) (st' := [.int g]) (σ' := (mj_KS N, (mj_upI I 48 q was), mj_PP c d r)) 6 rfl ⟨hq, trivial⟩ ?_
    exact R_ri rfl rfl (mj_leaf (by simp only [s_X6_ki, Bool.false_eq_true, ↓reduceIte, Nat.reduceAdd, Nat.reduceMul, mj_tn0, mj_tn1, mj_tn2, mj_tn3]) (by simp only [s_X6_ki, Bool.false_eq_true, ↓reduceIte, Nat.reduceAdd, Nat.reduceMul, mj_tn0, mj_tn1, mj_tn2, mj_tn3]))
  | succ k ih =>
    intro j g I hk hlo hj hJ
    have hjm : j < 3 := by omega
    refine R_seg (φ := []) (pc' := 43) (L' := [.ref 42, .int q, .int u, .int a, .int i, .int n, .int f, .int was, .int g, .int (nI j)]) (st' := [.int 3, .int (nI j)]) (σ' := (mj_KS N, I, mj_PP c d r)) 2 rfl trivial ?_
    refine R_br (q := (nI j : Int32) < 3) (t := 46) (f := 80) (rest := []) rfl (fun h1 => ?_) (fun h1 => absurd (show nI j < nI 3 from nI_lt hjm (by omega)) h1)
    refine R_seg (φ := [mj_in q 3]) (pc' := 57) (L' := [.ref 42, .int q, .int u, .int a, .int i, .int n, .int f, .int was, .int g, .int (nI j)]) (st' := [.ref 42, .int g]) (σ' := (mj_KS N, (mj_upI I 48 q (nI j)), mj_PP c d r)) 7 rfl ⟨hq, trivial⟩ ?_
    refine R_ce (idx := 207) (mid := 136) (kind := 0) (N := N) (M' := mj_m_X6_areSo) (As := [.ref 42]) (rest := [.int g]) (I := (mj_upI I 48 q (nI j))) (P := mj_PP c d r) (I' := (s_X6_areSo m p R (mj_upI I 48 q (nI j))).2) (P' := mj_PP c d r) (v := some (.int ((s_X6_areSo m p R (mj_upI I 48 q (nI j))).1))) rfl rfl rfl mj_mc136 mj_dc136 rfl rfl rfl rfl rfl rfl (x_X6_areSo l b base D z N m p R  (mj_upI I 48 q (nI j)) c d r (mj6_J_up (by decide) (by decide) (by decide) hJ)) ?_
    refine R_seg (φ := []) (pc' := 60) (L' := [.ref 42, .int q, .int u, .int a, .int i, .int n, .int f, .int was, .int g, .int (nI j)]) (st' := [.int ((s_X6_areSo m p R (mj_upI I 48 q (nI j))).1), .int g]) (σ' := (mj_KS N, (s_X6_areSo m p R (mj_upI I 48 q (nI j))).2, mj_PP c d r)) 0 rfl trivial ?_
    refine R_br (q := ((s_X6_areSo m p R (mj_upI I 48 q (nI j))).1 : Int32) = 0) (t := 70) (f := 63) (rest := [.int g]) rfl (fun h2 => ?_) (fun h2 => ?_)
    · skip
      refine R_seg (φ := []) (pc' := 40) (L' := [.ref 42, .int q, .int u, .int a, .int i, .int n, .int f, .int was, .int (g ||| 0), .int ((nI j) + 1)]) (st' := []) (σ' := (mj_KS N, (s_X6_areSo m p R (mj_upI I 48 q (nI j))).2, mj_PP c d r)) 5 rfl trivial ?_
      rw [nI_1 j]
      rw [show s_X6_ki q u a i n f was m p R (k + 1) j g I = s_X6_ki q u a i n f was m p R k (j + 1) (g ||| 0) ((s_X6_areSo m p R (mj_upI I 48 q (nI j))).2) from by simp only [s_X6_ki, if_pos h2, Bool.false_eq_true, ↓reduceIte, Nat.reduceAdd, Nat.reduceMul, mj_tn0, mj_tn1, mj_tn2, mj_tn3]]
      exact ih (j + 1) (g ||| 0) ((s_X6_areSo m p R (mj_upI I 48 q (nI j))).2) (by omega) (by omega) (by omega) (mj6_J_as (mj6_J_up (by decide) (by decide) (by decide) hJ))
    · skip
      refine R_seg (φ := []) (pc' := 40) (L' := [.ref 42, .int q, .int u, .int a, .int i, .int n, .int f, .int was, .int (g ||| (1 <<< ((nI j) &&& 31))), .int ((nI j) + 1)]) (st' := []) (σ' := (mj_KS N, (s_X6_areSo m p R (mj_upI I 48 q (nI j))).2, mj_PP c d r)) 8 rfl trivial ?_
      rw [nI_1 j]
      rw [show s_X6_ki q u a i n f was m p R (k + 1) j g I = s_X6_ki q u a i n f was m p R k (j + 1) (g ||| (1 <<< ((nI j) &&& 31))) ((s_X6_areSo m p R (mj_upI I 48 q (nI j))).2) from by simp only [s_X6_ki, if_neg h2, Bool.false_eq_true, ↓reduceIte, Nat.reduceAdd, Nat.reduceMul, mj_tn0, mj_tn1, mj_tn2, mj_tn3]]
      exact ih (j + 1) (g ||| (1 <<< ((nI j) &&& 31))) ((s_X6_areSo m p R (mj_upI I 48 q (nI j))).2) (by omega) (by omega) (by omega) (mj6_J_as (mj6_J_up (by decide) (by decide) (by decide) hJ))
def s_X6_kinds (p : Nat) (R : Nat) (q : Int32) (u : Int32) (a : Int32) (i : Int32) (n : Int32) (I : mj_I) : Int32 × mj_I := if ((s_X6_lay (s_X6_isPlant q I) 1 u a i n I).1 : Int32) = 0 then ((s_X6_ki q u a i (n) ((s_X6_lay (s_X6_isPlant q I) 1 u a i n I).1) (((s_X6_lay (s_X6_isPlant q I) 1 u a i n I).2) 48 q) n.toNatClampNeg p R 3 0 0 ((s_X6_lay (s_X6_isPlant q I) 1 u a i n I).2)).1, (s_X6_ki q u a i (n) ((s_X6_lay (s_X6_isPlant q I) 1 u a i n I).1) (((s_X6_lay (s_X6_isPlant q I) 1 u a i n I).2) 48 q) n.toNatClampNeg p R 3 0 0 ((s_X6_lay (s_X6_isPlant q I) 1 u a i n I).2)).2) else ((s_X6_lay (s_X6_isPlant q I) 1 u a i n I).1, (s_X6_lay (s_X6_isPlant q I) 1 u a i n I).2)
set_option maxHeartbeats 8000000 in
theorem x_X6_kinds (l : Launch) (b base : Nat) (D : va_G) (z : mj_K × (Int32 → Int32)) (N : Nat) (p : Nat) (R : Nat) (q : Int32) (u : Int32) (a : Int32) (i : Int32) (n : Int32) (I : mj_I) (c d r : Nat) (hL : ∀ k, mj_in k 4 → 0 ≤ (I 44 k).toInt ∧ (I 44 k).toInt ≤ 60) (hJ : mj6_J0 p R I) : mj_Rn l b base D z mj_m_X6_kinds 0 [.ref 42, .int q, .int u, .int a, .int i, .int n, mj_mk, mj_mk, mj_mk, mj_mk] [] (mj_KS N, I, mj_PP c d r) (mj_E N (some (.int (s_X6_kinds p R q u a i n I).1)) (s_X6_kinds p R q u a i n I).2 (mj_PP c d r)) := by
  refine R_seg (φ := []) (pc' := 3) (L' := [.ref 42, .int q, .int u, .int a, .int i, .int n, mj_mk, mj_mk, mj_mk, mj_mk]) (st' := [.int q, .ref 42, .ref 42]) (σ' := (mj_KS N, I, mj_PP c d r)) 3 rfl trivial ?_
  refine R_ce (idx := 140) (mid := 100) (kind := 0) (N := N) (M' := mj_m_X6_isPlant) (As := [.ref 42, .int q]) (rest := [.ref 42]) (I := I) (P := mj_PP c d r) (I' := I) (P' := mj_PP c d r) (v := some (.int (s_X6_isPlant q I))) rfl rfl rfl mj_mc100 mj_dc100 rfl rfl rfl rfl rfl rfl (x_X6_isPlant l b base D z N q I c d r) ?_
  refine R_seg (φ := []) (pc' := 13) (L' := [.ref 42, .int q, .int u, .int a, .int i, .int n, mj_mk, mj_mk, mj_mk, mj_mk]) (st' := [.int n, .int i, .int a, .int u, .int 1, .int (s_X6_isPlant q I), .ref 42]) (σ' := (mj_KS N, I, mj_PP c d r)) 5 rfl trivial ?_
  refine R_ce (idx := 203) (mid := 137) (kind := 0) (N := N) (M' := mj_m_X6_lay) (As := [.ref 42, .int (s_X6_isPlant q I), .int 1, .int u, .int a, .int i, .int n]) (rest := []) (I := I) (P := mj_PP c d r) (I' := (s_X6_lay (s_X6_isPlant q I) 1 u a i n I).2) (P' := mj_PP c d r) (v := some (.int ((s_X6_lay (s_X6_isPlant q I) 1 u a i n I).1))) rfl rfl rfl mj_mc137 mj_dc137 rfl rfl rfl rfl rfl rfl (x_X6_lay l b base D z N (s_X6_isPlant q I) 1 u a i n  I c d r hL) ?_
  refine R_seg (φ := []) (pc' := 20) (L' := [.ref 42, .int q, .int u, .int a, .int i, .int n, .int ((s_X6_lay (s_X6_isPlant q I) 1 u a i n I).1), mj_mk, mj_mk, mj_mk]) (st' := [.int ((s_X6_lay (s_X6_isPlant q I) 1 u a i n I).1)]) (σ' := (mj_KS N, (s_X6_lay (s_X6_isPlant q I) 1 u a i n I).2, mj_PP c d r)) 2 rfl trivial ?_
  refine R_br (q := ((s_X6_lay (s_X6_isPlant q I) 1 u a i n I).1 : Int32) = 0) (t := 26) (f := 23) (rest := []) rfl (fun h1 => ?_) (fun h1 => ?_)
  · skip
    obtain ⟨m, hm, hn, hJm⟩ := mj6_la_J hJ h1
    subst hn
    · skip
      refine R_seg (φ := [mj_in q 3]) (pc' := 40) (L' := [.ref 42, .int q, .int u, .int a, .int i, .int ((nI m)), .int ((s_X6_lay (s_X6_isPlant q I) 1 u a i (nI m) I).1), .int (((s_X6_lay (s_X6_isPlant q I) 1 u a i (nI m) I).2) 48 q), .int 0, .int 0]) (st' := []) (σ' := (mj_KS N, (s_X6_lay (s_X6_isPlant q I) 1 u a i (nI m) I).2, mj_PP c d r)) 9 rfl ⟨(mj6_plJ (mj6_la_e h1).1 hJ), trivial⟩ ?_
      simp only [s_X6_kinds, mj_tnm (show m < 2147483648 by omega), if_pos h1, Bool.false_eq_true, ↓reduceIte, Nat.reduceAdd, Nat.reduceMul, mj_tn0, mj_tn1, mj_tn2, mj_tn3]
      exact x_X6_ki l b base D z N q u a i ((nI m)) ((s_X6_lay (s_X6_isPlant q I) 1 u a i (nI m) I).1) (((s_X6_lay (s_X6_isPlant q I) 1 u a i (nI m) I).2) 48 q) m p R c d r (mj6_plJ (mj6_la_e h1).1 hJ) 3 0 0 ((s_X6_lay (s_X6_isPlant q I) 1 u a i (nI m) I).2) (by omega) (by omega) (by omega) hJm
  · skip
    refine R_seg (φ := []) (pc' := 25) (L' := [.ref 42, .int q, .int u, .int a, .int i, .int n, .int ((s_X6_lay (s_X6_isPlant q I) 1 u a i n I).1), mj_mk, mj_mk, mj_mk]) (st' := [.int ((s_X6_lay (s_X6_isPlant q I) 1 u a i n I).1)]) (σ' := (mj_KS N, (s_X6_lay (s_X6_isPlant q I) 1 u a i n I).2, mj_PP c d r)) 1 rfl trivial ?_
    exact R_ri rfl rfl (mj_leaf (by simp only [s_X6_kinds, if_neg h1, Bool.false_eq_true, ↓reduceIte, Nat.reduceAdd, Nat.reduceMul, mj_tn0, mj_tn1, mj_tn2, mj_tn3]) (by simp only [s_X6_kinds, if_neg h1, Bool.false_eq_true, ↓reduceIte, Nat.reduceAdd, Nat.reduceMul, mj_tn0, mj_tn1, mj_tn2, mj_tn3]))
def s_X6_wi (q : Int32) (t : Int32) (u : Int32) (a : Int32) (i : Int32) (n : Int32) (f : Int32) (was : Int32) (m : Nat) (p : Nat) (R : Nat) : Nat → Nat → Int32 → mj_I → Int32 × mj_I
  | 0, j, g, I => (g, (mj_upI I 49 ((3 * q) + t) was))
  | k + 1, j, g, I => if ((s_X6_areSo m p R (mj_upI I 49 ((3 * q) + t) (nI j))).1 : Int32) = 0 then (s_X6_wi q t u a i n f was m p R k (j + 1) (g ||| 0) ((s_X6_areSo m p R (mj_upI I 49 ((3 * q) + t) (nI j))).2)) else (s_X6_wi q t u a i n f was m p R k (j + 1) (g ||| (1 <<< ((nI j) &&& 31))) ((s_X6_areSo m p R (mj_upI I 49 ((3 * q) + t) (nI j))).2))
set_option maxHeartbeats 8000000 in
theorem x_X6_wi (l : Launch) (b base : Nat) (D : va_G) (z : mj_K × (Int32 → Int32)) (N : Nat) (q : Int32) (t : Int32) (u : Int32) (a : Int32) (i : Int32) (n : Int32) (f : Int32) (was : Int32) (m : Nat) (p : Nat) (R : Nat) (c d r : Nat) (hq : mj_in ((3 * q) + t) 9) : ∀ (k j : Nat) (g : Int32) (I : mj_I), k = 4 - j → 0 ≤ j → j ≤ 4 + 1 → (mj6_J m p R I) → mj_Rn l b base D z mj_m_X6_wishes 50 [.ref 42, .int q, .int t, .int u, .int a, .int i, .int n, .int f, .int was, .int g, .int (nI j)] [] (mj_KS N, I, mj_PP c d r) (mj_E N (some (.int (s_X6_wi q t u a i n f was m p R k j g I).1)) (s_X6_wi q t u a i n f was m p R k j g I).2 (mj_PP c d r)) := by
  intro k
  induction k with
  | zero =>
    intro j g I hk hlo hj hJ
    refine R_seg (φ := []) (pc' := 53) (L' := [.ref 42, .int q, .int t, .int u, .int a, .int i, .int n, .int f, .int was, .int g, .int (nI j)]) (st' := [.int 4, .int (nI j)]) (σ' := (mj_KS N, I, mj_PP c d r)) 2 rfl trivial ?_
    refine R_br (q := (nI j : Int32) < 4) (t := 56) (f := 94) (rest := []) rfl (fun h1 => absurd h1 (show ¬ nI j < nI 4 from nI_nlt (by omega) (by omega))) (fun h1 => ?_)
    refine R_seg (φ := [mj_in ((3 * q) + t) 9]) (pc' := 108) (L' := [.ref 42, .int q, .int t, .int u, .int a, .int i, .int n, .int f, .int was, .int g, .int (nI j)]) (st' := [.int g]) (σ' := (mj_KS N, (mj_upI I 49 ((3 * q) + t) was), mj_PP c d r)) 10 rfl ⟨hq, trivial⟩ ?_
    exact R_ri rfl rfl (mj_leaf (by simp only [s_X6_wi, Bool.false_eq_true, ↓reduceIte, Nat.reduceAdd, Nat.reduceMul, mj_tn0, mj_tn1, mj_tn2, mj_tn3]) (by simp only [s_X6_wi, Bool.false_eq_true, ↓reduceIte, Nat.reduceAdd, Nat.reduceMul, mj_tn0, mj_tn1, mj_tn2, mj_tn3]))
  | succ k ih =>
    intro j g I hk hlo hj hJ
    have hjm : j < 4 := by omega
    refine R_seg (φ := []) (pc' := 53) (L' := [.ref 42, .int q, .int t, .int u, .int a, .int i, .int n, .int f, .int was, .int g, .int (nI j)]) (st' := [.int 4, .int (nI j)]) (σ' := (mj_KS N, I, mj_PP c d r)) 2 rfl trivial ?_
    refine R_br (q := (nI j : Int32) < 4) (t := 56) (f := 94) (rest := []) rfl (fun h1 => ?_) (fun h1 => absurd (show nI j < nI 4 from nI_lt hjm (by omega)) h1)
    refine R_seg (φ := [mj_in ((3 * q) + t) 9]) (pc' := 71) (L' := [.ref 42, .int q, .int t, .int u, .int a, .int i, .int n, .int f, .int was, .int g, .int (nI j)]) (st' := [.ref 42, .int g]) (σ' := (mj_KS N, (mj_upI I 49 ((3 * q) + t) (nI j)), mj_PP c d r)) 11 rfl ⟨hq, trivial⟩ ?_
    refine R_ce (idx := 207) (mid := 136) (kind := 0) (N := N) (M' := mj_m_X6_areSo) (As := [.ref 42]) (rest := [.int g]) (I := (mj_upI I 49 ((3 * q) + t) (nI j))) (P := mj_PP c d r) (I' := (s_X6_areSo m p R (mj_upI I 49 ((3 * q) + t) (nI j))).2) (P' := mj_PP c d r) (v := some (.int ((s_X6_areSo m p R (mj_upI I 49 ((3 * q) + t) (nI j))).1))) rfl rfl rfl mj_mc136 mj_dc136 rfl rfl rfl rfl rfl rfl (x_X6_areSo l b base D z N m p R  (mj_upI I 49 ((3 * q) + t) (nI j)) c d r (mj6_J_up (by decide) (by decide) (by decide) hJ)) ?_
    refine R_seg (φ := []) (pc' := 74) (L' := [.ref 42, .int q, .int t, .int u, .int a, .int i, .int n, .int f, .int was, .int g, .int (nI j)]) (st' := [.int ((s_X6_areSo m p R (mj_upI I 49 ((3 * q) + t) (nI j))).1), .int g]) (σ' := (mj_KS N, (s_X6_areSo m p R (mj_upI I 49 ((3 * q) + t) (nI j))).2, mj_PP c d r)) 0 rfl trivial ?_
    refine R_br (q := ((s_X6_areSo m p R (mj_upI I 49 ((3 * q) + t) (nI j))).1 : Int32) = 0) (t := 84) (f := 77) (rest := [.int g]) rfl (fun h2 => ?_) (fun h2 => ?_)
    · skip
      refine R_seg (φ := []) (pc' := 50) (L' := [.ref 42, .int q, .int t, .int u, .int a, .int i, .int n, .int f, .int was, .int (g ||| 0), .int ((nI j) + 1)]) (st' := []) (σ' := (mj_KS N, (s_X6_areSo m p R (mj_upI I 49 ((3 * q) + t) (nI j))).2, mj_PP c d r)) 5 rfl trivial ?_
      rw [nI_1 j]
      rw [show s_X6_wi q t u a i n f was m p R (k + 1) j g I = s_X6_wi q t u a i n f was m p R k (j + 1) (g ||| 0) ((s_X6_areSo m p R (mj_upI I 49 ((3 * q) + t) (nI j))).2) from by simp only [s_X6_wi, if_pos h2, Bool.false_eq_true, ↓reduceIte, Nat.reduceAdd, Nat.reduceMul, mj_tn0, mj_tn1, mj_tn2, mj_tn3]]
      exact ih (j + 1) (g ||| 0) ((s_X6_areSo m p R (mj_upI I 49 ((3 * q) + t) (nI j))).2) (by omega) (by omega) (by omega) (mj6_J_as (mj6_J_up (by decide) (by decide) (by decide) hJ))
    · skip
      refine R_seg (φ := []) (pc' := 50) (L' := [.ref 42, .int q, .int t, .int u, .int a, .int i, .int n, .int f, .int was, .int (g ||| (1 <<< ((nI j) &&& 31))), .int ((nI j) + 1)]) (st' := []) (σ' := (mj_KS N, (s_X6_areSo m p R (mj_upI I 49 ((3 * q) + t) (nI j))).2, mj_PP c d r)) 8 rfl trivial ?_
      rw [nI_1 j]
      rw [show s_X6_wi q t u a i n f was m p R (k + 1) j g I = s_X6_wi q t u a i n f was m p R k (j + 1) (g ||| (1 <<< ((nI j) &&& 31))) ((s_X6_areSo m p R (mj_upI I 49 ((3 * q) + t) (nI j))).2) from by simp only [s_X6_wi, if_neg h2, Bool.false_eq_true, ↓reduceIte, Nat.reduceAdd, Nat.reduceMul, mj_tn0, mj_tn1, mj_tn2, mj_tn3]]
      exact ih (j + 1) (g ||| (1 <<< ((nI j) &&& 31))) ((s_X6_areSo m p R (mj_upI I 49 ((3 * q) + t) (nI j))).2) (by omega) (by omega) (by omega) (mj6_J_as (mj6_J_up (by decide) (by decide) (by decide) hJ))
def s_X6_wishes (p : Nat) (R : Nat) (q : Int32) (t : Int32) (u : Int32) (a : Int32) (i : Int32) (n : Int32) (I : mj_I) : Int32 × mj_I := if ((s_X6_lay (s_X6_isPlant q I) (s_X6_within t 0 2 I) u a i n I).1 : Int32) = 0 then ((s_X6_wi q t u a i (n) ((s_X6_lay (s_X6_isPlant q I) (s_X6_within t 0 2 I) u a i n I).1) (((s_X6_lay (s_X6_isPlant q I) (s_X6_within t 0 2 I) u a i n I).2) 49 ((3 * q) + t)) n.toNatClampNeg p R 4 0 0 ((s_X6_lay (s_X6_isPlant q I) (s_X6_within t 0 2 I) u a i n I).2)).1, (s_X6_wi q t u a i (n) ((s_X6_lay (s_X6_isPlant q I) (s_X6_within t 0 2 I) u a i n I).1) (((s_X6_lay (s_X6_isPlant q I) (s_X6_within t 0 2 I) u a i n I).2) 49 ((3 * q) + t)) n.toNatClampNeg p R 4 0 0 ((s_X6_lay (s_X6_isPlant q I) (s_X6_within t 0 2 I) u a i n I).2)).2) else ((s_X6_lay (s_X6_isPlant q I) (s_X6_within t 0 2 I) u a i n I).1, (s_X6_lay (s_X6_isPlant q I) (s_X6_within t 0 2 I) u a i n I).2)
set_option maxHeartbeats 8000000 in
theorem x_X6_wishes (l : Launch) (b base : Nat) (D : va_G) (z : mj_K × (Int32 → Int32)) (N : Nat) (p : Nat) (R : Nat) (q : Int32) (t : Int32) (u : Int32) (a : Int32) (i : Int32) (n : Int32) (I : mj_I) (c d r : Nat) (hL : ∀ k, mj_in k 4 → 0 ≤ (I 44 k).toInt ∧ (I 44 k).toInt ≤ 60) (hJ : mj6_J0 p R I) : mj_Rn l b base D z mj_m_X6_wishes 0 [.ref 42, .int q, .int t, .int u, .int a, .int i, .int n, mj_mk, mj_mk, mj_mk, mj_mk] [] (mj_KS N, I, mj_PP c d r) (mj_E N (some (.int (s_X6_wishes p R q t u a i n I).1)) (s_X6_wishes p R q t u a i n I).2 (mj_PP c d r)) := by
  refine R_seg (φ := []) (pc' := 3) (L' := [.ref 42, .int q, .int t, .int u, .int a, .int i, .int n, mj_mk, mj_mk, mj_mk, mj_mk]) (st' := [.int q, .ref 42, .ref 42]) (σ' := (mj_KS N, I, mj_PP c d r)) 3 rfl trivial ?_
  refine R_ce (idx := 140) (mid := 100) (kind := 0) (N := N) (M' := mj_m_X6_isPlant) (As := [.ref 42, .int q]) (rest := [.ref 42]) (I := I) (P := mj_PP c d r) (I' := I) (P' := mj_PP c d r) (v := some (.int (s_X6_isPlant q I))) rfl rfl rfl mj_mc100 mj_dc100 rfl rfl rfl rfl rfl rfl (x_X6_isPlant l b base D z N q I c d r) ?_
  refine R_seg (φ := []) (pc' := 9) (L' := [.ref 42, .int q, .int t, .int u, .int a, .int i, .int n, mj_mk, mj_mk, mj_mk, mj_mk]) (st' := [.int 2, .int 0, .int t, .int (s_X6_isPlant q I), .ref 42]) (σ' := (mj_KS N, I, mj_PP c d r)) 3 rfl trivial ?_
  refine R_ce (idx := 76) (mid := 95) (kind := 1) (N := N) (M' := mj_m_X6_within) (As := [.int t, .int 0, .int 2]) (rest := [.int (s_X6_isPlant q I), .ref 42]) (I := I) (P := mj_PP c d r) (I' := I) (P' := mj_PP c d r) (v := some (.int (s_X6_within t 0 2 I))) rfl rfl rfl mj_mc95 mj_dc95 rfl rfl rfl rfl rfl rfl (x_X6_within l b base D z N t 0 2 I c d r) ?_
  refine R_seg (φ := []) (pc' := 19) (L' := [.ref 42, .int q, .int t, .int u, .int a, .int i, .int n, mj_mk, mj_mk, mj_mk, mj_mk]) (st' := [.int n, .int i, .int a, .int u, .int (s_X6_within t 0 2 I), .int (s_X6_isPlant q I), .ref 42]) (σ' := (mj_KS N, I, mj_PP c d r)) 4 rfl trivial ?_
  refine R_ce (idx := 203) (mid := 137) (kind := 0) (N := N) (M' := mj_m_X6_lay) (As := [.ref 42, .int (s_X6_isPlant q I), .int (s_X6_within t 0 2 I), .int u, .int a, .int i, .int n]) (rest := []) (I := I) (P := mj_PP c d r) (I' := (s_X6_lay (s_X6_isPlant q I) (s_X6_within t 0 2 I) u a i n I).2) (P' := mj_PP c d r) (v := some (.int ((s_X6_lay (s_X6_isPlant q I) (s_X6_within t 0 2 I) u a i n I).1))) rfl rfl rfl mj_mc137 mj_dc137 rfl rfl rfl rfl rfl rfl (x_X6_lay l b base D z N (s_X6_isPlant q I) (s_X6_within t 0 2 I) u a i n  I c d r hL) ?_
  refine R_seg (φ := []) (pc' := 26) (L' := [.ref 42, .int q, .int t, .int u, .int a, .int i, .int n, .int ((s_X6_lay (s_X6_isPlant q I) (s_X6_within t 0 2 I) u a i n I).1), mj_mk, mj_mk, mj_mk]) (st' := [.int ((s_X6_lay (s_X6_isPlant q I) (s_X6_within t 0 2 I) u a i n I).1)]) (σ' := (mj_KS N, (s_X6_lay (s_X6_isPlant q I) (s_X6_within t 0 2 I) u a i n I).2, mj_PP c d r)) 2 rfl trivial ?_
  refine R_br (q := ((s_X6_lay (s_X6_isPlant q I) (s_X6_within t 0 2 I) u a i n I).1 : Int32) = 0) (t := 32) (f := 29) (rest := []) rfl (fun h1 => ?_) (fun h1 => ?_)
  · skip
    obtain ⟨m, hm, hn, hJm⟩ := mj6_la_J hJ h1
    subst hn
    · skip
      refine R_seg (φ := [mj_in ((3 * q) + t) 9]) (pc' := 50) (L' := [.ref 42, .int q, .int t, .int u, .int a, .int i, .int ((nI m)), .int ((s_X6_lay (s_X6_isPlant q I) (s_X6_within t 0 2 I) u a i (nI m) I).1), .int (((s_X6_lay (s_X6_isPlant q I) (s_X6_within t 0 2 I) u a i (nI m) I).2) 49 ((3 * q) + t)), .int 0, .int 0]) (st' := []) (σ' := (mj_KS N, (s_X6_lay (s_X6_isPlant q I) (s_X6_within t 0 2 I) u a i (nI m) I).2, mj_PP c d r)) 13 rfl ⟨(mj6_w3 (mj6_plJ (mj6_la_e h1).1 hJ) (mj6_win (mj6_la_e h1).2 (by decide))), trivial⟩ ?_
      simp only [s_X6_wishes, mj_tnm (show m < 2147483648 by omega), if_pos h1, Bool.false_eq_true, ↓reduceIte, Nat.reduceAdd, Nat.reduceMul, mj_tn0, mj_tn1, mj_tn2, mj_tn3]
      exact x_X6_wi l b base D z N q t u a i ((nI m)) ((s_X6_lay (s_X6_isPlant q I) (s_X6_within t 0 2 I) u a i (nI m) I).1) (((s_X6_lay (s_X6_isPlant q I) (s_X6_within t 0 2 I) u a i (nI m) I).2) 49 ((3 * q) + t)) m p R c d r (mj6_w3 (mj6_plJ (mj6_la_e h1).1 hJ) (mj6_win (mj6_la_e h1).2 (by decide))) 4 0 0 ((s_X6_lay (s_X6_isPlant q I) (s_X6_within t 0 2 I) u a i (nI m) I).2) (by omega) (by omega) (by omega) hJm
  · skip
    refine R_seg (φ := []) (pc' := 31) (L' := [.ref 42, .int q, .int t, .int u, .int a, .int i, .int n, .int ((s_X6_lay (s_X6_isPlant q I) (s_X6_within t 0 2 I) u a i n I).1), mj_mk, mj_mk, mj_mk]) (st' := [.int ((s_X6_lay (s_X6_isPlant q I) (s_X6_within t 0 2 I) u a i n I).1)]) (σ' := (mj_KS N, (s_X6_lay (s_X6_isPlant q I) (s_X6_within t 0 2 I) u a i n I).2, mj_PP c d r)) 1 rfl trivial ?_
    exact R_ri rfl rfl (mj_leaf (by simp only [s_X6_wishes, if_neg h1, Bool.false_eq_true, ↓reduceIte, Nat.reduceAdd, Nat.reduceMul, mj_tn0, mj_tn1, mj_tn2, mj_tn3]) (by simp only [s_X6_wishes, if_neg h1, Bool.false_eq_true, ↓reduceIte, Nat.reduceAdd, Nat.reduceMul, mj_tn0, mj_tn1, mj_tn2, mj_tn3]))
