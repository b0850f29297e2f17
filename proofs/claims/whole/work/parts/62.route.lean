/-! the route told -/
theorem rq_q3 {α : Type} (w : Int32) (A B : mj_I) (x y : α) : (if s_X6_within w 0 2 B = 0 then (if s_X6_within w 10 12 B = 0 then (if s_X6_within w 20 22 B = 0 then x else y) else y) else y) = if s_X5_isRouteQuestion w A = 0 then x else y := by
  have e0 : (0 : Int32).toInt = 0 := rfl
  have e2 : (2 : Int32).toInt = 2 := by decide
  have e10 : (10 : Int32).toInt = 10 := by decide
  have e12 : (12 : Int32).toInt = 12 := by decide
  have e20 : (20 : Int32).toInt = 20 := by decide
  have e22 : (22 : Int32).toInt = 22 := by decide
  have z : ∀ {β : Type} (a c : β), (if (0 : Int32) = 0 then a else c) = a := fun a c => if_pos rfl
  have o : ∀ {β : Type} (a c : β), (if (1 : Int32) = 0 then a else c) = c := fun a c => if_neg (by decide)
  unfold s_X6_within s_X5_isRouteQuestion
  by_cases h1 : w < 0
  · have a1 := mj_iL h1
    have f1 : w < 10 := Int32.lt_iff_toInt_lt.mpr (by omega)
    have f2 : w < 20 := Int32.lt_iff_toInt_lt.mpr (by omega)
    simp only [if_pos h1, if_pos f1, if_pos f2, z, o, ite_self, if_true, if_false, ↓reduceIte]
  · have a1 := mj_iN h1
    by_cases h2 : 2 < w
    · have a2 := mj_iL h2
      by_cases h3 : w < 10
      · have a3 := mj_iL h3
        have f2 : w < 20 := Int32.lt_iff_toInt_lt.mpr (by omega)
        simp only [if_neg h1, if_pos h2, if_pos h3, if_pos f2, z, o, ite_self, if_true, if_false, ↓reduceIte]
      · by_cases h4 : 12 < w
        · by_cases h5 : w < 20
          · simp only [if_neg h1, if_pos h2, if_neg h3, if_pos h4, if_pos h5, z, o, ite_self, if_true, if_false, ↓reduceIte]
          · by_cases h6 : 22 < w
            · simp only [if_neg h1, if_pos h2, if_neg h3, if_pos h4, if_neg h5, if_pos h6, z, o, ite_self, if_true, if_false, ↓reduceIte]
            · simp only [if_neg h1, if_pos h2, if_neg h3, if_pos h4, if_neg h5, if_neg h6, z, o, ite_self, if_true, if_false, ↓reduceIte]
        · simp only [if_neg h1, if_pos h2, if_neg h3, if_neg h4, z, o, ite_self, if_true, if_false, ↓reduceIte]
    · simp only [if_neg h1, if_neg h2, z, o, ite_self, if_true, if_false, ↓reduceIte]
theorem rq_len {n : Int32} {A : mj_I} (h : ¬ s_X5_isRouteLength n A = 0) : ∃ k, k ≤ 24 ∧ n = nI k := by
  unfold s_X5_isRouteLength at h
  have e24 : (24 : Int32).toInt = 24 := by decide
  by_cases h1 : n < 0
  · rw [if_pos h1] at h; exact absurd rfl h
  · rw [if_neg h1] at h
    have a1 := mj_i0 h1
    by_cases h2 : 24 < n
    · rw [if_pos h2] at h; exact absurd rfl h
    · have a2 := mj_iN h2
      exact ⟨n.toInt.toNat, by omega, mj_ofI (by rw [nI_toInt (by omega)]; omega)⟩
theorem rq_row (a n : Int32) (A B : mj_I) : s_X6_isRow a n B = if s_X5_isLane a A = 0 then 0 else if s_X5_isRouteLength n A = 0 then 0 else 1 := by
  unfold s_X6_isRow
  rw [rq_so_eq A B]
  rfl
theorem rq_mg {cc m : Nat} {A B : mj_I} (hC : mj_rC cc m A B) {x y : Nat} (hx : x < m) : s_X6_mayGo (nI x) (nI y) B = bI (sp_can (A (cc + 2)) (nI x) (nI y)) := by
  unfold s_X6_mayGo sp_can sp_cor
  rw [(hC.1 x hx).2.2]
  by_cases h : nI x = nI y
  · rw [if_pos h, if_pos h]; rfl
  · rw [if_neg h, if_neg h]
    by_cases h2 : A (cc + 2) (nI x) >>> (nI y &&& 31) &&& 1 = 1
    · rw [if_pos h2, if_pos h2]; rfl
    · rw [if_neg h2, if_neg h2]; rfl
theorem rq_sub1 (j : Nat) : nI (j + 1) - 1 = nI j := by
  rw [← nI_1]
  exact Int32.add_sub_cancel _ _
theorem rq_wr {cc m n : Nat} {A B : mj_I} (hC : mj_rC cc m A B) (hw : ∀ t, t < n → ∃ x, x < m ∧ A 29 (nI t) = nI x ∧ B 54 (nI t) = nI x) : ∀ (k j : Nat), k + (j + 1) ≤ n → s_X6_wd n B k (j + 1) = s_X5_fw cc n A k (j + 1) := by
  intro k
  induction k with
  | zero => intros; rfl
  | succ k ih =>
    intro j hk
    obtain ⟨x, hx, x1, x2⟩ := hw j (by omega)
    obtain ⟨y, hy, y1, y2⟩ := hw (j + 1) (by omega)
    rw [s_X6_wd, s_X5_fw, rq_sub1, x1, x2, y1, y2, rq_mg hC hx, ih (j + 1) (by omega)]
    cases e : sp_can (A (cc + 2)) (nI x) (nI y) with
    | true => rw [if_neg (show ¬ bI true = 0 by decide), if_pos rfl]
    | false => rw [if_pos (show bI false = 0 from rfl), if_neg (by decide)]
theorem rq_wrong {cc m n p : Nat} {A B : mj_I} (hC : mj_rC cc m A B) (hw : ∀ t, t < n → ∃ x, x < m ∧ A 29 (nI t) = nI x ∧ B 54 (nI t) = nI x) : s_X6_wrongDay n p B = s_X5_firstWrong cc n A := by
  unfold s_X6_wrongDay s_X5_firstWrong
  rcases Nat.eq_zero_or_pos (n - 1) with h | h
  · rw [h]; rfl
  · exact rq_wr hC hw (n - 1) 0 (by omega)
theorem rq_c4 : ∀ x : Fin 4, ∀ y : Fin 4, (if (nI x.1 - nI y.1 : Int32) < 0 then (if (2 : Int32) < -(nI x.1 - nI y.1) then (4 - (-(nI x.1 - nI y.1))) else (-(nI x.1 - nI y.1))) else (if (2 : Int32) < nI x.1 - nI y.1 then (4 - (nI x.1 - nI y.1)) else (nI x.1 - nI y.1))) = mj_min (mj_abs (nI x.1 - nI y.1)) (4 - mj_abs (nI x.1 - nI y.1)) := by decide +kernel
theorem rq_cold {cc m : Nat} {A B : mj_I} (hC : mj_rC cc m A B) {x y : Nat} (hx : x < m) (hy : y < m) : s_X6_colds (nI x) (nI y) B = sp_cold (A (cc + 1)) (nI x) (nI y) := by
  obtain ⟨x1, x2, _⟩ := hC.1 x hx
  obtain ⟨y1, y2, _⟩ := hC.1 y hy
  obtain ⟨v, hv, ev⟩ := mj6_nat x2 (by omega)
  obtain ⟨w, hw, ew⟩ := mj6_nat y2 (by omega)
  unfold s_X6_colds sp_cold
  rw [x1, y1, ev, ew]
  exact rq_c4 ⟨v, hv⟩ ⟨w, hw⟩
theorem rq_t2 {cc m n : Nat} {A B B2 : mj_I} (hC : mj_rC cc m A B) (hw : ∀ t, t < n → ∃ x, x < m ∧ A 29 (nI t) = nI x ∧ B 54 (nI t) = nI x) (h4 : B2 54 = B 54) (h6 : B2 46 = B 46) (w : Int32) : ∀ (k j : Nat) (g : Int32), k + (j + 1) ≤ n → s_X6_t2 w n B2 k (j + 1) g = s_X5_cw cc n A k (j + 1) g := by
  intro k
  induction k with
  | zero => intros; rfl
  | succ k ih =>
    intro j g hk
    obtain ⟨x, hx, x1, x2⟩ := hw j (by omega)
    obtain ⟨y, hy, y1, y2⟩ := hw (j + 1) (by omega)
    have e : s_X6_colds (nI x) (nI y) B2 = s_X6_colds (nI x) (nI y) B := by unfold s_X6_colds; rw [h6]
    rw [s_X6_t2, s_X5_cw, rq_sub1, h4, x1, x2, y1, y2, e, rq_cold hC hx hy, ih (j + 1) _ (by omega)]
theorem rq_t1 {cc n p : Nat} {A B2 : mj_I} (h : ∀ q, q < p → B2 55 (nI q) = s_X5_growthAtEnd cc n (nI q) A) (w : Int32) : ∀ (k j : Nat) (g : Int32), k + j ≤ p → s_X6_t1 w p B2 k j g = s_X5_re cc n p A k j g := by
  intro k
  induction k with
  | zero => intros; rfl
  | succ k ih =>
    intro j g hk
    rw [s_X6_t1, s_X5_re, h j (by omega)]
    by_cases h6 : s_X5_growthAtEnd cc n (nI j) A = 6
    · rw [if_pos h6, if_pos h6, ih (j + 1) _ (by omega)]
    · rw [if_neg h6, if_neg h6, ih (j + 1) _ (by omega), Int32.or_zero]
section VR
variable {cc m p R : Nat} {A B : mj_I}
theorem rq_Qof {k : Nat} (h : mj_RL cc m p R A B) (hk : k ≤ 24) (hw : ∀ t, t < k → ∃ x, x < m ∧ A 29 (nI t) = nI x ∧ B 54 (nI t) = nI x) : rq_Q cc m p k A B := ⟨⟨h.1.1, h.1.2.1, hk⟩, fun s hs => (h.2.2.2.1.1 s hs).1, h.2.2.2.2.1, hw⟩
theorem rq_RL_g {n : Nat} (hc : cc = 2 ∨ cc = 10) (h : mj_RL cc m p R A B) : mj_RL cc m p R A (s_X6_goRoute n p B) := by
  have f : ∀ x, x ≠ 55 → x ≠ 56 → s_X6_goRoute n p B x = B x := fun x h1 h2 => mj6_gr_ne n p B x h1 h2
  refine rq_RL_s hc h (fun _ _ => rfl) ⟨rfl, rfl⟩ (rq_RL_E h) (fun x hx => f x (by omega) (by omega)) ?_ ?_
  · rw [f 42 (by decide) (by decide)]; exact ⟨rfl, rfl, rfl, rfl, rfl⟩
  · rw [f 42 (by decide) (by decide)]; exact h.2.2.1.2
theorem rq_v_route (hc : cc = 2 ∨ cc = 10) (h : mj_RL cc m p R A B) (s a i n w : Int32) : rq_V cc (s_X5_route cc p s a i n w A) (s_X6_route p s a i n w B) := by
  unfold s_X5_route s_X6_route
  rw [rq_q3 w A, rq_sh_eq A (mj_upI B 42 0 0), rq_row a n A]
  rcases rq_sheet (k := s) (A := A) with ⟨k, hk, rfl, e⟩ | e
  · rw [e, if_neg rq_n10, if_neg rq_n10]
    by_cases hl : s_X5_isLane a A = 0
    · rw [if_pos hl, if_pos hl, if_pos rfl]; exact rq_Vi rfl (rq_RL_0 hc h)
    · rw [if_neg hl, if_neg hl]
      by_cases hn : s_X5_isRouteLength n A = 0
      · rw [if_pos hn, if_pos hn, if_pos rfl]; exact rq_Vi rfl (rq_RL_0 hc h)
      · rw [if_neg hn, if_neg hn, if_neg rq_n10]
        by_cases hw : s_X5_isRouteQuestion w A = 0
        · rw [if_pos hw, if_pos hw]; exact rq_Vi rfl (rq_RL_0 hc h)
        · rw [if_neg hw, if_neg hw]
          obtain ⟨n, hn24, rfl⟩ := rq_len hn
          rw [mj_tnm (show n < 2147483648 by omega)]
          obtain ⟨w1, w2, w3⟩ := rq_way hc h hk hn24 a i
          rw [← w1]
          by_cases h0 : (s_X5_takeWay cc (nI k) a i n A).1 = 0
          · rw [if_pos h0, if_pos h0]
            have hway := w3 h0
            revert w2 hway
            generalize (s_X5_takeWay cc (nI k) a i n A).2 = T
            generalize (s_X6_layRoute (nI k) a i n (mj_upI B 42 0 0)).2 = L
            intro w2 hway
            have hQ := rq_Qof w2 hn24 hway
            have hC := w2.2.2.2.1
            rw [rq_wrong (p := p) hC hway]
            unfold s_X5_ofWay
            by_cases hw1 : w = 1
            · rw [if_pos hw1, if_pos hw1]; exact rq_Vi rfl w2
            · rw [if_neg hw1, if_neg hw1]
              by_cases hf : s_X5_firstWrong cc n T = -9
              · rw [if_pos hf, if_pos hf]
                have g5 : ∀ q, q < p → s_X6_goRoute n p L 55 (nI q) = s_X5_growthAtEnd cc n (nI q) T := fun q hq => (rq_go hQ hq).1
                have g6 : ∀ q, q < p → s_X6_goRoute n p L 56 (nI q) = s_X5_ripeDay cc n (nI q) T := fun q hq => (rq_go hQ hq).2
                have RG := rq_RL_g (n := n) hc w2
                unfold s_X6_tellRoute
                by_cases hw0 : w = 0
                · rw [if_pos hw0, if_pos hw0]
                  refine rq_Vi ?_ RG
                  exact (rq_t1 g5 w p 0 0 (by omega)).symm
                · rw [if_neg hw0, if_neg hw0]
                  by_cases hw2 : w = 2
                  · rw [if_pos hw2, if_pos hw2]
                    refine rq_Vi ?_ RG
                    unfold s_X5_coldsOfWay
                    rcases Nat.eq_zero_or_pos (n - 1) with hz | hz
                    · rw [hz]; rfl
                    · exact (rq_t2 hC hway (mj6_gr_ne n p L 54 (by decide) (by decide)) (mj6_gr_ne n p L 46 (by decide) (by decide)) w (n - 1) 0 0 (by omega)).symm
                  · rw [if_neg hw2, if_neg hw2, rq_pl_eq RG.2.1.2.1.2, RG.2.1.2.1.1]
                    rcases rq_has (n := p) (by have := h.1.2.1; omega) (w - w / 10 * 10) with ⟨q, hq, eq, e5⟩ | e5
                    · rw [e5, if_pos (show (true : Bool) = true from rfl), if_neg (show ¬ bI true = 0 by decide), eq]
                      by_cases h20 : w < 20
                      · rw [if_pos h20, if_pos h20]; exact rq_Vi (g6 q hq).symm RG
                      · rw [if_neg h20, if_neg h20]; exact rq_Vi (by rw [g5 q hq]) RG
                    · rw [e5, if_neg (show ¬ (false : Bool) = true by decide), if_pos (show bI false = 0 from rfl)]
                      exact rq_Vi rfl RG
              · rw [if_neg hf, if_neg hf]; exact rq_Vi rfl w2
          · rw [if_neg h0, if_neg h0]
            exact rq_Vi rfl w2
  · rw [e, if_pos rfl, if_pos rfl]; exact rq_Vi rfl (rq_RL_0 hc h)
end VR
