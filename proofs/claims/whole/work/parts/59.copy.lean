/-! copies -/
/-- what a copy makes of a row's cells -/
theorem rq_cp6 {α : Type} {F G : α} {i e n Ls Lv : Int32} (hs : 0 ≤ Ls.toInt ∧ Ls.toInt ≤ 60) (hv : 0 ≤ Lv.toInt ∧ Lv.toInt ≤ 60) :
    (if i < 0 then F else if e < 0 then F else if n < 0 then F else if Ls < i then F else if Lv < e then F else if Ls - i < n then F else if Lv - e < n then F else G) = if (0 ≤ i.toInt ∧ 0 ≤ e.toInt ∧ 0 ≤ n.toInt ∧ i.toInt + n.toInt ≤ Ls.toInt ∧ e.toInt + n.toInt ≤ Lv.toInt) then G else F := by
  by_cases h1 : i < 0
  · rw [if_pos h1, if_neg (by have := mj_iL h1; rw [Int32.toInt_zero] at this; omega)]
  · rw [if_neg h1]
    have a1 := mj_i0 h1
    by_cases h2 : e < 0
    · rw [if_pos h2, if_neg (by have := mj_iL h2; rw [Int32.toInt_zero] at this; omega)]
    · rw [if_neg h2]
      have a2 := mj_i0 h2
      by_cases h3 : n < 0
      · rw [if_pos h3, if_neg (by have := mj_iL h3; rw [Int32.toInt_zero] at this; omega)]
      · rw [if_neg h3]
        have a3 := mj_i0 h3
        by_cases h4 : Ls < i
        · rw [if_pos h4, if_neg (by have := mj_iL h4; omega)]
        · rw [if_neg h4]
          have a4 := mj_iN h4
          by_cases h5 : Lv < e
          · rw [if_pos h5, if_neg (by have := mj_iL h5; omega)]
          · rw [if_neg h5]
            have a5 := mj_iN h5
            have e6 : (Ls - i).toInt = Ls.toInt - i.toInt := mj_isub (by omega) (by omega)
            have e7 : (Lv - e).toInt = Lv.toInt - e.toInt := mj_isub (by omega) (by omega)
            by_cases h6 : Ls - i < n
            · rw [if_pos h6, if_neg (by have := mj_iL h6; omega)]
            · rw [if_neg h6]
              have a6 := mj_iN h6
              by_cases h7 : Lv - e < n
              · rw [if_pos h7, if_neg (by have := mj_iL h7; omega)]
              · rw [if_neg h7, if_pos (by have := mj_iN h7; omega)]
theorem rq_hcv {i n L : Int32} (hL : 0 ≤ L.toInt ∧ L.toInt ≤ 60) (hn : 0 ≤ n.toInt) : sp_hc L i n = decide (0 ≤ i.toInt ∧ i.toInt + n.toInt ≤ L.toInt) := by
  have h2 := Int32.toInt_lt n
  have e6 : (L - n).toInt = L.toInt - n.toInt := mj_isub (by omega) (by omega)
  unfold sp_hc
  by_cases h1 : i < 0
  · rw [if_pos h1]
    have := mj_iL h1
    rw [Int32.toInt_zero] at this
    exact (decide_eq_false (by omega)).symm
  · rw [if_neg h1]
    have a1 := mj_i0 h1
    by_cases h3 : L - n < i
    · rw [if_pos h3]
      have := mj_iL h3
      exact (decide_eq_false (by omega)).symm
    · rw [if_neg h3]
      have := mj_iN h3
      exact (decide_eq_true (by omega)).symm
theorem rq_cp5 {α : Type} {F G : α} {i e n Ls Lv : Int32} (hs : 0 ≤ Ls.toInt ∧ Ls.toInt ≤ 60) (hv : 0 ≤ Lv.toInt ∧ Lv.toInt ≤ 60) :
    (if n < 0 then F else if sp_hc Ls i n = true then (if sp_hc Lv e n = true then G else F) else F) = if (0 ≤ i.toInt ∧ 0 ≤ e.toInt ∧ 0 ≤ n.toInt ∧ i.toInt + n.toInt ≤ Ls.toInt ∧ e.toInt + n.toInt ≤ Lv.toInt) then G else F := by
  by_cases h3 : n < 0
  · rw [if_pos h3, if_neg (by have := mj_iL h3; rw [Int32.toInt_zero] at this; omega)]
  · rw [if_neg h3]
    have a3 := mj_i0 h3
    rw [rq_hcv hs a3, rq_hcv hv a3]
    by_cases h1 : 0 ≤ i.toInt ∧ i.toInt + n.toInt ≤ Ls.toInt
    · rw [if_pos (decide_eq_true h1)]
      by_cases h2 : 0 ≤ e.toInt ∧ e.toInt + n.toInt ≤ Lv.toInt
      · rw [if_pos (decide_eq_true h2), if_pos (by omega)]
      · rw [if_neg (by rw [decide_eq_false h2]; decide), if_neg (by omega)]
    · rw [if_neg (by rw [decide_eq_false h1]; decide), if_neg (by omega)]
theorem rq_cp_ne (s i v e : Int32) (m : Nat) (f g : Int32) (x : Nat) (hx : x ≠ 45) : ∀ (k j : Nat) (I : mj_I), (s_X6_cp s i v e m f g k j I).2 x = I x := by
  intro k
  induction k with
  | zero => intros; rfl
  | succ k ih =>
    intro j I
    rw [s_X6_cp]
    split
    all_goals rw [ih, mj_upI_ne hx]
theorem rq_cp_1 (s i v e : Int32) (m : Nat) (f g : Int32) : ∀ (k j : Nat) (I : mj_I), (s_X6_cp s i v e m f g k j I).1 = nI m := by
  intro k
  induction k with
  | zero => intros; rfl
  | succ k ih =>
    intro j I
    rw [s_X6_cp]
    split
    all_goals rw [ih]
/-- forward -/
theorem rq_cp_f {s i v e m : Nat} {f : Int32} (hs : s < 4) (hv : v < 4) (hi : i + m ≤ 60) (he : e + m ≤ 60) (hie : e ≤ i) (I0 : mj_I) : ∀ (k j : Nat) (I : mj_I), k + j = m → (∀ x, x < 240 → I 45 (nI x) = if 60 * v + e ≤ x ∧ x < 60 * v + e + j then I0 45 (nI (60 * s + i + (x - (60 * v + e)))) else I0 45 (nI x)) →
    ∀ x, x < 240 → (s_X6_cp (nI s) (nI i) (nI v) (nI e) m f 0 k j I).2 45 (nI x) = if 60 * v + e ≤ x ∧ x < 60 * v + e + m then I0 45 (nI (60 * s + i + (x - (60 * v + e)))) else I0 45 (nI x) := by
  intro k
  induction k with
  | zero =>
    intro j I hk h x hx
    have : j = m := by omega
    subst this
    exact h x hx
  | succ k ih =>
    intro j I hk h
    rw [s_X6_cp, if_pos rfl, rq_60 hs, rq_60 hv, nI_add, nI_add, nI_add, nI_add]
    refine ih (j + 1) _ (by omega) (fun x hx => ?_)
    rw [mj_upI_eq, h (60 * s + i + j) (by omega)]
    by_cases hxj : x = 60 * v + e + j
    · rw [if_pos (by rw [hxj]), if_neg (by omega), if_pos (by omega)]
      congr 2
      omega
    · rw [if_neg (fun hh => hxj ((rq_nIe (by omega) (by omega)).mp hh)), h x hx]
      by_cases h2 : 60 * v + e ≤ x ∧ x < 60 * v + e + j
      · rw [if_pos h2, if_pos (by omega)]
      · rw [if_neg h2, if_neg (by omega)]
/-- backward -/
theorem rq_cp_b {s i v e m : Nat} {f : Int32} (hs : s < 4) (hv : v < 4) (hi : i + m ≤ 60) (he : e + m ≤ 60) (hie : i < e) (I0 : mj_I) : ∀ (k j : Nat) (I : mj_I), k + j = m → (∀ x, x < 240 → I 45 (nI x) = if 60 * v + e + k ≤ x ∧ x < 60 * v + e + m then I0 45 (nI (60 * s + i + (x - (60 * v + e)))) else I0 45 (nI x)) →
    ∀ x, x < 240 → (s_X6_cp (nI s) (nI i) (nI v) (nI e) m f 1 k j I).2 45 (nI x) = if 60 * v + e ≤ x ∧ x < 60 * v + e + m then I0 45 (nI (60 * s + i + (x - (60 * v + e)))) else I0 45 (nI x) := by
  intro k
  induction k with
  | zero =>
    intro j I hk h x hx
    exact h x hx
  | succ k ih =>
    intro j I hk h
    rw [s_X6_cp, if_neg rq_n10, rq_60 hs, rq_60 hv, mj6_cpb (show j < m by omega) (by omega), nI_add, nI_add, nI_add, nI_add]
    have ek : m - 1 - j = k := by omega
    rw [ek]
    refine ih (j + 1) _ (by omega) (fun x hx => ?_)
    rw [mj_upI_eq, h (60 * s + i + k) (by omega)]
    by_cases hxj : x = 60 * v + e + k
    · rw [if_pos (by rw [hxj]), if_neg (by omega), if_pos (by omega)]
      congr 2
      omega
    · rw [if_neg (fun hh => hxj ((rq_nIe (by omega) (by omega)).mp hh)), h x hx]
      by_cases h2 : 60 * v + e + (k + 1) ≤ x ∧ x < 60 * v + e + m
      · rw [if_pos h2, if_pos (by omega)]
      · rw [if_neg h2, if_neg (by omega)]
theorem rq_cpy_v {I : mj_I} {a d i e m y : Nat} (hi : i + m ≤ 60) (he : e + m ≤ 60) (hy : y < 60) : mj_cpy I a d (nI i) (nI e) (nI m) d (nI y) = if e ≤ y ∧ y < e + m then I a (nI (i + (y - e))) else I d (nI y) := by
  unfold mj_cpy
  rw [mj_rwI_eq, nI_toInt (by omega), nI_toInt (by omega), nI_toInt (by omega)]
  by_cases h : e ≤ y ∧ y < e + m
  · rw [if_pos (by omega), if_pos h]
    have : nI y - nI e + nI i = nI (i + (y - e)) := mj_ofI (by
      have e1 : (nI y - nI e).toInt = (y : Int) - e := by rw [mj_isub (by rw [nI_toInt (by omega), nI_toInt (by omega)]; omega) (by rw [nI_toInt (by omega), nI_toInt (by omega)]; omega), nI_toInt (by omega), nI_toInt (by omega)]
      rw [mj_iadd (by rw [e1, nI_toInt (by omega)]; omega) (by rw [e1, nI_toInt (by omega)]; omega), e1, nI_toInt (by omega), nI_toInt (by omega)]
      omega)
    rw [this]
  · rw [if_neg (by omega), if_neg h]
section VJ
variable {cc m p R : Nat} {A B : mj_I}
theorem rq_v_copy (hc : cc = 2 ∨ cc = 10) (h : mj_RL cc m p R A B) (s i v j n : Int32) : rq_V cc (s_X5_copy s i v j n A) (s_X6_copy s i v j n B) := by
  unfold s_X5_copy s_X6_copy
  rw [rq_sh_eq A (mj_upI B 42 0 0), rq_sh_eq A (mj_upI B 42 0 0)]
  rcases rq_sheet (k := s) (A := A) with ⟨a, ha, rfl, e⟩ | e
  · rw [e, if_neg rq_n10, if_neg rq_n10]
    rcases rq_sheet (k := v) (A := A) with ⟨b, hb, rfl, e2⟩ | e2
    · rw [e2, if_neg rq_n10, if_neg rq_n10, mj_tnm (show a < 2147483648 by omega), mj_tnm (show b < 2147483648 by omega)]
      obtain ⟨hla, h44a, hsa, hca⟩ := h.2.2.2.2.2.2.1 a ha
      obtain ⟨hlb, h44b, hsb, hcb⟩ := h.2.2.2.2.2.2.1 b hb
      rw [h44a, h44b]
      rcases hsa with ⟨h1, h2⟩ | ⟨h1, h2, h3⟩
      · rw [h1, h2, if_pos rfl, if_pos rfl]; exact rq_Vi rfl (rq_RL_1 hc h)
      · rw [h1, h2, if_neg rq_n10, if_neg (rq_n9 h3)]
        rcases hsb with ⟨g1, g2⟩ | ⟨g1, g2, g3⟩
        · rw [g1, g2, if_pos rfl, if_pos rfl]; exact rq_Vi rfl (rq_RL_1 hc h)
        · rw [g1, g2, if_neg rq_n10, if_neg (rq_n9 g3)]
          by_cases hl : A (34 + 2 * a) 1 = A (34 + 2 * b) 1
          · rw [if_pos hl, if_pos hl, rq_cp5 hla hlb, rq_cp6 hla hlb]
            by_cases hv : 0 ≤ i.toInt ∧ 0 ≤ j.toInt ∧ 0 ≤ n.toInt ∧ i.toInt + n.toInt ≤ (A (34 + 2 * a) 2).toInt ∧ j.toInt + n.toInt ≤ (A (34 + 2 * b) 2).toInt
            · rw [if_pos hv, if_pos hv]
              obtain ⟨x, hx, rfl⟩ : ∃ x : Nat, x = i.toInt.toNat ∧ i = nI x := ⟨_, rfl, mj_ofI (by rw [nI_toInt (by omega)]; omega)⟩
              obtain ⟨y, hy, rfl⟩ : ∃ y : Nat, y = j.toInt.toNat ∧ j = nI y := ⟨_, rfl, mj_ofI (by rw [nI_toInt (by omega)]; omega)⟩
              obtain ⟨k, hk, rfl⟩ : ∃ k : Nat, k = n.toInt.toNat ∧ n = nI k := ⟨_, rfl, mj_ofI (by rw [nI_toInt (by omega)]; omega)⟩
              have xk : x + k ≤ 60 := by omega
              have yk : y + k ≤ 60 := by omega
              rw [mj_tnm (show k < 2147483648 by omega)]
              clear hx hy hk hv
              have fin : ∀ B2 : mj_I, (∀ w, w ≠ 45 → B2 w = mj_upI B 42 0 0 w) → (∀ w, w < 240 → B2 45 (nI w) = if 60 * b + y ≤ w ∧ w < 60 * b + y + k then B 45 (nI (60 * a + x + (w - (60 * b + y)))) else B 45 (nI w)) → mj_RL cc m p R (mj_cpy (mj_upI A 1 13 0) (34 + 2 * a + 1) (34 + 2 * b + 1) (nI x) (nI y) (nI k)) B2 := by
                intro B2 hne hval
                refine rq_RL_h hc h (fun w hw => by rw [mj_cpy_ne (by omega), mj_upI_ne (by omega)]) ⟨by rw [mj_cpy_ne (by omega), mj_upI_eq, if_neg (by decide)], by rw [mj_cpy_ne (by omega), mj_upI_eq, if_neg (by decide)]⟩ (by rw [mj_cpy_ne (by omega), mj_upI_ne (by omega)]) (fun w hw => by rw [hne w (by omega), mj_upI_ne (by omega)]) (fun w hw => by rw [hne 42 (by decide), mj_upI_eq, if_neg hw]) (by rw [hne 42 (by decide), mj_upI_eq, if_pos rfl, mj_cpy_ne (by omega), mj_upI_eq, if_pos rfl]) ?_
                intro t ht
                have hH := h.2.2.2.2.2.2.1 t ht
                unfold mj_rH1 at hH ⊢
                rw [hne 44 (by decide), hne 43 (by decide), mj_upI_ne (show (44 : Nat) ≠ 42 by decide), mj_upI_ne (show (43 : Nat) ≠ 42 by decide), mj_cpy_ne (show 34 + 2 * t ≠ 34 + 2 * b + 1 by omega), mj_upI_ne (show 34 + 2 * t ≠ 1 by omega)]
                refine ⟨hH.1, hH.2.1, hH.2.2.1, fun w hw => ?_⟩
                rw [hval (60 * t + w) (by omega)]
                by_cases htb : t = b
                · subst htb
                  rw [rq_cpy_v xk yk hw, mj_upI_ne (show 34 + 2 * a + 1 ≠ 1 by omega), mj_upI_ne (show 34 + 2 * t + 1 ≠ 1 by omega)]
                  by_cases hr : y ≤ w ∧ w < y + k
                  · rw [if_pos (by omega), if_pos hr, ← hca (x + (w - y)) (by omega)]
                    congr 2
                    omega
                  · rw [if_neg (by omega), if_neg hr]; exact hH.2.2.2 w hw
                · rw [if_neg (by omega), mj_cpy_ne (by omega), mj_upI_ne (by omega)]; exact hH.2.2.2 w hw
              have base0 : ∀ w, mj_upI B 42 0 0 45 (nI w) = B 45 (nI w) := fun w => by rw [mj_upI_ne (by decide)]
              by_cases hxy : nI x < nI y
              · rw [if_pos hxy]
                have hlt : x < y := (nI_ltI (by omega) (by omega)).mp hxy
                refine rq_Vi (rq_cp_1 _ _ _ _ _ _ _ _ _ _).symm (fin _ (fun w hw => rq_cp_ne _ _ _ _ _ _ _ w hw _ _ _) (fun w hw => ?_))
                have q := rq_cp_b (f := 1) ha hb xk yk hlt (mj_upI B 42 0 0) k 0 (mj_upI B 42 0 0) (by omega) (fun w2 hw2 => by rw [if_neg (by omega)]) w hw
                rw [base0, base0] at q
                exact q
              · rw [if_neg hxy]
                have hge : y ≤ x := by
                  rcases Nat.lt_or_ge x y with q | q
                  · exact absurd ((nI_ltI (by omega) (by omega)).mpr q) hxy
                  · exact q
                refine rq_Vi (rq_cp_1 _ _ _ _ _ _ _ _ _ _).symm (fin _ (fun w hw => rq_cp_ne _ _ _ _ _ _ _ w hw _ _ _) (fun w hw => ?_))
                have q := rq_cp_f (f := 1) ha hb xk yk hge (mj_upI B 42 0 0) k 0 (mj_upI B 42 0 0) (by omega) (fun w2 hw2 => by rw [if_neg (by omega)]) w hw
                rw [base0, base0] at q
                exact q
            · rw [if_neg hv, if_neg hv]; exact rq_Vi rfl (rq_RL_1 hc h)
          · rw [if_neg hl, if_neg hl]; exact rq_Vi rfl (rq_RL_1 hc h)
    · rw [e2, if_pos rfl, if_pos rfl]; exact rq_Vi rfl (rq_RL_0 hc h)
  · rw [e, if_pos rfl, if_pos rfl]; exact rq_Vi rfl (rq_RL_0 hc h)
end VJ
