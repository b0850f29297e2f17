/-! ways taken and routes told -/
theorem rq_ag {k n : Nat} {A B : mj_I} (h : mj_rH1 k A B) (hn : n ≤ 24) (a i : Int32) : s_X6_against (nI k) a i (nI n) B = sp_fot (A (34 + 2 * k) 0) (A (34 + 2 * k) 1) (A (34 + 2 * k) 2) a i (nI n) := by
  obtain ⟨⟨l0, l1⟩, h44, hl, _⟩ := h
  unfold s_X6_against sp_fot
  rw [h44]
  rcases hl with ⟨h1, h2⟩ | ⟨h1, h2, h3⟩
  · rw [if_pos h2, if_pos h1]
  · rw [if_neg (show ¬ B 43 (nI k) = -9 by rw [h2]; exact rq_n9 h3), if_neg (show ¬ A (34 + 2 * k) 0 = 0 by rw [h1]; exact rq_n10), h2]
    by_cases ha : A (34 + 2 * k) 1 = a
    · rw [if_pos ha, if_pos ha, if_neg (show ¬ nI n < 0 from nI_nlt (b := 0) (by omega) (by omega)), if_neg (show ¬ nI n < 0 from nI_nlt (b := 0) (by omega) (by omega))]
      unfold sp_hc
      generalize A (34 + 2 * k) 2 = L at *
      have en : (nI n).toInt = n := nI_toInt (by omega)
      by_cases hi : i < 0
      · rw [if_pos hi, if_pos hi]; rfl
      · rw [if_neg hi, if_neg hi]
        have i0 := mj_i0 hi
        have e2 : (L - nI n).toInt = L.toInt - n := by rw [mj_isub (by omega) (by omega), en]
        by_cases h4 : L < i
        · have := mj_iL h4
          rw [if_pos h4, if_pos (show L - nI n < i from Int32.lt_iff_toInt_lt.mpr (by omega))]; rfl
        · have := mj_iN h4
          have e3 : (L - i).toInt = L.toInt - i.toInt := mj_isub (by omega) (by omega)
          rw [if_neg h4]
          by_cases h5 : L - i < nI n
          · have := mj_iL h5
            rw [if_pos h5, if_pos (show L - nI n < i from Int32.lt_iff_toInt_lt.mpr (by omega))]; rfl
          · have := mj_iN h5
            rw [if_neg h5, if_neg (show ¬ L - nI n < i from fun hh => by have := mj_iL hh; omega)]; rfl
    · rw [if_neg ha, if_neg ha]
theorem rq_fot0 {k n : Nat} {A B : mj_I} (h : mj_rH1 k A B) (hn : n ≤ 24) {a i : Int32} (h0 : sp_fot (A (34 + 2 * k) 0) (A (34 + 2 * k) 1) (A (34 + 2 * k) 2) a i (nI n) = 0) : ∃ x, x + n ≤ 60 ∧ i = nI x := by
  obtain ⟨⟨l0, l1⟩, _, _, _⟩ := h
  unfold sp_fot sp_hc at h0
  generalize A (34 + 2 * k) 2 = L at *
  have en : (nI n).toInt = n := nI_toInt (by omega)
  have e2 : (L - nI n).toInt = L.toInt - n := by rw [mj_isub (by omega) (by omega), en]
  split at h0
  · exact absurd h0 (by decide)
  · split at h0
    · split at h0
      · exact absurd h0 (by decide)
      · by_cases hi : i < 0
        · rw [if_pos hi] at h0; exact absurd h0 (by decide)
        · have i0 := mj_i0 hi
          rw [if_neg hi] at h0
          by_cases h5 : L - nI n < i
          · rw [if_pos h5] at h0; exact absurd h0 (by decide)
          · have := mj_iN h5
            exact ⟨i.toInt.toNat, by omega, mj_ofI (by rw [nI_toInt (by omega)]; omega)⟩
    · exact absurd h0 (by decide)
theorem rq_lp {cc m k x n : Nat} {A B : mj_I} (hcc : cc ≠ 29) (hk : k < 4) (hS : A cc 0 = nI m ∧ B 42 5 = nI m) (hm : m ≤ 6) (hx : x + n ≤ 60) (hcell : ∀ j, j < 60 → B 45 (nI (60 * k + j)) = A (34 + 2 * k + 1) (nI j)) (a f f2 : Int32) : ∀ (t j : Nat) (A' B' : mj_I), t + j = n → (∀ z, z ≠ 29 → A' z = A z) → (∀ z, z ≠ 54 → B' z = B z) → (∀ u, u < j → ∃ y, y < m ∧ A' 29 (nI u) = nI y ∧ B' 54 (nI u) = nI y) →
    (s_X5_tw cc (nI k) a (nI x) n f t j A').1 = (s_X6_lr (nI k) a (nI x) n f2 t j B').1 ∧ ((s_X5_tw cc (nI k) a (nI x) n f t j A').1 = 0 → ∀ u, u < n → ∃ y, y < m ∧ (s_X5_tw cc (nI k) a (nI x) n f t j A').2 29 (nI u) = nI y ∧ (s_X6_lr (nI k) a (nI x) n f2 t j B').2 54 (nI u) = nI y) := by
  intro t
  induction t with
  | zero =>
    intro j A' B' hj hA hB hu
    refine ⟨rfl, fun _ u hu2 => ?_⟩
    obtain ⟨y, hy, h1, h2⟩ := hu u (by omega)
    refine ⟨y, hy, h1, ?_⟩
    rw [s_X6_lr]
    simp only [mj_upI_ne (show (54 : Nat) ≠ 42 by decide)]
    exact h2
  | succ t ih =>
    intro j A' B' hj hA hB hu
    have ew : B' 45 (60 * nI k + nI x + nI j) = A' (34 + 2 * (nI k).toNatClampNeg + 1) (nI x + nI j) := by
      rw [mj_tnm (by omega), rq_60 hk, nI_add, nI_add, nI_add, hB 45 (by decide), hA _ (by omega), Nat.add_assoc, hcell (x + j) (by omega)]
    rw [s_X5_tw, s_X6_lr, ew]
    generalize A' (34 + 2 * (nI k).toNatClampNeg + 1) (nI x + nI j) = w
    have eS : mj_upI B' 54 (nI j) w 42 5 = nI m := by rw [mj_upI_ne (by decide), hB 42 (by decide)]; exact hS.2
    rw [mj_upI_eq, if_pos rfl, rq_st_eq eS, hA cc hcc, hS.1]
    rcases rq_has (n := m) (by omega) w with ⟨y, hy, rfl, e⟩ | e
    · rw [e]
      rw [if_pos (show (true : Bool) = true from rfl), if_neg (show ¬ bI true = 0 by decide)]
      refine ih (j + 1) _ _ (by omega) (fun z hz => by rw [mj_upI_ne hz, hA z hz]) (fun z hz => by rw [mj_upI_ne hz, hB z hz]) (fun u hu2 => ?_)
      rw [mj_upI_eq, mj_upI_eq]
      by_cases huj : u = j
      · subst huj
        rw [if_pos rfl, if_pos rfl]
        exact ⟨y, hy, rfl, rfl⟩
      · rw [if_neg (fun hh => huj ((rq_nIe (by omega) (by omega)).mp hh)), if_neg (fun hh => huj ((rq_nIe (by omega) (by omega)).mp hh))]
        exact hu u (by omega)
    · rw [e]
      rw [if_neg (show ¬ (false : Bool) = true by decide), if_pos (show bI false = 0 from rfl)]
      exact ⟨rfl, fun hh => absurd hh (by show ¬ (-1 : Int32) = 0; decide)⟩
section VW
variable {cc m p R : Nat} {A B : mj_I}
theorem rq_way (hc : cc = 2 ∨ cc = 10) (h : mj_RL cc m p R A B) {k n : Nat} (hk : k < 4) (hn : n ≤ 24) (a i : Int32) : (s_X5_takeWay cc (nI k) a i n A).1 = (s_X6_layRoute (nI k) a i n (mj_upI B 42 0 0)).1 ∧ mj_RL cc m p R (s_X5_takeWay cc (nI k) a i n A).2 (s_X6_layRoute (nI k) a i n (mj_upI B 42 0 0)).2 ∧ ((s_X5_takeWay cc (nI k) a i n A).1 = 0 → ∀ t, t < n → ∃ x, x < m ∧ (s_X5_takeWay cc (nI k) a i n A).2 29 (nI t) = nI x ∧ (s_X6_layRoute (nI k) a i n (mj_upI B 42 0 0)).2 54 (nI t) = nI x) := by
  have hm := h.1.1
  have hH := h.2.2.2.2.2.2.1 k hk
  have hS := h.2.1.1
  have ek : (nI k).toNatClampNeg = k := mj_tnm (by omega)
  have hcc : cc ≠ 29 := by omega
  have hH0 : mj_rH1 k A (mj_upI B 42 0 0) := by
    unfold mj_rH1 at hH ⊢
    rw [mj_upI_ne (show (44 : Nat) ≠ 42 by decide), mj_upI_ne (show (43 : Nat) ≠ 42 by decide), mj_upI_ne (show (45 : Nat) ≠ 42 by decide)]
    exact hH
  have eag := rq_ag hH0 hn a i
  have hm5 : mj_upI B 42 0 0 42 5 = nI m := by rw [mj_upI_eq, if_neg (by decide)]; exact hS.2
  have rl : ∀ v w : Int32, v = w → mj_RL cc m p R (mj_upI A 1 13 v) (mj_upI (mj_upI B 42 0 0) 42 0 w) := fun v w e => by subst e; exact rq_RL_1 hc h
  have frA : ∀ (x : Nat) (y : Int32), x ≠ 29 → (x ≠ 1 ∨ y ≠ 13) → (s_X5_takeWay cc (nI k) a i n A).2 x y = A x y := fun x y hx hy => mj_tw_fr cc (nI k) a i n hcc (by omega) A x y hx hy
  have frB : ∀ x, x ≠ 54 → x ≠ 42 → (s_X6_layRoute (nI k) a i n (mj_upI B 42 0 0)).2 x = B x := fun x h1 h2 => by rw [mj6_ly_ne _ _ _ _ _ _ h1 h2, mj_upI_ne h2]
  have frB2 : ∀ y, y ≠ 19 → y ≠ 0 → (s_X6_layRoute (nI k) a i n (mj_upI B 42 0 0)).2 42 y = B 42 y := fun y h1 h2 => by rw [mj6_ly_42 _ _ _ _ _ _ h1 h2, mj_upI_eq, if_neg h2]
  have RLk : (s_X6_layRoute (nI k) a i n (mj_upI B 42 0 0)).2 42 0 = (s_X5_takeWay cc (nI k) a i n A).2 1 13 → mj_RL cc m p R (s_X5_takeWay cc (nI k) a i n A).2 (s_X6_layRoute (nI k) a i n (mj_upI B 42 0 0)).2 := fun hf =>
    rq_RL_s hc h (fun x hx => funext fun y => frA x y (by omega) (Or.inl (by omega))) ⟨frA 1 11 (by decide) (Or.inr (by decide)), frA 1 12 (by decide) (Or.inr (by decide))⟩ (fun y hy => by rw [frA 22 y (by decide) (Or.inl (by decide))]; exact rq_RL_E h y hy) (fun x hx => frB x (by omega) (by omega)) ⟨frB2 1 (by decide) (by decide), frB2 5 (by decide) (by decide), frB2 6 (by decide) (by decide), frB2 23 (by decide) (by decide), frB2 25 (by decide) (by decide)⟩ hf
  by_cases h0 : sp_fot (A (34 + 2 * k) 0) (A (34 + 2 * k) 1) (A (34 + 2 * k) 2) a i (nI n) = 0
  · obtain ⟨x, hx, rfl⟩ := rq_fot0 hH hn h0
    by_cases hz : m = 0
    · subst hz
      have e1 : s_X5_takeWay cc (nI k) a (nI x) n A = (-3, mj_upI A 1 13 0) := by
        unfold s_X5_takeWay
        rw [ek, if_pos h0, if_pos (show A cc 0 = 0 from hS.1)]
      have e2 : s_X6_layRoute (nI k) a (nI x) n (mj_upI B 42 0 0) = (-3, mj_upI B 42 0 0) := by
        unfold s_X6_layRoute
        rw [if_pos (eag.trans h0), if_pos (show mj_upI B 42 0 0 42 5 = 0 from hm5)]
      rw [e1, e2]
      exact ⟨rfl, rq_RL_0 hc h, fun hh => absurd hh (by show ¬ (-3 : Int32) = 0; decide)⟩
    · have hnz : ¬ nI m = 0 := fun hh => hz ((rq_nIe (b := 0) (by omega) (by omega)).mp hh)
      have e1 : s_X5_takeWay cc (nI k) a (nI x) n A = s_X5_tw cc (nI k) a (nI x) n 0 n 0 (mj_upI A 1 13 0) := by
        unfold s_X5_takeWay
        rw [ek, if_pos h0, if_neg (by rw [hS.1]; exact hnz), h0]
      have e2 : s_X6_layRoute (nI k) a (nI x) n (mj_upI B 42 0 0) = s_X6_lr (nI k) a (nI x) n 0 n 0 (mj_upI B 42 0 0) := by
        unfold s_X6_layRoute
        rw [if_pos (eag.trans h0), if_neg (by rw [hm5]; exact hnz), eag, h0]
      have lp := rq_lp (cc := cc) (m := m) (A := mj_upI A 1 13 0) (B := mj_upI B 42 0 0) hcc hk ⟨by rw [mj_upI_ne (by omega)]; exact hS.1, hm5⟩ hm hx (fun j hj => by rw [mj_upI_ne (by decide), mj_upI_ne (by omega)]; exact hH.2.2.2 j hj) a 0 0 n 0 (mj_upI A 1 13 0) (mj_upI B 42 0 0) (by omega) (fun _ _ => rfl) (fun _ _ => rfl) (fun u hu => absurd hu (by omega))
      refine ⟨by rw [e1, e2]; exact lp.1, RLk ?_, by rw [e1, e2]; exact lp.2⟩
      rw [e1, e2, mj6_lr_42 _ _ _ _ _ _ (by decide), (mj_tw_spec cc (nI k) a (nI x) n 0 hcc (by omega) n 0 (mj_upI A 1 13 0)).1 1 13 (by decide), mj_upI_eq, if_pos rfl, mj_upI_eq, if_pos rfl]
  · have e1 : s_X5_takeWay cc (nI k) a i n A = s_X5_comeTo (sp_fot (A (34 + 2 * k) 0) (A (34 + 2 * k) 1) (A (34 + 2 * k) 2) a i (nI n)) A := by
      unfold s_X5_takeWay
      rw [ek, if_neg h0]
    have e2 : s_X6_layRoute (nI k) a i n (mj_upI B 42 0 0) = s_X6_fails (sp_fot (A (34 + 2 * k) 0) (A (34 + 2 * k) 1) (A (34 + 2 * k) 2) a i (nI n)) (mj_upI B 42 0 0) := by
      unfold s_X6_layRoute
      rw [if_neg (by rw [eag]; exact h0), eag]
    have hv : (s_X5_comeTo (sp_fot (A (34 + 2 * k) 0) (A (34 + 2 * k) 1) (A (34 + 2 * k) 2) a i (nI n)) A).1 ≠ 0 := by
      show ¬ (-10) - sp_fot (A (34 + 2 * k) 0) (A (34 + 2 * k) 1) (A (34 + 2 * k) 2) a i (nI n) = 0
      unfold sp_fot
      split
      · decide
      · split
        · split
          · decide
          · split
            · decide
            · decide
        · decide
    rw [e1, e2]
    exact ⟨rfl, rq_RL_1 hc h, fun hh => absurd hh hv⟩
end VW
