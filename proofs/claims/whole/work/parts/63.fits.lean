/-! readings: what fits, the class's and the reference's -/
theorem rq_rd_eq {cc n q : Nat} {A A' : mj_I} (hq : q < 3) (h1 : A' (cc + 1) = A (cc + 1)) (h3 : A' (cc + 3) = A (cc + 3)) (h5 : A' (cc + 5 + q) = A (cc + 5 + q)) (h29 : A' 29 = A 29) : ∀ (k j : Nat) (g : Int32), s_X5_rd cc n (nI q) A' k j g = s_X5_rd cc n (nI q) A k j g := by
  intro k
  induction k with
  | zero => intros; rfl
  | succ k ih =>
    intro j g
    rw [s_X5_rd, s_X5_rd]
    unfold sp_g
    rw [rq_tn3 hq, h1, h3, h5, h29, ih]
theorem rq_r1 {cc n p R : Nat} (hc : cc = 2 ∨ cc = 10) (hp : p ≤ 3) {A : mj_I} : ∀ (k j : Nat) (A' : mj_I), k + j = p → (∀ x, x ≠ 30 → A' x = A x) → (∀ q, q < j → A' 30 (nI q) = s_X5_ripeDay cc n (nI q) A) → ∃ M : mj_I, s_X5_r1 cc n p R k j A' = (s_X5_r2 cc n R M R 0, M) ∧ (∀ x, x ≠ 30 → M x = A x) ∧ ∀ q, q < p → M 30 (nI q) = s_X5_ripeDay cc n (nI q) A := by
  intro k
  induction k with
  | zero =>
    intro j A' hj h1 h2
    have : j = p := by omega
    subst this
    exact ⟨A', rfl, h1, h2⟩
  | succ k ih =>
    intro j A' hj h1 h2
    rw [s_X5_r1]
    refine ih (j + 1) _ (by omega) (fun x hx => by rw [mj_upI_ne hx, h1 x hx]) (fun q hq => ?_)
    rw [mj_upI_eq]
    by_cases hqj : q = j
    · subst hqj
      rw [if_pos rfl]
      exact rq_rd_eq (by omega) (h1 _ (by omega)) (h1 _ (by omega)) (h1 _ (by omega)) (h1 _ (by omega)) _ _ _
    · rw [if_neg (fun hh => hqj ((rq_nIe (by omega) (by omega)).mp hh))]
      exact h2 q (by omega)
theorem rq_r2 {cc n p R : Nat} {M B : mj_I} (hD : ∀ j, j < R → B 59 (nI j) = M 32 (nI j) ∧ B 60 (nI j) = M 33 (nI j) ∧ mj_in (M 32 (nI j)) p) (hp : p ≤ 3) (h56 : ∀ q, q < p → B 56 (nI q) = M 30 (nI q)) : ∀ (k j : Nat), k + j ≤ R → s_X5_r2 cc n R M k j = s_X6_ar R B k j := by
  intro k
  induction k with
  | zero => intros; rfl
  | succ k ih =>
    intro j hj
    obtain ⟨d1, d2, d3⟩ := hD j (by omega)
    obtain ⟨x, hx, ex⟩ := mj6_nat d3 (by omega)
    rw [s_X5_r2, s_X6_ar, d1, d2, ex, h56 x hx, ih (j + 1) (by omega)]
theorem rq_so {cc m p n R : Nat} {A B : mj_I} (hc : cc = 2 ∨ cc = 10) (hQ : rq_Q cc m p n A B) (hD : mj_rD p R A B) : (s_X5_readingsAreSo cc n p R A).1 = (s_X6_areSo n p R B).1 ∧ (∀ x, x ≠ 30 → (s_X5_readingsAreSo cc n p R A).2 x = A x) ∧ ∀ x, x ≠ 55 → x ≠ 56 → (s_X6_areSo n p R B).2 x = B x := by
  have hp := hQ.1.2.1
  obtain ⟨M, e, f, g⟩ := rq_r1 (n := n) (R := R) hc hp (A := A) p 0 A (by omega) (fun _ _ => rfl) (fun q hq => absurd hq (by omega))
  have fr : ∀ x, x ≠ 55 → x ≠ 56 → s_X6_goRoute n p B x = B x := fun x h1 h2 => mj6_gr_ne n p B x h1 h2
  unfold s_X5_readingsAreSo s_X6_areSo
  rw [e]
  refine ⟨rq_r2 (p := p) (fun j hj => ?_) hp (fun q hq => by rw [g q hq]; exact (rq_go hQ hq).2) R 0 (by omega), f, fr⟩
  obtain ⟨d1, d2, d3⟩ := hD j hj
  rw [fr 59 (by decide) (by decide), fr 60 (by decide) (by decide), f 32 (by decide), f 33 (by decide)]
  exact ⟨d1, d2, d3⟩
/-- the reference's three loops as one -/
def rq_l3 (X : Nat) (i : Int32) (n p R : Nat) (was : Int32) : Nat → Nat → Int32 → mj_I → Int32 × mj_I
  | 0, _, g, I => (g, mj_upI I X i was)
  | k + 1, j, g, I => if (s_X6_areSo n p R (mj_upI I X i (nI j))).1 = 0 then rq_l3 X i n p R was k (j + 1) g (s_X6_areSo n p R (mj_upI I X i (nI j))).2 else rq_l3 X i n p R was k (j + 1) (g ||| (1 <<< (nI j &&& 31))) (s_X6_areSo n p R (mj_upI I X i (nI j))).2
theorem rq_se (s u a i n f was : Int32) (m p R : Nat) : ∀ (k j : Nat) (g : Int32) (I : mj_I), s_X6_se s u a i n f was m p R k j g I = rq_l3 46 s m p R was k j g I := by
  intro k
  induction k with
  | zero => intros; rfl
  | succ k ih => intro j g I; rw [s_X6_se, rq_l3, ih, ih, Int32.or_zero]
theorem rq_ki (q u a i n f was : Int32) (m p R : Nat) : ∀ (k j : Nat) (g : Int32) (I : mj_I), s_X6_ki q u a i n f was m p R k j g I = rq_l3 48 q m p R was k j g I := by
  intro k
  induction k with
  | zero => intros; rfl
  | succ k ih => intro j g I; rw [s_X6_ki, rq_l3, ih, ih, Int32.or_zero]
theorem rq_wi (q t u a i n f was : Int32) (m p R : Nat) : ∀ (k j : Nat) (g : Int32) (I : mj_I), s_X6_wi q t u a i n f was m p R k j g I = rq_l3 49 (3 * q + t) m p R was k j g I := by
  intro k
  induction k with
  | zero => intros; rfl
  | succ k ih => intro j g I; rw [s_X6_wi, rq_l3, ih, ih, Int32.or_zero]
theorem rq_Q_eq {cc m p n : Nat} {A A' B B' : mj_I} (hc : cc = 2 ∨ cc = 10) (hA : ∀ x, x ≠ 30 → A' x = A x) (hB : ∀ x, x ≠ 55 → x ≠ 56 → B' x = B x) (h : rq_Q cc m p n A B) : rq_Q cc m p n A' B' := by
  obtain ⟨a, s, P, w⟩ := h
  refine ⟨a, fun x hx => ?_, fun x hx => ?_, fun t ht => ?_⟩
  · rw [hA _ (by omega), hB 46 (by decide) (by decide)]; exact s x hx
  · rw [hA (cc + 3) (by omega), hA (cc + 5 + x) (by omega), hB 48 (by decide) (by decide), hB 49 (by decide) (by decide)]; exact P x hx
  · rw [hA 29 (by decide), hB 54 (by decide) (by decide)]; exact w t ht
theorem rq_fi {cc m p n R y X e : Nat} {A B : mj_I} {q i wA wB : Int32} (hc : cc = 2 ∨ cc = 10) (hy : 1 ≤ y ∧ y ≤ 7) (hX : X = 46 ∨ X = 48 ∨ X = 49) (hQ : ∀ j, j < e → rq_Q cc m p n (mj_upI A (cc + y) q (nI j)) (mj_upI B X i (nI j))) (hD : mj_rD p R A B) (hwA : wA = A (cc + y) q) (hwB : wB = B X i) : ∀ (k j : Nat) (g : Int32) (A' B' : mj_I), k + j = e → (∀ x, x ≠ 30 → ∀ z, (x ≠ cc + y ∨ z ≠ q) → A' x z = A x z) → (∀ x, x ≠ 55 → x ≠ 56 → ∀ z, (x ≠ X ∨ z ≠ i) → B' x z = B x z) →
    (s_X5_fi cc y q n p R e wA k j g A').1 = (rq_l3 X i n p R wB k j g B').1 ∧ (∀ x, x ≠ 30 → (s_X5_fi cc y q n p R e wA k j g A').2 x = A x) ∧ ∀ x, x ≠ 55 → x ≠ 56 → (rq_l3 X i n p R wB k j g B').2 x = B x := by
  have up : ∀ (A' : mj_I) (v : Int32), (∀ x, x ≠ 30 → ∀ z, (x ≠ cc + y ∨ z ≠ q) → A' x z = A x z) → ∀ x, x ≠ 30 → mj_upI A' (cc + y) q v x = mj_upI A (cc + y) q v x := by
    intro A' v hA x hx
    by_cases hxy : x = cc + y
    · subst hxy
      funext z
      rw [mj_upI_eq, mj_upI_eq]
      by_cases hz : z = q
      · rw [if_pos hz, if_pos hz]
      · rw [if_neg hz, if_neg hz]; exact hA _ hx z (Or.inr hz)
    · rw [mj_upI_ne hxy, mj_upI_ne hxy]
      funext z
      exact hA x hx z (Or.inl hxy)
  have upB : ∀ (B' : mj_I) (v : Int32), (∀ x, x ≠ 55 → x ≠ 56 → ∀ z, (x ≠ X ∨ z ≠ i) → B' x z = B x z) → ∀ x, x ≠ 55 → x ≠ 56 → mj_upI B' X i v x = mj_upI B X i v x := by
    intro B' v hB x hx hx2
    by_cases hxy : x = X
    · subst hxy
      funext z
      rw [mj_upI_eq, mj_upI_eq]
      by_cases hz : z = i
      · rw [if_pos hz, if_pos hz]
      · rw [if_neg hz, if_neg hz]; exact hB _ hx hx2 z (Or.inr hz)
    · rw [mj_upI_ne hxy, mj_upI_ne hxy]
      funext z
      exact hB x hx hx2 z (Or.inl hxy)
  intro k
  induction k with
  | zero =>
    intro j g A' B' _ hA hB
    refine ⟨rfl, fun x hx => ?_, fun x hx hx2 => ?_⟩
    · rw [s_X5_fi]
      show mj_upI A' (cc + y) q wA x = A x
      rw [up A' wA hA x hx, hwA]
      by_cases hxy : x = cc + y
      · subst hxy
        funext z
        rw [mj_upI_eq]
        by_cases hz : z = q
        · rw [if_pos hz, hz]
        · rw [if_neg hz]
      · rw [mj_upI_ne hxy]
    · rw [rq_l3]
      show mj_upI B' X i wB x = B x
      rw [upB B' wB hB x hx hx2, hwB]
      by_cases hxy : x = X
      · subst hxy
        funext z
        rw [mj_upI_eq]
        by_cases hz : z = i
        · rw [if_pos hz, hz]
        · rw [if_neg hz]
      · rw [mj_upI_ne hxy]
  | succ k ih =>
    intro j g A' B' hk hA hB
    have q1 : rq_Q cc m p n (mj_upI A' (cc + y) q (nI j)) (mj_upI B' X i (nI j)) := rq_Q_eq hc (up A' (nI j) hA) (upB B' (nI j) hB) (hQ j (by omega))
    have d1 : mj_rD p R (mj_upI A' (cc + y) q (nI j)) (mj_upI B' X i (nI j)) := by
      intro t ht
      rw [up A' (nI j) hA 32 (by decide), up A' (nI j) hA 33 (by decide), upB B' (nI j) hB 59 (by decide) (by decide), upB B' (nI j) hB 60 (by decide) (by decide), mj_upI_ne (show 32 ≠ cc + y by omega), mj_upI_ne (show 33 ≠ cc + y by omega), mj_upI_ne (show 59 ≠ X by omega), mj_upI_ne (show 60 ≠ X by omega)]
      exact hD t ht
    obtain ⟨s1, s2, s3⟩ := rq_so hc q1 d1
    rw [s_X5_fi, rq_l3, s1]
    have hA2 : ∀ x, x ≠ 30 → ∀ z, (x ≠ cc + y ∨ z ≠ q) → (s_X5_readingsAreSo cc n p R (mj_upI A' (cc + y) q (nI j))).2 x z = A x z := by
      intro x hx z hz
      rw [s2 x hx, up A' (nI j) hA x hx]
      by_cases hxy : x = cc + y
      · subst hxy
        rw [mj_upI_eq, if_neg (hz.resolve_left (fun f => f rfl))]
      · rw [mj_upI_ne hxy]
    have hB2 : ∀ x, x ≠ 55 → x ≠ 56 → ∀ z, (x ≠ X ∨ z ≠ i) → (s_X6_areSo n p R (mj_upI B' X i (nI j))).2 x z = B x z := by
      intro x hx hx2 z hz
      rw [s3 x hx hx2, upB B' (nI j) hB x hx hx2]
      by_cases hxy : x = X
      · subst hxy
        rw [mj_upI_eq, if_neg (hz.resolve_left (fun f => f rfl))]
      · rw [mj_upI_ne hxy]
    by_cases h0 : (s_X6_areSo n p R (mj_upI B' X i (nI j))).1 = 0
    · rw [if_pos h0, if_pos h0]; exact ih (j + 1) g _ _ (by omega) hA2 hB2
    · rw [if_neg h0, if_neg h0]; exact ih (j + 1) _ _ _ (by omega) hA2 hB2
section VF
variable {cc m p R : Nat} {A B : mj_I}
theorem rq_fit {n y X e : Nat} {q i : Int32} (hc : cc = 2 ∨ cc = 10) (h : mj_RL cc m p R A B) (hy : 1 ≤ y ∧ y ≤ 7) (hX : X = 46 ∨ X = 48 ∨ X = 49) (hQ : ∀ j, j < e → rq_Q cc m p n (mj_upI A (cc + y) q (nI j)) (mj_upI B X i (nI j))) : rq_V cc (s_X5_fitting cc y q n p R e A) (rq_l3 X i n p R (B X i) e 0 0 B) := by
  obtain ⟨f1, f2, f3⟩ := rq_fi (n := n) (R := R) hc hy hX hQ h.2.2.2.2.2.1 rfl rfl e 0 0 A B (by omega) (fun _ _ _ _ => rfl) (fun _ _ _ _ _ => rfl)
  refine ⟨f1, m, p, R, rq_RL_s hc h (fun x hx => f2 x (by omega)) ?_ ?_ (fun x hx => f3 x (by omega) (by omega)) ?_ ?_⟩
  · rw [show (s_X5_fitting cc y q n p R e A).2 1 = A 1 from f2 1 (by decide)]; exact ⟨rfl, rfl⟩
  · intro t ht
    rw [show (s_X5_fitting cc y q n p R e A).2 22 = A 22 from f2 22 (by decide)]; exact rq_RL_E h t ht
  · rw [f3 42 (by decide) (by decide)]; exact ⟨rfl, rfl, rfl, rfl, rfl⟩
  · rw [f3 42 (by decide) (by decide), show (s_X5_fitting cc y q n p R e A).2 1 = A 1 from f2 1 (by decide)]; exact h.2.2.1.2
theorem rq_rw (hc : cc = 2 ∨ cc = 10) (h : mj_RL cc m p R A B) (s a i n : Int32) {e f : Int32} (he : ¬ e = 0) (hf : ¬ f = 0) : (s_X5_takeReadWay cc s a i n A).1 = (s_X6_lay e f s a i n B).1 ∧ mj_RL cc m p R (s_X5_takeReadWay cc s a i n A).2 (s_X6_lay e f s a i n B).2 ∧ ((s_X5_takeReadWay cc s a i n A).1 = 0 → ∃ k, k ≤ 24 ∧ n = nI k ∧ ∀ t, t < k → ∃ x, x < m ∧ (s_X5_takeReadWay cc s a i n A).2 29 (nI t) = nI x ∧ (s_X6_lay e f s a i n B).2 54 (nI t) = nI x) := by
  unfold s_X5_takeReadWay s_X6_lay
  rw [rq_sh_eq A (mj_upI B 42 0 0), rq_row a n A, if_neg he, if_neg hf]
  rcases rq_sheet (k := s) (A := A) with ⟨k, hk, rfl, e⟩ | e
  · rw [e, if_neg rq_n10, if_neg rq_n10]
    by_cases hl : s_X5_isLane a A = 0
    · rw [if_pos hl, if_pos hl, if_pos rfl]; exact ⟨rfl, rq_RL_0 hc h, fun hh => absurd hh (by show ¬ (-2 : Int32) = 0; decide)⟩
    · rw [if_neg hl, if_neg hl]
      by_cases hn : s_X5_isRouteLength n A = 0
      · rw [if_pos hn, if_pos hn, if_pos rfl]; exact ⟨rfl, rq_RL_0 hc h, fun hh => absurd hh (by show ¬ (-2 : Int32) = 0; decide)⟩
      · rw [if_neg hn, if_neg hn, if_neg rq_n10]
        obtain ⟨n, hn24, rfl⟩ := rq_len hn
        rw [mj_tnm (show n < 2147483648 by omega)]
        obtain ⟨w1, w2, w3⟩ := rq_way hc h hk hn24 a i
        exact ⟨w1, w2, fun h0 => ⟨n, hn24, rfl, w3 h0⟩⟩
  · rw [e, if_pos rfl, if_pos rfl]; exact ⟨rfl, rq_RL_0 hc h, fun hh => absurd hh (by show ¬ (-1 : Int32) = 0; decide)⟩
theorem rq_v_seasons (hc : cc = 2 ∨ cc = 10) (h : mj_RL cc m p R A B) (q s a i n : Int32) : rq_V cc (s_X5_seasons cc p R q s a i n A) (s_X6_seasons p R q s a i n B) := by
  unfold s_X5_seasons s_X6_seasons
  rw [rq_st_eq h.2.1.1.2, h.2.1.1.1]
  rcases rq_has (n := m) (by have := h.1.1; omega) q with ⟨q, hq, rfl, e⟩ | e
  · rw [e, if_pos (show (true : Bool) = true from rfl)]
    obtain ⟨w1, w2, w3⟩ := rq_rw hc h s a i n (e := bI true) (f := 1) (by decide) (by decide)
    rw [← w1]
    by_cases h0 : (s_X5_takeReadWay cc s a i n A).1 = 0
    · rw [if_pos h0, if_pos h0]
      obtain ⟨k, hk, rfl, hway⟩ := w3 h0
      revert w2 hway
      generalize (s_X5_takeReadWay cc s a i (nI k) A).2 = T
      generalize (s_X6_lay (bI true) 1 s a i (nI k) B).2 = L
      intro w2 hway
      rw [rq_se, mj_tnm (show k < 2147483648 by omega)]
      refine rq_fit hc w2 (by omega) (Or.inl rfl) (fun j hj => ?_)
      obtain ⟨a1, s1, P1, W1⟩ := rq_Qof w2 hk hway
      refine ⟨a1, fun x hx => ?_, fun x hx => ?_, fun t ht => ?_⟩
      · rw [mj_upI_eq, mj_upI_eq, s1 x hx]
      · rw [mj_upI_ne (show (48 : Nat) ≠ 46 by decide), mj_upI_ne (show (49 : Nat) ≠ 46 by decide), mj_upI_ne (show cc + 3 ≠ cc + 1 by omega), mj_upI_ne (show cc + 5 + x ≠ cc + 1 by omega)]
        exact P1 x hx
      · rw [mj_upI_ne (show (54 : Nat) ≠ 46 by decide), mj_upI_ne (show 29 ≠ cc + 1 by omega)]
        exact W1 t ht
    · rw [if_neg h0, if_neg h0]; exact rq_Vi rfl w2
  · rw [e, if_neg (show ¬ (false : Bool) = true by decide)]
    unfold s_X6_lay
    rw [if_pos (show bI false = 0 from rfl), if_neg (show ¬ (-1 : Int32) = 0 by decide)]
    exact rq_Vi rfl (rq_RL_0 hc h)
theorem rq_v_kinds (hc : cc = 2 ∨ cc = 10) (h : mj_RL cc m p R A B) (q s a i n : Int32) : rq_V cc (s_X5_kinds cc p R q s a i n A) (s_X6_kinds p R q s a i n B) := by
  unfold s_X5_kinds s_X6_kinds
  have hp3 := h.1.2.1
  rw [rq_pl_eq h.2.1.2.1.2, h.2.1.2.1.1]
  rcases rq_has (n := p) (by omega) q with ⟨q, hq, rfl, e⟩ | e
  · rw [e, if_pos (show (true : Bool) = true from rfl)]
    obtain ⟨w1, w2, w3⟩ := rq_rw hc h s a i n (e := bI true) (f := 1) (by decide) (by decide)
    rw [← w1]
    by_cases h0 : (s_X5_takeReadWay cc s a i n A).1 = 0
    · rw [if_pos h0, if_pos h0]
      obtain ⟨k, hk, rfl, hway⟩ := w3 h0
      revert w2 hway
      generalize (s_X5_takeReadWay cc s a i (nI k) A).2 = T
      generalize (s_X6_lay (bI true) 1 s a i (nI k) B).2 = L
      intro w2 hway
      rw [rq_ki, mj_tnm (show k < 2147483648 by omega)]
      refine rq_fit hc w2 (by omega) (Or.inr (Or.inl rfl)) (fun j hj => ?_)
      obtain ⟨a1, s1, P1, W1⟩ := rq_Qof w2 hk hway
      refine ⟨a1, fun x hx => ?_, fun x hx => ?_, fun t ht => ?_⟩
      · rw [mj_upI_ne (show (46 : Nat) ≠ 48 by decide), mj_upI_ne (show cc + 1 ≠ cc + 3 by omega)]
        exact s1 x hx
      · obtain ⟨p1, p2, p3⟩ := P1 x hx
        rw [mj_upI_eq, mj_upI_eq, mj_upI_ne (show (49 : Nat) ≠ 48 by decide), mj_upI_ne (show cc + 5 + x ≠ cc + 3 by omega), p1]
        refine ⟨rfl, ?_, p3⟩
        by_cases hxq : nI x = nI q
        · rw [if_pos hxq]; exact mj_in_nI hj (by omega)
        · rw [if_neg hxq]; exact p2
      · rw [mj_upI_ne (show (54 : Nat) ≠ 48 by decide), mj_upI_ne (show 29 ≠ cc + 3 by omega)]
        exact W1 t ht
    · rw [if_neg h0, if_neg h0]; exact rq_Vi rfl w2
  · rw [e, if_neg (show ¬ (false : Bool) = true by decide)]
    unfold s_X6_lay
    rw [if_pos (show bI false = 0 from rfl), if_neg (show ¬ (-1 : Int32) = 0 by decide)]
    exact rq_Vi rfl (rq_RL_0 hc h)
theorem rq_v_wishes (hc : cc = 2 ∨ cc = 10) (h : mj_RL cc m p R A B) (q t s a i n : Int32) : rq_V cc (s_X5_wishes cc p R q t s a i n A) (s_X6_wishes p R q t s a i n B) := by
  unfold s_X5_wishes s_X6_wishes
  have hp3 := h.1.2.1
  rw [rq_pl_eq h.2.1.2.1.2, h.2.1.2.1.1, show s_X6_within t 0 2 B = if t < 0 then 0 else if t < nI 3 then 1 else 0 from rq_wi_eq (n := 2) (by omega) B]
  rcases rq_has (n := p) (by omega) q with ⟨q, hq, rfl, e⟩ | e
  · rw [e, if_pos (show (true : Bool) = true from rfl)]
    have lay2 : ∀ f : Int32, f = 0 → s_X6_lay (bI true) f s a i n B = if s_X5_isSheet s A = 0 then (-1, mj_upI B 42 0 0) else (-2, mj_upI B 42 0 0) := by
      intro f hf
      unfold s_X6_lay
      rw [if_neg (show ¬ bI true = 0 by decide), rq_sh_eq A (mj_upI B 42 0 0), if_pos hf]
    have bad : ∀ f : Int32, f = 0 → rq_V cc (if s_X5_isSheet s A = 0 then ((s_X5_refuse (-1) A).1, (s_X5_refuse (-1) A).2) else ((s_X5_refuse (-2) A).1, (s_X5_refuse (-2) A).2)) (if (s_X6_lay (bI true) f s a i n B).1 = 0 then ((s_X6_wi (nI q) t s a i n (s_X6_lay (bI true) f s a i n B).1 ((s_X6_lay (bI true) f s a i n B).2 49 (3 * nI q + t)) n.toNatClampNeg p R 4 0 0 (s_X6_lay (bI true) f s a i n B).2).1, (s_X6_wi (nI q) t s a i n (s_X6_lay (bI true) f s a i n B).1 ((s_X6_lay (bI true) f s a i n B).2 49 (3 * nI q + t)) n.toNatClampNeg p R 4 0 0 (s_X6_lay (bI true) f s a i n B).2).2) else ((s_X6_lay (bI true) f s a i n B).1, (s_X6_lay (bI true) f s a i n B).2)) := by
      intro f hf
      rw [lay2 f hf]
      by_cases hs : s_X5_isSheet s A = 0
      · rw [if_pos hs, if_pos hs, if_neg (show ¬ (-1 : Int32) = 0 by decide)]
        exact rq_Vi rfl (rq_RL_0 hc h)
      · rw [if_neg hs, if_neg hs, if_neg (show ¬ (-2 : Int32) = 0 by decide)]
        exact rq_Vi rfl (rq_RL_0 hc h)
    by_cases ht0 : t < 0
    · simp only [if_pos ht0]
      exact bad 0 rfl
    · by_cases ht3 : t < nI 3
      · have ht3' : t < 3 := ht3
        simp only [if_neg ht0, if_pos ht3, if_pos ht3']
        obtain ⟨w1, w2, w3⟩ := rq_rw hc h s a i n (e := bI true) (f := 1) (by decide) (by decide)
        have l0 := mj_i0 ht0
        have l3 := mj_iL ht3
        rw [nI_toInt (show 3 < 2 ^ 31 by decide)] at l3
        obtain ⟨t, ht, rfl⟩ := mj6_nat (n := 3) (g := t) ⟨l0, l3⟩ (by omega)
        have main : rq_V cc (if (s_X5_takeReadWay cc s a i n A).1 = 0 then ((s_X5_fitting cc (5 + (nI q).toNatClampNeg) (nI t) n.toNatClampNeg p R 4 (s_X5_takeReadWay cc s a i n A).2).1, (s_X5_fitting cc (5 + (nI q).toNatClampNeg) (nI t) n.toNatClampNeg p R 4 (s_X5_takeReadWay cc s a i n A).2).2) else ((s_X5_takeReadWay cc s a i n A).1, (s_X5_takeReadWay cc s a i n A).2)) (if (s_X6_lay (bI true) 1 s a i n B).1 = 0 then ((s_X6_wi (nI q) (nI t) s a i n (s_X6_lay (bI true) 1 s a i n B).1 ((s_X6_lay (bI true) 1 s a i n B).2 49 (3 * nI q + nI t)) n.toNatClampNeg p R 4 0 0 (s_X6_lay (bI true) 1 s a i n B).2).1, (s_X6_wi (nI q) (nI t) s a i n (s_X6_lay (bI true) 1 s a i n B).1 ((s_X6_lay (bI true) 1 s a i n B).2 49 (3 * nI q + nI t)) n.toNatClampNeg p R 4 0 0 (s_X6_lay (bI true) 1 s a i n B).2).2) else ((s_X6_lay (bI true) 1 s a i n B).1, (s_X6_lay (bI true) 1 s a i n B).2)) := by
          rw [← w1]
          by_cases h0 : (s_X5_takeReadWay cc s a i n A).1 = 0
          · rw [if_pos h0, if_pos h0]
            obtain ⟨k, hk, rfl, hway⟩ := w3 h0
            revert w2 hway
            generalize (s_X5_takeReadWay cc s a i (nI k) A).2 = T
            generalize (s_X6_lay (bI true) 1 s a i (nI k) B).2 = L
            intro w2 hway
            rw [rq_wi, mj_tnm (show k < 2147483648 by omega), rq_tn3 (show q < 3 by omega)]
            refine rq_fit hc w2 (by omega) (Or.inr (Or.inr rfl)) (fun j hj => ?_)
            obtain ⟨a1, s1, P1, W1⟩ := rq_Qof w2 hk hway
            rw [show (3 : Int32) * nI q + nI t = nI (3 * q + t) from rq_x3 ⟨q, by omega⟩ ⟨t, ht⟩, ← Nat.add_assoc cc 5 q]
            refine ⟨a1, fun x hx => ?_, fun x hx => ?_, fun u hu => ?_⟩
            · rw [mj_upI_ne (show (46 : Nat) ≠ 49 by decide), mj_upI_ne (show cc + 1 ≠ cc + 5 + q by omega)]
              exact s1 x hx
            · obtain ⟨p1, p2, p3⟩ := P1 x hx
              rw [mj_upI_ne (show (48 : Nat) ≠ 49 by decide), mj_upI_ne (show cc + 3 ≠ cc + 5 + q by omega)]
              refine ⟨p1, p2, fun u hu => ?_⟩
              obtain ⟨u1, u2⟩ := p3 u hu
              by_cases hxq : x = q
              · subst hxq
                rw [mj_upI_eq, mj_upI_eq]
                by_cases hut : u = t
                · subst hut
                  rw [if_pos rfl, if_pos rfl]
                  exact ⟨rfl, mj_in_nI hj (by omega)⟩
                · rw [if_neg (fun hh => by have := (rq_nIe (by omega) (by omega)).mp hh; omega), if_neg (fun hh => by have := (rq_nIe (by omega) (by omega)).mp hh; omega)]
                  exact ⟨u1, u2⟩
              · rw [mj_upI_eq, if_neg (fun hh => by have := (rq_nIe (by omega) (by omega)).mp hh; omega), mj_upI_ne (show cc + 5 + x ≠ cc + 5 + q by omega)]
                exact ⟨u1, u2⟩
            · rw [mj_upI_ne (show (54 : Nat) ≠ 49 by decide), mj_upI_ne (show 29 ≠ cc + 5 + q by omega)]
              exact W1 u hu
          · rw [if_neg h0, if_neg h0]; exact rq_Vi rfl w2
        by_cases hs : s_X5_isSheet s A = 0
        · rw [if_pos hs]
          have e5 : s_X5_takeReadWay cc s a i n A = (-1, mj_upI A 1 13 0) := by
            unfold s_X5_takeReadWay
            rw [if_pos hs]
            rfl
          rw [e5, if_neg (show ¬ ((-1 : Int32), mj_upI A 1 13 0).1 = 0 from (by decide : ¬ (-1 : Int32) = 0))] at main
          exact main
        · rw [if_neg hs]; exact main
      · have ht3' : ¬ t < 3 := ht3
        simp only [if_neg ht0, if_neg ht3, if_neg ht3']
        exact bad 0 rfl
  · rw [e, if_neg (show ¬ (false : Bool) = true by decide)]
    unfold s_X6_lay
    rw [if_pos (show bI false = 0 from rfl), if_neg (show ¬ (-1 : Int32) = 0 by decide)]
    exact rq_Vi rfl (rq_RL_0 hc h)
end VF
