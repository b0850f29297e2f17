/-! odds: in least terms, alike -/
theorem rq_mod {F G : Nat} (hF : F < 2000000) (hG : 0 < G) (hG2 : G < 2000000) : nI F - nI F / nI G * nI G = nI (F % G) ∧ nI F / nI G = nI (F / G) := by
  have eF : (nI F).toInt = F := nI_toInt (by omega)
  have eG : (nI G).toInt = G := nI_toInt (by omega)
  have ne : nI G ≠ -1 := fun h => by
    have := congrArg Int32.toInt h
    rw [eG, show ((-1 : Int32)).toInt = -1 by decide] at this
    omega
  have q1 : F / G ≤ F := Nat.div_le_self F G
  have q2 : F / G * G ≤ F := Nat.div_mul_le_self F G
  have e1 : (nI F / nI G).toInt = ((F / G : Nat) : Int) := by
    rw [Int32.toInt_div_of_ne_right _ _ ne, eF, eG, Int.tdiv_eq_ediv_of_nonneg (by omega)]
    exact (Int.natCast_ediv F G).symm
  have d : nI F / nI G = nI (F / G) := mj_ofI (by rw [e1, nI_toInt (by omega)])
  refine ⟨?_, d⟩
  rw [d]
  have e3 : (nI (F / G) * nI G).toInt = ((F / G * G : Nat) : Int) := by
    have a1 : (nI (F / G)).toInt = ((F / G : Nat) : Int) := nI_toInt (by omega)
    have a2 : (nI (F / G)).toInt * (nI G).toInt = ((F / G * G : Nat) : Int) := by rw [a1, eG, Int.natCast_mul]
    rw [mj_imul (by rw [a2]; omega) (by rw [a2]; omega), a2]
  have q3 : F / G * G + F % G = F := by rw [Nat.mul_comm]; exact Nat.div_add_mod F G
  exact mj_ofI (by rw [mj_isub (by rw [eF, e3]; omega) (by rw [eF, e3]; omega), eF, e3, nI_toInt (by omega)]; omega)
theorem rq_gcd (F G : Nat) : Nat.gcd F G = Nat.gcd G (F % G) := by
  rw [Nat.gcd_comm F G, Nat.gcd_rec G F, Nat.gcd_comm]
theorem rq_gd5 (a e : Int32) (A : mj_I) : ∀ (n k j F G : Nat), G < 2 ^ n → 2 * n ≤ k → F < 2000000 → G < 2000000 → s_X5_gd a e A k j (nI F) (nI G) = nI (Nat.gcd F G) := by
  have z : ∀ (k j F : Nat), s_X5_gd a e A k j (nI F) (nI 0) = nI (Nat.gcd F 0) := by
    intro k j F
    rw [Nat.gcd_zero_right]
    cases k with
    | zero => rfl
    | succ k => rw [s_X5_gd, if_neg (show ¬ (0 : Int32) < nI 0 by decide)]
  have step : ∀ (k j F G : Nat), 0 < G → F < 2000000 → G < 2000000 → s_X5_gd a e A (k + 1) j (nI F) (nI G) = s_X5_gd a e A k (j + 1) (nI G) (nI (F % G)) := by
    intro k j F G hG h1 h2
    rw [s_X5_gd, if_pos (show (0 : Int32) < nI G from (nI_ltI (a := 0) (by omega) (by omega)).mpr hG), (rq_mod h1 hG h2).1]
  intro n
  induction n with
  | zero =>
    intro k j F G h _ _ _
    have : G = 0 := by rw [Nat.pow_zero] at h; omega
    subst this
    exact z k j F
  | succ n ih =>
    intro k j F G h hk h1 h2
    obtain ⟨k, rfl⟩ : ∃ x, k = x + 1 + 1 := ⟨k - 2, by omega⟩
    rcases Nat.eq_zero_or_pos G with g | g
    · subst g; exact z _ j F
    · rw [step (k + 1) j F G g h1 h2, rq_gcd F G]
      have l := Nat.mod_lt F g
      rcases Nat.eq_zero_or_pos (F % G) with r | r
      · rw [r]; exact z _ _ _
      · rw [step k (j + 1) G (F % G) r h2 (by omega), rq_gcd G (F % G)]
        have l2 := Nat.mod_lt G r
        have d := Nat.div_add_mod G (F % G)
        have d1 : 1 ≤ G / (F % G) := (Nat.one_le_div_iff r).mpr (by omega)
        have d2 : F % G * 1 ≤ F % G * (G / (F % G)) := Nat.mul_le_mul_left _ d1
        rw [Nat.pow_succ] at h
        exact ih k (j + 1 + 1) (F % G) (G % (F % G)) (by omega) (by omega) (by omega) (by omega)
theorem rq_lt6 (u e : Int64) (w : Int32) (m : Nat) (I : mj_I) : ∀ (k j X Y : Nat) (x y : Int64), Y ≤ k → x.toInt = X → y.toInt = Y → ∃ g : Int64, g.toInt = (Nat.gcd X Y : Nat) ∧ s_X6_lt u e w m k j x y I = (if w = 0 then u / g else e / g, I) := by
  have done : ∀ (X : Nat) (x : Int64), x.toInt = X → ∃ g : Int64, g.toInt = (Nat.gcd X 0 : Nat) ∧ (if w = 0 then (u / x, I) else (e / x, I)) = (if w = 0 then u / g else e / g, I) := by
    intro X x hx
    refine ⟨x, by rw [Nat.gcd_zero_right]; exact hx, ?_⟩
    by_cases h : w = 0
    · rw [if_pos h, if_pos h]
    · rw [if_neg h, if_neg h]
  intro k
  induction k with
  | zero =>
    intro j X Y x y hY hx hy
    have : Y = 0 := by omega
    subst this
    exact done X x hx
  | succ k ih =>
    intro j X Y x y hY hx hy
    rw [s_X6_lt]
    rcases Nat.eq_zero_or_pos Y with g | g
    · subst g
      rw [if_pos (mj6_l1 (by rw [hy]; rfl))]
      exact done X x hx
    · rw [if_neg (fun h => by have := mj6_l0 h; omega), rq_gcd X Y]
      have l := Nat.mod_lt X g
      refine ih (j + 1) Y (X % Y) y _ (by omega) hy ?_
      rw [mj6_i64m (by omega) (by omega), hx, hy]
      exact (Int.natCast_emod X Y).symm
theorem rq_og6 (q a n w f : Int32) (y : Nat) (I : mj_I) : ∀ (k j : Nat) (g e : Int32), s_X6_og q a n w f y k j g e I = s_X6_inLeastTerms (mj6_rip I k j e).toInt64 (mj6_all I k j g).toInt64 w y I := by
  intro k
  induction k with
  | zero => intros; rfl
  | succ k ih =>
    intro j g e
    rw [s_X6_og, mj6_rip, mj6_all]
    by_cases h : nI j / 6 = 6
    · rw [if_pos h, if_pos h, ih]
    · rw [if_neg h, if_neg h, ih]
section VU
variable {cc m p R : Nat} {A B : mj_I}
theorem rq_W6_0 (h : mj_RL cc m p R A B) {q f : Nat} (hq : q < p) (hf : f < m) (w : Int32) (v : Nat) : 6 * (s_X6_onBy (nI q) 0 (B 46 (nI f)) B) + nI f = nI (6 * rq_sg A cc q 0 f + f) ∧ rq_W6 m B (s_X6_oE (nI q) (nI f) v w (nI (6 * rq_sg A cc q 0 f + f)) 42 0 B) (rq_N0 (rq_sg A cc q 0 f) f) := by
  have hm := h.1.1
  have hp3 := h.1.2.1
  have hP := h.2.2.2.2.1
  have f0 : mj6_fok (A (cc + 3) (nI q)) (nI 0) := ⟨mj_in_nI (by omega) (by omega), Or.inr (Or.inl rfl)⟩
  obtain ⟨v1, v2, v3⟩ := rq_sgv (t := f) hp3 hP hq f0
  have eo : s_X6_onBy (nI q) 0 (B 46 (nI f)) B = nI (rq_sg A cc q 0 f) := by
    have := rq_onBy hp3 hP hq (g := nI 0) (e := A (cc + 1) (nI f)) f0.1
    rw [(h.2.2.2.1.1 f hf).1, ← v1]
    exact this
  refine ⟨by rw [eo]; exact rq_o4 ⟨_, v2⟩ ⟨f, by omega⟩, ?_⟩
  obtain ⟨o1, o2⟩ := rq_oE6 (nI q) (nI f) w v (6 * rq_sg A cc q 0 f + f) (by omega) 42 0 B rfl (fun x hx => absurd hx (by omega))
  refine ⟨fun x hx _ => o1 x hx, fun y hy => ?_⟩
  rw [o2 y hy]
  congr 1
  unfold rq_F6 rq_N0
  by_cases hh : y = 6 * rq_sg A cc q 0 f + f
  · rw [if_pos hh, if_pos (by omega), if_pos (by omega)]
  · rw [if_neg hh]
    by_cases g : y % 6 < m
    · rw [if_pos g, if_neg (by omega)]
    · rw [if_neg g]
theorem rq_p6 {v : Nat} (h1 : 1 ≤ v) (h2 : v ≤ 6) : 6 ^ (v - 1) ≤ 7776 := by
  have : v - 1 ≤ 5 := by omega
  exact Nat.le_trans (Nat.pow_le_pow_right (by omega) this) (by decide)
theorem rq_W6_n (h : mj_RL cc m p R A B) {q f v : Nat} (hq : q < p) (hf : f < m) (h1 : 1 ≤ v) (h2 : v ≤ 6) (w : Int32) : rq_W6 m B (mj6_oM m (nI q) (nI f) v w B) (rq_it m (rq_E A cc) (rq_sg A cc q) (v - 1) (rq_N0 (rq_sg A cc q 0 f) f)) ∧ rq_gd m (A (cc + 3) (nI q)) (rq_it m (rq_E A cc) (rq_sg A cc q) (v - 1) (rq_N0 (rq_sg A cc q 0 f) f)) 7776 := by
  have hm := h.1.1
  have hp3 := h.1.2.1
  have hP := h.2.2.2.2.1
  obtain ⟨z1, z2⟩ := rq_W6_0 h hq hf w v
  have g0 := rq_gd_0 (m := m) hp3 hP hq hf
  have p6 := rq_p6 h1 h2
  have gi := rq_gd_it hm hp3 hP hq (v - 1) 1 _ g0
  rw [Nat.mul_one] at gi
  refine ⟨?_, gi.1, Nat.le_trans gi.2.1 p6, gi.2.2⟩
  unfold mj6_oM
  rw [z1]
  exact rq_oF6 hm hp3 h.2.2.2.1 hP hq (nI f) w _ v (v - 1) 1 1 _ _ g0 (by omega) z2
theorem rq_sums6 {m : Nat} {B B' : mj_I} {N : Nat → Nat → Nat} (hm : m ≤ 6) (h : rq_W6 m B B' N) : mj6_all B' 42 0 0 = nI (rq_tt m N) ∧ mj6_rip B' 42 0 0 = nI (rq_S m (fun s => N 6 s)) := by
  obtain ⟨t1, t2⟩ := rq_tot6 (N := N) hm
  have a := rq_al6 h.2 42 0 0 rfl
  have e := rq_ri6 h.2 42 0 0 rfl
  rw [t1, Nat.zero_add] at a
  rw [t2, Nat.zero_add] at e
  exact ⟨a, e⟩
theorem rq_rle {m : Nat} {N : Nat → Nat → Nat} : rq_S m (fun s => N 6 s) ≤ rq_tt m N := rq_S_one (f := fun g => rq_S m (fun s => N g s)) 7 (show 6 < 7 by decide)
theorem rq_oO (h : mj_RL cc m p R A B) (q a n : Int32) {w : Int32} : ∀ v : Nat, n = nI v → 1 ≤ v → v ≤ 6 → ¬ s_X6_isPlant q B = 0 → ¬ s_X6_isStreet a B = 0 → mj6_HA (mj6_oM m q a v w B) 100000 := by
  intro v _ h1 h2 hp hs
  have hm := h.1.1
  have hp3 := h.1.2.1
  rw [rq_pl_eq h.2.1.2.1.2] at hp
  rw [rq_st_eq h.2.1.1.2] at hs
  rcases rq_has (n := p) (by omega) q with ⟨q, hq, rfl, _⟩ | e
  · rcases rq_has (n := m) (by omega) a with ⟨a, ha, rfl, _⟩ | e
    · obtain ⟨W, G⟩ := rq_W6_n h hq ha h1 h2 w
      obtain ⟨s1, s2⟩ := rq_sums6 hm W
      have := rq_rle (m := m) (N := rq_it m (rq_E A cc) (rq_sg A cc q) (v - 1) (rq_N0 (rq_sg A cc q 0 a) a))
      have g2 := G.2.1
      have g3 := G.2.2
      unfold mj6_HA
      rw [s1, s2, nI_toInt (by omega), nI_toInt (by omega)]
      omega
    · rw [e] at hs; exact absurd rfl hs
  · rw [e] at hp; exact absurd rfl hp
theorem rq_v_odds (hc : cc = 2 ∨ cc = 10) (h : mj_RL cc m p R A B) (q a n w : Int32) : rq_V cc (s_X5_odds cc m q a n w A) (s_X6_odds m 100000 q a n w B) := by
  have hm := h.1.1
  have hp3 := h.1.2.1
  have hP := h.2.2.2.2.1
  unfold s_X5_odds s_X6_odds
  rw [rq_pl_eq h.2.1.2.1.2, rq_st_eq h.2.1.1.2, h.2.1.2.1.1, h.2.1.1.1]
  rcases rq_has (n := p) (by omega) q with ⟨q, hq, rfl, e⟩ | e
  · rw [e, if_pos (show (true : Bool) = true from rfl), if_neg (show ¬ bI true = 0 by decide)]
    rcases rq_has (n := m) (by omega) a with ⟨f, hf, rfl, e2⟩ | e2
    · rw [e2, if_pos (show (true : Bool) = true from rfl), if_neg (show ¬ bI true = 0 by decide)]
      unfold s_X6_within
      by_cases hn1 : n < 1
      · rw [if_pos hn1, if_pos hn1, if_pos rfl]; exact rq_Vi rfl h
      · rw [if_neg hn1, if_neg hn1]
        by_cases hn6 : 6 < n
        · rw [if_pos hn6, if_pos hn6, if_pos rfl]; exact rq_Vi rfl h
        · rw [if_neg hn6, if_neg hn6, if_neg rq_n10]
          by_cases hw0 : w < 0
          · rw [if_pos hw0, if_pos hw0, if_pos rfl]; exact rq_Vi rfl h
          · rw [if_neg hw0, if_neg hw0]
            by_cases hw1 : 1 < w
            · rw [if_pos hw1, if_pos hw1, if_pos rfl]; exact rq_Vi rfl h
            · rw [if_neg hw1, if_neg hw1, if_neg rq_n10]
              obtain ⟨v, h1, h2, rfl⟩ : ∃ v : Nat, 1 ≤ v ∧ v ≤ 6 ∧ n = nI v := by
                have a1 := mj_iN hn1
                have a6 := mj_iN hn6
                have e1 : (1 : Int32).toInt = 1 := by decide
                have e6 : (6 : Int32).toInt = 6 := by decide
                exact ⟨n.toInt.toNat, by omega, by omega, mj_ofI (by rw [nI_toInt (by omega)]; omega)⟩
              rw [mj_tnm (show v < 2147483648 by omega), mj_tnm (show f < 2147483648 by omega)]
              obtain ⟨W, G⟩ := rq_W6_n h hq hf h1 h2 w
              obtain ⟨s1, s2⟩ := rq_sums6 hm W
              have rle := rq_rle (m := m) (N := rq_it m (rq_E A cc) (rq_sg A cc q) (v - 1) (rq_N0 (rq_sg A cc q 0 f) f))
              -- the class
              have f0 : mj6_fok (A (cc + 3) (nI q)) (nI 0) := ⟨mj_in_nI (by omega) (by omega), Or.inr (Or.inl rfl)⟩
              obtain ⟨v1, v2, v3⟩ := rq_sgv (t := f) hp3 hP hq f0
              have fI : ∀ x, x ≠ 26 → mj_fil A 26 48 0 x = A x := fun x hx => mj_fil_ne hx
              have eb : s_X0_behindDay cc (nI q) 0 (nI f) (mj_fil A 26 48 0) = nI (8 * f + rq_sg A cc q 0 f) := by
                unfold s_X0_behindDay
                have e1 : sp_g (mj_fil A 26 48 0) cc (nI q) 0 (mj_fil A 26 48 0 (cc + 1) (nI f)) = sp_g A cc (nI q) (nI 0) (A (cc + 1) (nI f)) := by
                  unfold sp_g
                  rw [rq_tn3 (show q < 3 by omega), fI (cc + 3) (by omega), fI (cc + 5 + q) (by omega), fI (cc + 1) (by omega)]
                  rfl
                rw [e1, v1]
                exact rq_o1 ⟨f, by omega⟩ ⟨_, v2⟩
              have W5 : rq_W5 cc m A (mj_upI (mj_fil A 26 48 0) 26 (nI (8 * f + rq_sg A cc q 0 f)) 1) (rq_N0 (rq_sg A cc q 0 f) f) := by
                refine ⟨fun x _ hx _ => by rw [mj_upI_ne hx, fI x hx], fun x hx => ?_⟩
                rw [mj_upI_eq]
                unfold rq_F5 rq_N0
                by_cases hh : x = 8 * f + rq_sg A cc q 0 f
                · rw [if_pos (by rw [hh]), if_pos (by omega), if_pos (by omega)]; rfl
                · rw [if_neg (fun g => hh ((rq_nIe (by omega) (by omega)).mp g)), rq_fil_v hx (by omega)]
                  by_cases g : x / 8 < m ∧ x % 8 < 7
                  · rw [if_pos g, if_neg (by omega)]; rfl
                  · rw [if_neg g]; rfl
              have p6 := rq_p6 h1 h2
              have go := rq_gg5 hc hm hp3 hP hq (nI f) v (v - 1) 1 1 _ _ (rq_gd_0 (m := m) hp3 hP hq hf) (by omega) W5
              unfold s_X0_go
              rw [eb]
              revert go
              generalize s_X0_gg cc m (nI q) (nI f) v (v - 1) 1 (mj_upI (mj_fil A 26 48 0) 26 (nI (8 * f + rq_sg A cc q 0 f)) 1) = M
              intro go
              obtain ⟨m1, m2, m3⟩ := go
              have RR : mj_RL cc m p R M (mj6_oM m (nI q) (nI f) v w B) := by
                refine rq_RL_s hc h (fun x hx => m1 x (by omega) (by omega) (by omega)) ?_ ?_ (fun x hx => W.1 x (by omega) (by omega)) ?_ ?_
                · rw [m1 1 (by decide) (by decide) (by decide)]; exact ⟨rfl, rfl⟩
                · intro t ht
                  rw [m1 22 (by decide) (by decide) (by decide)]; exact rq_RL_E h t ht
                · rw [W.1 42 (by decide) (by decide)]; exact ⟨rfl, rfl, rfl, rfl, rfl⟩
                · rw [W.1 42 (by decide) (by decide), m1 1 (by decide) (by decide) (by decide)]; exact h.2.2.1.2
              have eM : s_X6_oF (nI q) (nI f) v w (6 * (s_X6_onBy (nI q) 0 (B 46 (nI f)) B) + nI f) m (v - 1) 1 (s_X6_oE (nI q) (nI f) v w (6 * (s_X6_onBy (nI q) 0 (B 46 (nI f)) B) + nI f) 42 0 B) = mj6_oM m (nI q) (nI f) v w B := rfl
              rw [eM, rq_og6, s1, s2]
              clear eM
              have g2 := G.2.1
              have g3 := G.2.2
              revert rle g2 g3 m2 m3
              generalize rq_S m (fun s => rq_it m (rq_E A cc) (rq_sg A cc q) (v - 1) (rq_N0 (rq_sg A cc q 0 f) f) 6 s) = Y
              generalize rq_tt m (rq_it m (rq_E A cc) (rq_sg A cc q) (v - 1) (rq_N0 (rq_sg A cc q 0 f) f)) = X
              intro rle m2 m3 g2 g3
              have lX : (nI X).toInt64.toInt = X := by rw [mj6_l32, nI_toInt (by omega)]
              have lY : (nI Y).toInt64.toInt = Y := by rw [mj6_l32, nI_toInt (by omega)]
              obtain ⟨g, eg, el⟩ := rq_lt6 (nI Y).toInt64 (nI X).toInt64 w 100000 (mj6_oM m (nI q) (nI f) v w B) 100000 0 Y X (nI Y).toInt64 (nI X).toInt64 (by omega) lY lX
              have eL : s_X6_inLeastTerms (nI Y).toInt64 (nI X).toInt64 w 100000 (mj6_oM m (nI q) (nI f) v w B) = (if w = 0 then (nI Y).toInt64 / g else (nI X).toInt64 / g, mj6_oM m (nI q) (nI f) v w B) := by
                unfold s_X6_inLeastTerms
                rw [el]
              rw [eL]
              have eG : s_X5_greatestDivisor (M 25 0) (M 25 1) M = nI (Nat.gcd X Y) := by
                unfold s_X5_greatestDivisor
                rw [m2, m3]
                exact rq_gd5 _ _ _ 13 64 0 X Y (by omega) (by omega) (by omega) (by omega)
              rw [eG, m2, m3]
              have gp : 0 < Nat.gcd X Y := Nat.gcd_pos_of_pos_left Y (by omega)
              have gl : Nat.gcd X Y ≤ X := Nat.gcd_le_left Y (by omega)
              rw [if_neg (show ¬ nI (Nat.gcd X Y) < 1 from fun hh => by have := (nI_ltI (b := 1) (by omega) (by omega)).mp hh; omega)]
              have fin : ∀ Z : Nat, Z ≤ 7776 → (nI Z / nI (Nat.gcd X Y)).toInt64 = (nI Z).toInt64 / g := by
                intro Z hZ
                refine Int64.toInt_inj.mp ?_
                have lZ : (nI Z).toInt64.toInt = Z := by rw [mj6_l32, nI_toInt (by omega)]
                have q1 : Z / Nat.gcd X Y ≤ Z := Nat.div_le_self _ _
                rw [mj6_i64d (by omega) (by rw [eg, Nat.gcd_comm]; omega), lZ, eg, Nat.gcd_comm Y X, mj6_l32, (rq_mod (by omega) gp (by omega)).2, nI_toInt (by omega)]
                exact Int.natCast_ediv Z _
              by_cases hw : w = 0
              · rw [if_pos hw, if_pos hw]
                exact rq_Vi (fin Y (by omega)) RR
              · rw [if_neg hw, if_neg hw]
                exact rq_Vi (fin X (by omega)) RR
    · rw [e2, if_neg (show ¬ (false : Bool) = true by decide), if_pos (show bI false = 0 from rfl)]
      exact rq_Vi rfl h
  · rw [e, if_neg (show ¬ (false : Bool) = true by decide), if_pos (show bI false = 0 from rfl)]
    exact rq_Vi rfl h
end VU
