/-! corners as bits -/
theorem rq_b1 : ∀ q : Fin 64, ∀ b : Fin 6, (nI q.1 >>> (nI b.1 &&& 31) &&& 1) = nI (q.1.testBit b.1).toNat := by decide +kernel
theorem rq_b2 : ∀ q : Fin 64, ∀ b : Fin 6, nI q.1 ||| (1 <<< (nI b.1 &&& 31)) = nI (q.1 ||| 2 ^ b.1) := by decide +kernel
theorem rq_b3 : ∀ q : Fin 64, ∀ b : Fin 6, nI q.1 &&& ((1 <<< (nI b.1 &&& 31)) ^^^ (-1)) = nI (q.1 &&& (63 - 2 ^ b.1)) := by decide +kernel
theorem rq_b4 : ∀ b : Fin 6, ∀ c : Fin 6, (63 - 2 ^ b.1).testBit c.1 = decide (c.1 ≠ b.1) := by decide +kernel
theorem rq_b5 : ∀ q : Fin 64, sp_pop (nI q.1) = nI ((q.1.testBit 0).toNat + (q.1.testBit 1).toNat + (q.1.testBit 2).toNat + (q.1.testBit 3).toNat + (q.1.testBit 4).toNat + (q.1.testBit 5).toNat) := by decide +kernel
theorem rq_bit {q b : Nat} (hq : q < 64) (hb : b < 6) : (nI q >>> (nI b &&& 31) &&& 1) = nI (q.testBit b).toNat := rq_b1 ⟨q, hq⟩ ⟨b, hb⟩
theorem rq_q64 {m q : Nat} (hm : m ≤ 6) (h : q < 2 ^ m) : q < 64 := Nat.lt_of_lt_of_le h (Nat.pow_le_pow_right (n := 2) (by omega) hm)
/-- a corner is a bit -/
theorem rq_cor {m : Nat} {C : Int32 → Int32} {q : Nat → Nat} (hm : m ≤ 6) (hq : ∀ a, a < m → C (nI a) = nI (q a) ∧ q a < 2 ^ m) {a b : Nat} (ha : a < m) (hb : b < 6) : sp_cor C (nI a) (nI b) = (q a).testBit b := by
  unfold sp_cor
  rw [(hq a ha).1, rq_bit (rq_q64 hm (hq a ha).2) hb]
  cases (q a).testBit b <;> rfl
/-- what a corner's setting makes of a street's set -/
def rq_sb (q b : Nat) (v : Int32) : Nat := if v = 0 then q &&& (63 - 2 ^ b) else q ||| 2 ^ b
def rq_sv (x b v : Int32) : Int32 := if v = 0 then x &&& ((1 <<< (b &&& 31)) ^^^ (-1)) else x ||| (1 <<< (b &&& 31))
theorem rq_sv_q {q b : Nat} {v : Int32} (hq : q < 64) (hb : b < 6) : rq_sv (nI q) (nI b) v = nI (rq_sb q b v) := by
  unfold rq_sv rq_sb
  by_cases h : v = 0
  · rw [if_pos h, if_pos h]; exact rq_b3 ⟨q, hq⟩ ⟨b, hb⟩
  · rw [if_neg h, if_neg h]; exact rq_b2 ⟨q, hq⟩ ⟨b, hb⟩
theorem rq_sb_t {q b c : Nat} {v : Int32} (hb : b < 6) (hc : c < 6) : (rq_sb q b v).testBit c = if c = b then decide (¬ v = 0) else q.testBit c := by
  unfold rq_sb
  by_cases h : v = 0
  · rw [if_pos h, Nat.testBit_and, rq_b4 ⟨b, hb⟩ ⟨c, hc⟩]
    by_cases e : c = b
    · simp [e, h]
    · simp [e]
  · rw [if_neg h, Nat.testBit_or, Nat.testBit_two_pow]
    by_cases e : c = b
    · simp [e, h]
    · simp [e, Ne.symm e, show ¬ b = c from fun q => e q.symm]
theorem rq_ext {m x y : Nat} (hx : x < 2 ^ m) (hy : y < 2 ^ m) (h : ∀ c, c < m → x.testBit c = y.testBit c) : x = y := by
  apply Nat.eq_of_testBit_eq
  intro c
  by_cases hc : c < m
  · exact h c hc
  · rw [Nat.testBit_lt_two_pow (Nat.lt_of_lt_of_le hx (Nat.pow_le_pow_right (by omega) (by omega))), Nat.testBit_lt_two_pow (Nat.lt_of_lt_of_le hy (Nat.pow_le_pow_right (by omega) (by omega)))]
theorem rq_sb_lt {m q b : Nat} {v : Int32} (hb : b < m) (hq : q < 2 ^ m) : rq_sb q b v < 2 ^ m := by
  unfold rq_sb
  split
  · exact Nat.lt_of_le_of_lt Nat.and_le_left hq
  · exact Nat.or_lt_two_pow hq (Nat.pow_lt_pow_right (by omega) hb)
section VH
variable {cc m p R : Nat} {A B : mj_I}
/-- the sets behind a setting, at the streets that there are -/
theorem rq_set2 {C : Int32 → Int32} {q : Nat → Nat} {a b : Nat} {v : Int32} (hm : m ≤ 6) (hq : ∀ a, a < m → C (nI a) = nI (q a) ∧ q a < 2 ^ m) (ha : a < m) (hb : b < m) (hab : a ≠ b) {I : mj_I} {k : Nat} (hI : ∀ s, s < m → I k (nI s) = C (nI s)) (t : Nat) (ht : t < m) :
    mj_upI (mj_upI I k (nI a) (rq_sv (I k (nI a)) (nI b) v)) k (nI b) (rq_sv (mj_upI I k (nI a) (rq_sv (I k (nI a)) (nI b) v) k (nI b)) (nI a) v) k (nI t) = nI (if t = b then rq_sb (q b) a v else if t = a then rq_sb (q a) b v else q t) := by
  have nab : ¬ nI b = nI a := fun hh => hab ((rq_nIe (by omega) (by omega)).mp hh).symm
  rw [mj_upI_eq, mj_upI_eq, mj_upI_eq, if_neg nab, hI a ha, hI b hb, hI t ht, (hq a ha).1, (hq b hb).1, (hq t ht).1, rq_sv_q (rq_q64 hm (hq a ha).2) (by omega), rq_sv_q (rq_q64 hm (hq b hb).2) (by omega)]
  by_cases htb : t = b
  · rw [if_pos (by rw [htb]), if_pos htb]
  · rw [if_neg (fun hh => htb ((rq_nIe (by omega) (by omega)).mp hh)), if_neg htb]
    by_cases hta : t = a
    · rw [if_pos (by rw [hta]), if_pos hta]
    · rw [if_neg (fun hh => hta ((rq_nIe (by omega) (by omega)).mp hh)), if_neg hta]
theorem rq_x6set (x y v : Int32) (B : mj_I) : (s_X6_corner x y v B) = if s_X6_isStreet x B = 0 then (-1, B) else if s_X6_isStreet y B = 0 then (-1, B) else if x = y then (-1, B) else
    ((if (B 47 x >>> (y &&& 31) &&& 1 = 1 ∧ v = 1) ∨ (¬ B 47 x >>> (y &&& 31) &&& 1 = 1 ∧ v = 0) then 0 else 1), mj_upI (mj_upI (mj_upI B 42 23 0) 47 x (rq_sv (B 47 x) y v)) 47 y (rq_sv (mj_upI (mj_upI B 42 23 0) 47 x (rq_sv (B 47 x) y v) 47 y) x v)) := by
  unfold s_X6_corner rq_sv
  by_cases h1 : s_X6_isStreet x B = 0
  · rw [if_pos h1, if_pos h1]
  · rw [if_neg h1, if_neg h1]
    by_cases h2 : s_X6_isStreet y B = 0
    · rw [if_pos h2, if_pos h2]
    · rw [if_neg h2, if_neg h2]
      by_cases h3 : x = y
      · rw [if_pos h3, if_pos h3]
      · rw [if_neg h3, if_neg h3]
        by_cases h4 : B 47 x >>> (y &&& 31) &&& 1 = 1
        · by_cases h5 : v = 0
          · have h6 : ¬ (1 : Int32) = v := by rw [h5]; decide
            have h7 : ¬ v = 1 := fun hh => h6 hh.symm
            simp only [h4, h5, h6, h7, if_true, if_false]
            simp
          · by_cases h6 : (1 : Int32) = v
            · subst h6
              simp [h4]
            · have h7 : ¬ v = 1 := fun hh => h6 hh.symm
              simp [h4, h5, h6, h7]
        · by_cases h5 : v = 0
          · subst h5
            simp [h4]
          · have h6 : ¬ (0 : Int32) = v := fun hh => h5 hh.symm
            simp [h4, h5, h6]
theorem rq_x5set (k : Nat) (x y v : Int32) (A : mj_I) : sp_setc A k x y v = mj_upI (mj_upI A k x (rq_sv (A k x) y v)) k y (rq_sv (mj_upI A k x (rq_sv (A k x) y v) k y) x v) := by
  unfold sp_setc rq_sv
  by_cases h : v = 0
  · simp only [h, if_true]
  · simp only [h, if_false]
theorem rq_v_corner (hc : cc = 2 ∨ cc = 10) (h : mj_RL cc m p R A B) (x y v : Int32) (hv : v = 0 ∨ v = 1) : rq_V cc (s_X5_corner cc x y v A) (s_X6_corner x y v B) := by
  have h0 := h
  obtain ⟨⟨hm, _, _⟩, ⟨⟨s5, s6⟩, _, _⟩, _, ⟨hC, q, hq, hsym, hirr⟩, hP, _⟩ := h
  rw [rq_x6set]
  unfold s_X5_corner
  rw [s5, rq_st_eq s6, rq_st_eq s6]
  rcases rq_has (n := m) (by omega) x with ⟨a, ha, rfl, e⟩ | e
  · rw [e, if_pos rfl, if_neg (show ¬ bI true = 0 by decide)]
    rcases rq_has (n := m) (by omega) y with ⟨b, hb, rfl, e2⟩ | e2
    · rw [e2, if_pos rfl, if_neg (show ¬ bI true = 0 by decide)]
      by_cases hab : a = b
      · subst hab
        rw [if_pos rfl, if_pos rfl]; exact rq_Vof h0
      · have nab : ¬ nI a = nI b := fun hh => hab ((rq_nIe (by omega) (by omega)).mp hh)
        rw [if_neg nab, if_neg nab, rq_cor hm hq ha (by omega), (hC a ha).2.2, (hq a ha).1, rq_bit (rq_q64 hm (hq a ha).2) (by omega)]
        let q2 : Nat → Nat := fun t => if t = b then rq_sb (q b) a v else if t = a then rq_sb (q a) b v else q t
        have hB47 : ∀ s, s < m → mj_upI B 42 23 0 47 (nI s) = A (cc + 2) (nI s) := fun s hs => (hC s hs).2.2
        have setB := fun t ht => rq_set2 (v := v) hm hq ha hb hab (I := mj_upI B 42 23 0) (k := 47) hB47 t ht
        have setA := fun t ht => rq_set2 (v := v) hm hq ha hb hab (I := A) (k := cc + 2) (fun s _ => rfl) t ht
        have eB : mj_upI B 42 23 0 47 (nI a) = nI (q a) := (hB47 a ha).trans (hq a ha).1
        rw [eB] at setB
        rw [(hq a ha).1] at setA
        have hlt : ∀ t, t < m → q2 t < 2 ^ m := by
          intro t ht
          show (if t = b then rq_sb (q b) a v else if t = a then rq_sb (q a) b v else q t) < 2 ^ m
          split
          · exact rq_sb_lt ha (hq b hb).2
          · split
            · exact rq_sb_lt hb (hq a ha).2
            · exact (hq t ht).2
        have hbit : ∀ s, s < m → ∀ t, t < m → (q2 s).testBit t = if (s = a ∧ t = b) ∨ (s = b ∧ t = a) then decide (¬ v = 0) else (q s).testBit t := by
          intro s hs t ht
          show (if s = b then rq_sb (q b) a v else if s = a then rq_sb (q a) b v else q s).testBit t = _
          by_cases hsb : s = b
          · rw [if_pos hsb, rq_sb_t (by omega) (by omega)]
            by_cases hta : t = a
            · rw [if_pos hta, if_pos (by omega)]
            · rw [if_neg hta, if_neg (by omega), hsb]
          · rw [if_neg hsb]
            by_cases hsa : s = a
            · rw [if_pos hsa, rq_sb_t (by omega) (by omega)]
              by_cases htb : t = b
              · rw [if_pos htb, if_pos (by omega)]
              · rw [if_neg htb, if_neg (by omega), hsa]
            · rw [if_neg hsa, if_neg (by omega)]
        have hCO2 : ∀ C2 : Int32 → Int32, (∀ t, t < m → C2 (nI t) = nI (q2 t)) → mj_CO m C2 := by
          intro C2 h2
          refine ⟨q2, fun t ht => ⟨h2 t ht, hlt t ht⟩, fun s hs t ht => ?_, fun s hs => ?_⟩
          · rw [hbit s hs t ht, hbit t ht s hs, hsym s hs t ht]
            by_cases g : (s = a ∧ t = b) ∨ (s = b ∧ t = a)
            · rw [if_pos g, if_pos (by omega)]
            · rw [if_neg g, if_neg (by omega)]
          · rw [hbit s hs s hs, if_neg (by omega)]
            exact hirr s hs
        have hBx : ∀ w, (w ≠ 47 ∧ w ≠ 42) → mj_upI (mj_upI (mj_upI B 42 23 0) 47 (nI a) (rq_sv (nI (q a)) (nI b) v)) 47 (nI b) (rq_sv (mj_upI (mj_upI B 42 23 0) 47 (nI a) (rq_sv (nI (q a)) (nI b) v) 47 (nI b)) (nI a) v) w = B w := fun w hw => by
          rw [mj_upI_ne hw.1, mj_upI_ne hw.1, mj_upI_ne hw.2]
        have hB42 : ∀ w, mj_upI (mj_upI (mj_upI B 42 23 0) 47 (nI a) (rq_sv (nI (q a)) (nI b) v)) 47 (nI b) (rq_sv (mj_upI (mj_upI B 42 23 0) 47 (nI a) (rq_sv (nI (q a)) (nI b) v) 47 (nI b)) (nI a) v) 42 w = if w = 23 then 0 else B 42 w := fun w => by
          rw [mj_upI_ne (by decide), mj_upI_ne (by decide), mj_upI_eq]
        generalize mj_upI (mj_upI (mj_upI B 42 23 0) 47 (nI a) (rq_sv (nI (q a)) (nI b) v)) 47 (nI b) (rq_sv (mj_upI (mj_upI B 42 23 0) 47 (nI a) (rq_sv (nI (q a)) (nI b) v) 47 (nI b)) (nI a) v) = B2 at setB hBx hB42 ⊢
        have hPs : ∀ A2 : mj_I, A2 (cc + 3) = A (cc + 3) → (∀ t, t < 3 → A2 (cc + 5 + t) = A (cc + 5 + t)) → mj_rP cc p A2 B2 := by
          intro A2 e3 e5 s hs
          rw [hBx 48 (by decide), hBx 49 (by decide), e3, e5 s (by have := h0.1.2.1; omega)]
          exact hP s hs
        have same : (q a).testBit b = decide (¬ v = 0) → ∀ t, t < m → q2 t = q t := by
          intro hs t ht
          refine rq_ext (hlt t ht) (hq t ht).2 fun c hc2 => ?_
          rw [hbit t ht c hc2]
          by_cases g : (t = a ∧ c = b) ∨ (t = b ∧ c = a)
          · rw [if_pos g, ← hs]
            rcases g with ⟨rfl, rfl⟩ | ⟨rfl, rfl⟩
            · rfl
            · exact hsym _ ha _ hb
          · rw [if_neg g]
        have RLs : (q a).testBit b = decide (¬ v = 0) → mj_RL cc m p R A B2 := by
          intro hs
          refine rq_RL_c hc h0 (fun _ _ => rfl) ⟨rfl, rfl⟩ rfl rfl (fun w hw => hBx w (by omega)) (fun w hw => by rw [hB42, if_neg hw]) (by rw [hB42, if_pos rfl]) ⟨fun t ht => ?_, hCO2 _ (fun t ht => by rw [same hs t ht]; exact (hq t ht).1)⟩ (hPs A rfl (fun _ _ => rfl))
          rw [hBx 46 (by decide), setB t ht]
          refine ⟨(hC t ht).1, (hC t ht).2.1, ?_⟩
          show nI (q2 t) = _
          rw [same hs t ht, (hq t ht).1]
        have RLn : mj_RL cc m p R (sp_setc A (cc + 2) (nI a) (nI b) v) B2 := by
          have eS : sp_setc A (cc + 2) (nI a) (nI b) v = mj_upI (mj_upI A (cc + 2) (nI a) (rq_sv (nI (q a)) (nI b) v)) (cc + 2) (nI b) (rq_sv (mj_upI A (cc + 2) (nI a) (rq_sv (nI (q a)) (nI b) v) (cc + 2) (nI b)) (nI a) v) := by
            rw [rq_x5set, (hq a ha).1]
          have hA2 : ∀ w, w ≠ cc + 2 → sp_setc A (cc + 2) (nI a) (nI b) v w = A w := fun w hw => mj_setc_ne hw
          rw [← eS] at setA
          refine rq_RL_c hc h0 (fun w hw => hA2 w (by omega)) ⟨by rw [hA2 cc (by omega)], by rw [hA2 cc (by omega)]⟩ (hA2 1 (by omega)) (hA2 22 (by omega)) (fun w hw => hBx w (by omega)) (fun w hw => by rw [hB42, if_neg hw]) (by rw [hB42, if_pos rfl]) ⟨fun t ht => ?_, hCO2 _ (fun t ht => setA t ht)⟩ (hPs _ (hA2 _ (by omega)) (fun t _ => hA2 _ (by omega)))
          rw [hBx 46 (by decide), setB t ht, setA t ht, hA2 (cc + 1) (by omega)]
          exact ⟨(hC t ht).1, (hC t ht).2.1, rfl⟩
        rcases hv with rfl | rfl
        · cases hbt : (q a).testBit b with
          | false =>
            rw [if_pos (show bI false = 0 from rfl), if_pos (Or.inr ⟨by decide, rfl⟩)]
            exact rq_Vi rfl (RLs (by rw [hbt]; rfl))
          | true =>
            rw [if_neg (show ¬ bI true = 0 by decide), if_neg (by decide)]
            exact rq_Vi rfl RLn
        · cases hbt : (q a).testBit b with
          | false =>
            rw [if_neg (show ¬ bI false = 1 by decide), if_neg (by decide)]
            exact rq_Vi rfl RLn
          | true =>
            rw [if_pos (show bI true = 1 from rfl), if_pos (Or.inl ⟨by decide, rfl⟩)]
            exact rq_Vi rfl (RLs (by rw [hbt]; rfl))
    · rw [e2, if_neg (show ¬ false = true by decide), if_pos (show bI false = 0 by decide)]
      exact rq_Vof h0
  · rw [e, if_neg (show ¬ false = true by decide), if_pos (show bI false = 0 by decide)]
    exact rq_Vof h0
end VH
