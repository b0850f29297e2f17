/-! small calls that change something -/
theorem rq_RL_c {cc m p R : Nat} {A A' B B' : mj_I} (hc : cc = 2 ∨ cc = 10) (h : mj_RL cc m p R A B) (hA : ∀ x, 32 ≤ x ∧ x ≤ 41 → A' x = A x) (hA0 : A' cc 0 = A cc 0 ∧ A' cc 1 = A cc 1) (hA1 : A' 1 = A 1) (hE : A' 22 = A 22)
    (hB : ∀ x, (43 ≤ x ∧ x ≤ 45) ∨ x = 59 ∨ x = 60 → B' x = B x) (hB1 : ∀ y, y ≠ 23 → B' 42 y = B 42 y) (h23 : B' 42 23 = 0) (hC : mj_rC cc m A' B') (hP : mj_rP cc p A' B') : mj_RL cc m p R A' B' := by
  obtain ⟨a, b, c, d, e, f, g, k, q⟩ := h
  refine ⟨a, ?_, ?_, hC, hP, ?_, ?_, Or.inl h23, ?_⟩
  · unfold mj_rS at b ⊢
    rw [hA0.1, hA0.2, hA1, hB1 5 (by decide), hB1 6 (by decide), hB1 25 (by decide)]; exact b
  · unfold mj_rT at c ⊢
    rw [hA1, hB1 1 (by decide), hB1 0 (by decide)]; exact c
  · unfold mj_rD at f ⊢
    rw [hB 59 (by omega), hB 60 (by omega), hA 32 (by omega), hA 33 (by omega)]; exact f
  · intro j hj
    unfold mj_rH1
    rw [hB 43 (by omega), hB 44 (by omega), hB 45 (by omega), hA (34 + 2 * j) (by omega), hA (34 + 2 * j + 1) (by omega)]
    exact g j hj
  · unfold mj_rE at q ⊢
    rw [hE]; exact q
theorem rq_Vi {α : Type} {cc m p R : Nat} {x y : α} {A' B' : mj_I} (e : x = y) (h : mj_RL cc m p R A' B') : rq_V cc (x, A') (y, B') := ⟨e, m, p, R, h⟩
theorem rq_RL_d {cc m p R R' : Nat} {A A' B B' : mj_I} (hc : cc = 2 ∨ cc = 10) (h : mj_RL cc m p R A B) (hA : ∀ x, (2 ≤ x ∧ x ≤ 17) ∨ (34 ≤ x ∧ x ≤ 41) → A' x = A x) (h12 : A' 1 12 = A 1 12) (h13 : A' 1 13 = A 1 13) (hE : A' 22 = A 22) (hB : ∀ x, (43 ≤ x ∧ x ≤ 49) ∨ x = 57 → B' x = B x) (hB1 : ∀ y, y ≠ 25 → B' 42 y = B 42 y) (hR' : R' ≤ 8) (r5 : A' 1 11 = nI R') (r6 : B' 42 25 = nI R') (hD : mj_rD p R' A' B') : mj_RL cc m p R' A' B' := by
  obtain ⟨a, b, c, d, e, f, g, k, q⟩ := h
  refine ⟨⟨a.1, a.2.1, hR'⟩, ?_, ?_, ?_, ?_, hD, ?_, ?_, ?_⟩
  · unfold mj_rS at b ⊢
    rw [hA cc (by omega), hB1 5 (by decide), hB1 6 (by decide)]; exact ⟨b.1, b.2.1, r5, r6⟩
  · unfold mj_rT at c ⊢
    rw [h12, h13, hB1 1 (by decide), hB1 0 (by decide)]; exact c
  · unfold mj_rC at d ⊢
    rw [hB 46 (by omega), hB 47 (by omega), hA (cc + 1) (by omega), hA (cc + 2) (by omega)]; exact d
  · intro s hs
    rw [hB 48 (by omega), hB 49 (by omega), hA (cc + 3) (by omega), hA (cc + 5 + s) (by have := a.2.1; omega)]
    exact e s hs
  · intro j hj
    unfold mj_rH1
    rw [hB 43 (by omega), hB 44 (by omega), hB 45 (by omega), hA (34 + 2 * j) (by omega), hA (34 + 2 * j + 1) (by omega)]
    exact g j hj
  · unfold mj_rF at k ⊢
    rw [hB1 23 (by decide)]
    rcases k with k | ⟨k1, k2⟩
    · exact Or.inl k
    · exact Or.inr ⟨k1, mj_TO_eq ⟨hB1 5 (by decide), hB1 6 (by decide), hB 46 (by omega), hB 47 (by omega), hB 48 (by omega), hB 49 (by omega)⟩ (hB 57 (by omega)) k2⟩
  · unfold mj_rE at q ⊢
    rw [hE]; exact q
theorem rq_nIe {a b : Nat} (ha : a < 1000) (hb : b < 1000) : nI a = nI b ↔ a = b := nI_eq (by omega) (by omega)
section VF
variable {cc m p R : Nat} {A B : mj_I}
theorem rq_v_let (hc : cc = 2 ∨ cc = 10) (h : mj_RL cc m p R A B) (s v : Int32) : rq_V cc (s_X5_let cc s v A) (s_X6_let s v B) := by
  have h0 := h
  obtain ⟨⟨hm, _, _⟩, ⟨⟨s5, s6⟩, _, _⟩, _, ⟨hC, hQ⟩, hP, _⟩ := h
  unfold s_X5_let s_X6_let
  rw [s5, rq_st_eq s6]
  rcases rq_has (n := m) (by omega) s with ⟨j, hj, rfl, e⟩ | e
  · rw [e, if_pos rfl, if_neg (show ¬ bI true = 0 by decide)]
    unfold s_X6_isSeason
    rw [show s_X6_within v 0 3 B = (if v < 0 then 0 else if v < nI (3 + 1) then 1 else 0) from rq_wi_eq (n := 3) (by omega) B]
    by_cases v0 : v < 0
    · rw [if_pos v0, if_pos v0, if_pos rfl]; exact rq_Vof h0
    · rw [if_neg v0, if_neg v0]
      by_cases v4 : v < 4
      · rw [if_pos v4, if_pos (show v < nI (3 + 1) from v4), if_neg (show ¬ (1 : Int32) = 0 by decide)]
        refine ⟨(hC j hj).1.symm, m, p, R, ?_⟩
        have hv : mj_in v 4 := mj_mkin ⟨mj_i0 v0, by have := mj_iL v4; have e4 : (4 : Int32).toInt = 4 := (by decide); omega⟩
        refine rq_RL_c hc h0 (fun x hx => mj_upI_ne (by omega)) ⟨by show mj_upI A (cc + 1) _ _ cc 0 = _; rw [mj_upI_ne (by omega)], by show mj_upI A (cc + 1) _ _ cc 1 = _; rw [mj_upI_ne (by omega)]⟩ (mj_upI_ne (by omega)) (mj_upI_ne (by omega)) (fun x hx => ?_) (fun y hy => ?_) ?_ ⟨fun t ht => ?_, ?_⟩ ?_
        · show mj_upI (mj_upI B 46 _ _) 42 23 0 x = _
          rw [mj_upI_ne (by omega), mj_upI_ne (by omega)]
        · show mj_upI (mj_upI B 46 _ _) 42 23 0 42 y = _
          rw [mj_upI_eq, if_neg hy, mj_upI_ne (by decide)]
        · rfl
        · show mj_upI (mj_upI B 46 (nI j) v) 42 23 0 46 (nI t) = mj_upI A (cc + 1) (nI j) v (cc + 1) (nI t) ∧ mj_in (mj_upI A (cc + 1) (nI j) v (cc + 1) (nI t)) 4 ∧ mj_upI (mj_upI B 46 (nI j) v) 42 23 0 47 (nI t) = mj_upI A (cc + 1) (nI j) v (cc + 2) (nI t)
          rw [mj_upI_ne (show (46 : Nat) ≠ 42 by decide), mj_upI_eq, mj_upI_eq, mj_upI_ne (show (47 : Nat) ≠ 42 by decide), mj_upI_ne (show (47 : Nat) ≠ 46 by decide), mj_upI_ne (show cc + 2 ≠ cc + 1 by omega)]
          by_cases htj : nI t = nI j
          · rw [if_pos htj, if_pos htj]; exact ⟨rfl, hv, (hC t ht).2.2⟩
          · rw [if_neg htj, if_neg htj]; exact hC t ht
        · show mj_CO m (mj_upI A (cc + 1) (nI j) v (cc + 2))
          rw [mj_upI_ne (show cc + 2 ≠ cc + 1 by omega)]; exact hQ
        · intro q hq
          show mj_upI (mj_upI B 46 (nI j) v) 42 23 0 48 (nI q) = mj_upI A (cc + 1) (nI j) v (cc + 3) (nI q) ∧ mj_in (mj_upI A (cc + 1) (nI j) v (cc + 3) (nI q)) 3 ∧ ∀ t, t < 3 → mj_upI (mj_upI B 46 (nI j) v) 42 23 0 49 (nI (3 * q + t)) = mj_upI A (cc + 1) (nI j) v (cc + 5 + q) (nI t) ∧ mj_in (mj_upI A (cc + 1) (nI j) v (cc + 5 + q) (nI t)) 4
          rw [mj_upI_ne (show (48 : Nat) ≠ 42 by decide), mj_upI_ne (show (48 : Nat) ≠ 46 by decide), mj_upI_ne (show (49 : Nat) ≠ 42 by decide), mj_upI_ne (show (49 : Nat) ≠ 46 by decide), mj_upI_ne (show cc + 3 ≠ cc + 1 by omega), mj_upI_ne (show cc + 5 + q ≠ cc + 1 by omega)]
          exact hP q hq
      · rw [if_neg v4, if_neg (show ¬ v < nI (3 + 1) from v4), if_pos rfl]; exact rq_Vof h0
  · rw [e, if_neg (by decide), if_pos (show bI false = 0 by decide)]
    exact rq_Vof h0
theorem rq_v_back (hc : cc = 2 ∨ cc = 10) (h : mj_RL cc m p R A B) (k : Int32) : rq_V cc (s_X5_back k A) (s_X6_back k B) := by
  have h0 := h
  obtain ⟨⟨hm, hp, hR⟩, ⟨s5, p5, ⟨r5, r6⟩⟩, hT, hC, hP, hD, hH, hF, hE⟩ := h
  unfold s_X5_back s_X6_back s_X6_within
  rw [r5, r6]
  by_cases k0 : k < 0
  · rw [if_pos k0, if_pos k0, if_pos rfl]; exact rq_Vof h0
  · rw [if_neg k0, if_neg k0]
    by_cases kR : nI R < k
    · rw [if_pos kR, if_pos kR, if_pos rfl]; exact rq_Vof h0
    · rw [if_neg kR, if_neg kR, if_neg (show ¬ (1 : Int32) = 0 by decide)]
      have a := mj_i0 k0
      have b := mj_iN kR
      rw [nI_toInt (by omega)] at b
      obtain ⟨t, ht, rfl⟩ : ∃ t : Nat, t ≤ R ∧ k = nI t := ⟨k.toInt.toNat, by omega, mj_ofI (by rw [nI_toInt (by omega)]; omega)⟩
      have e : nI R - nI t = nI (R - t) := mj_ofI (by rw [mj_isub (by rw [nI_toInt (by omega), nI_toInt (by omega)]; omega) (by rw [nI_toInt (by omega), nI_toInt (by omega)]; omega), nI_toInt (by omega), nI_toInt (by omega), nI_toInt (by omega)]; omega)
      rw [e]
      refine rq_Vi rfl (rq_RL_d (R' := R - t) hc h0 (fun x hx => mj_upI_ne (by omega)) (by rw [mj_upI_eq, if_neg (by decide)]) (by rw [mj_upI_eq, if_neg (by decide)]) (mj_upI_ne (by decide)) (fun x hx => mj_upI_ne (by omega)) (fun y hy => by rw [mj_upI_eq, if_neg hy]) (by omega) (by rw [mj_upI_eq, if_pos rfl]) (by rw [mj_upI_eq, if_pos rfl]) ?_)
      intro j hj
      rw [mj_upI_ne (show (59 : Nat) ≠ 42 by decide), mj_upI_ne (show (60 : Nat) ≠ 42 by decide), mj_upI_ne (show (32 : Nat) ≠ 1 by decide), mj_upI_ne (show (33 : Nat) ≠ 1 by decide)]
      exact hD j (by omega)
theorem rq_v_reading (hc : cc = 2 ∨ cc = 10) (h : mj_RL cc m p R A B) (q e : Int32) : rq_V cc (s_X5_reading cc q e A) (s_X6_reading q e B) := by
  have h0 := h
  obtain ⟨⟨hm, hp, hR⟩, ⟨s5, ⟨p5, p6⟩, ⟨r5, r6⟩⟩, hT, hC, hP, hD, hH, hF, hE⟩ := h
  have key : R < 8 → ∀ t, t < p → q = nI t → rq_V cc ((A 1 11 + 1 - 1, mj_upI (mj_upI (mj_upI A 32 (A 1 11) q) 33 (A 1 11) e) 1 11 (A 1 11 + 1)) : Int32 × mj_I) (B 42 25 + 1 - 1, mj_upI (mj_upI (mj_upI B 59 (B 42 25) q) 60 (B 42 25) e) 42 25 (B 42 25 + 1)) := by
    intro hR8 t ht hq
    rw [r5, r6, nI_1]
    refine rq_Vi rfl (rq_RL_d (R' := R + 1) hc h0 (fun x hx => by rw [mj_upI_ne (by omega), mj_upI_ne (by omega), mj_upI_ne (by omega)]) (by rw [mj_upI_eq, if_neg (by decide), mj_upI_ne (by decide), mj_upI_ne (by decide)]) (by rw [mj_upI_eq, if_neg (by decide), mj_upI_ne (by decide), mj_upI_ne (by decide)]) (by rw [mj_upI_ne (by decide), mj_upI_ne (by decide), mj_upI_ne (by decide)]) (fun x hx => by rw [mj_upI_ne (by omega), mj_upI_ne (by omega), mj_upI_ne (by omega)]) (fun y hy => by rw [mj_upI_eq, if_neg hy, mj_upI_ne (by decide), mj_upI_ne (by decide)]) (by omega) (by rw [mj_upI_eq, if_pos rfl]) (by rw [mj_upI_eq, if_pos rfl]) ?_)
    intro j hj
    rw [mj_upI_ne (show (59 : Nat) ≠ 42 by decide), mj_upI_ne (show (59 : Nat) ≠ 60 by decide), mj_upI_ne (show (60 : Nat) ≠ 42 by decide), mj_upI_ne (show (32 : Nat) ≠ 1 by decide), mj_upI_ne (show (32 : Nat) ≠ 33 by decide), mj_upI_ne (show (33 : Nat) ≠ 1 by decide), mj_upI_eq, mj_upI_eq, mj_upI_eq, mj_upI_eq]
    by_cases hjR : j = R
    · subst hjR
      rw [if_pos rfl, if_pos rfl, if_pos rfl, if_pos rfl, hq]
      exact ⟨rfl, rfl, mj_in_nI ht (by omega)⟩
    · have hn : ¬ nI j = nI R := fun hh => hjR ((rq_nIe (by omega) (by omega)).mp hh)
      rw [if_neg hn, if_neg hn, if_neg hn, if_neg hn, mj_upI_ne (show (60 : Nat) ≠ 59 by decide), mj_upI_ne (show (33 : Nat) ≠ 32 by decide)]
      exact hD j (by omega)
  have hlt : (A 1 11 < 8) ↔ R < 8 := by rw [r5]; exact (nI_ltI (a := R) (b := 8) (by omega) (by omega))
  have heq : (B 42 25 = 8) ↔ R = 8 := by rw [r6]; exact (rq_nIe (a := R) (b := 8) (by omega) (by omega))
  have fullc : rq_V cc (if A 1 11 < 8 then (A 1 11 + 1 - 1, mj_upI (mj_upI (mj_upI A 32 (A 1 11) q) 33 (A 1 11) e) 1 11 (A 1 11 + 1)) else (-4, A)) (if B 42 25 = 8 then ((-4 : Int32), B) else (B 42 25 + 1 - 1, mj_upI (mj_upI (mj_upI B 59 (B 42 25) q) 60 (B 42 25) e) 42 25 (B 42 25 + 1))) ∨ ¬ ∃ t, t < p ∧ q = nI t := by
    by_cases hq : ∃ t, t < p ∧ q = nI t
    · obtain ⟨t, ht, hq⟩ := hq
      left
      by_cases h8 : R < 8
      · rw [if_pos (hlt.mpr h8), if_neg (fun h9 => by have := heq.mp h9; omega)]
        exact key h8 t ht hq
      · rw [if_neg (fun h9 => h8 (hlt.mp h9)), if_pos (heq.mpr (by omega))]
        exact rq_Vof h0
    · exact Or.inr hq
  unfold s_X5_reading s_X6_reading
  rw [p5, rq_pl_eq p6]
  rcases rq_has (n := p) (by omega) q with ⟨t, ht, hq, eh⟩ | eh
  · rw [eh, if_pos rfl, if_neg (show ¬ bI true = 0 by decide)]
    rcases fullc with fullc | fullc
    · by_cases e9 : e = -9
      · rw [if_pos e9, if_pos e9]; exact fullc
      · rw [if_neg e9, if_neg e9, show s_X6_within e 0 23 B = (if e < 0 then 0 else if e < nI (23 + 1) then 1 else 0) from rq_wi_eq (n := 23) (by omega) B]
        by_cases e0 : e < 0
        · rw [if_pos e0, if_pos e0, if_pos rfl]; exact rq_Vof h0
        · rw [if_neg e0, if_neg e0]
          by_cases e24 : e < 24
          · rw [if_pos e24, if_pos (show e < nI (23 + 1) from e24), if_neg (show ¬ (1 : Int32) = 0 by decide)]; exact fullc
          · rw [if_neg e24, if_neg (show ¬ e < nI (23 + 1) from e24), if_pos rfl]; exact rq_Vof h0
    · exact absurd ⟨t, ht, hq⟩ fullc
  · rw [eh, if_neg (by decide), if_pos (show bI false = 0 by decide)]
    exact rq_Vof h0
theorem rq_v_as (hc : cc = 2 ∨ cc = 10) (h : mj_RL cc m p R A B) (q k : Int32) : rq_V cc (s_X5_as cc q k A) (s_X6_as q k B) := by
  have h0 := h
  obtain ⟨⟨_, hp3, _⟩, ⟨_, ⟨p5, p6⟩, _⟩, _, _, hP, _⟩ := h
  unfold s_X5_as s_X6_as
  rw [p5, rq_pl_eq (n := nI p) (B := mj_upI B 42 0 0) (by rw [mj_upI_eq, if_neg (by decide)]; exact p6)]
  rcases rq_has (n := p) (by omega) q with ⟨j, hj, rfl, e⟩ | e
  · rw [e, if_pos rfl, if_neg (show ¬ bI true = 0 by decide), show s_X6_within k 0 2 (mj_upI B 42 0 0) = (if k < 0 then 0 else if k < nI (2 + 1) then 1 else 0) from rq_wi_eq (n := 2) (by omega) _]
    rw [(hP j hj).1]
    by_cases k0 : k < 0
    · rw [if_pos k0, if_pos k0, if_pos rfl]; exact rq_Vi rfl (rq_RL_0 hc h0)
    · rw [if_neg k0, if_neg k0]
      by_cases k3 : k < 3
      · rw [if_pos k3, if_pos (show k < nI (2 + 1) from k3), if_neg (show ¬ (1 : Int32) = 0 by decide)]
        by_cases kk : A (cc + 3) (nI j) < k
        · rw [if_pos kk, if_pos kk]; exact rq_Vi rfl (rq_RL_1 hc h0)
        · rw [if_neg kk, if_neg kk]; exact rq_Vi rfl (rq_RL_0 hc h0)
      · rw [if_neg k3, if_neg (show ¬ k < nI (2 + 1) from k3), if_pos rfl]; exact rq_Vi rfl (rq_RL_0 hc h0)
  · rw [e, if_neg (by decide), if_pos (show bI false = 0 by decide)]
    exact rq_Vi rfl (rq_RL_0 hc h0)
/-- what is left in the trace -/
theorem rq_RL_t {v : Int32} (hc : cc = 2 ∨ cc = 10) (h : mj_RL cc m p R A B) : mj_RL cc m p R (mj_upI A 1 12 v) (mj_upI B 42 1 v) := by
  obtain ⟨a, b, c, d, e, f, g, k, q⟩ := h
  refine ⟨a, ?_, ?_, ?_, ?_, ?_, ?_, ?_, ?_⟩
  · unfold mj_rS at b ⊢
    rw [mj_upI_ne (show cc ≠ 1 by omega), mj_upI_eq, mj_upI_eq, mj_upI_eq, mj_upI_eq, if_neg (by decide), if_neg (by decide), if_neg (by decide), if_neg (by decide)]; exact b
  · unfold mj_rT at c ⊢
    exact ⟨rfl, c.2⟩
  · unfold mj_rC at d ⊢
    rw [mj_upI_ne (show (46 : Nat) ≠ 42 by decide), mj_upI_ne (show (47 : Nat) ≠ 42 by decide), mj_upI_ne (show cc + 1 ≠ 1 by omega), mj_upI_ne (show cc + 2 ≠ 1 by omega)]; exact d
  · intro s hs
    rw [mj_upI_ne (show (48 : Nat) ≠ 42 by decide), mj_upI_ne (show (49 : Nat) ≠ 42 by decide), mj_upI_ne (show cc + 3 ≠ 1 by omega), mj_upI_ne (show cc + 5 + s ≠ 1 by omega)]; exact e s hs
  · unfold mj_rD at f ⊢
    rw [mj_upI_ne (show (59 : Nat) ≠ 42 by decide), mj_upI_ne (show (60 : Nat) ≠ 42 by decide), mj_upI_ne (show (32 : Nat) ≠ 1 by decide), mj_upI_ne (show (33 : Nat) ≠ 1 by decide)]; exact f
  · intro j hj
    unfold mj_rH1
    rw [mj_upI_ne (show (43 : Nat) ≠ 42 by decide), mj_upI_ne (show (44 : Nat) ≠ 42 by decide), mj_upI_ne (show (45 : Nat) ≠ 42 by decide), mj_upI_ne (show 34 + 2 * j ≠ 1 by omega), mj_upI_ne (show 34 + 2 * j + 1 ≠ 1 by omega)]
    exact g j hj
  · unfold mj_rF at k ⊢
    rw [mj_upI_eq, if_neg (by decide)]
    rcases k with k | ⟨k1, k2⟩
    · exact Or.inl k
    · exact Or.inr ⟨k1, mj_TO_eq (B := B) ⟨rfl, rfl, rfl, rfl, rfl, rfl⟩ rfl k2⟩
  · unfold mj_rE at q ⊢
    rw [mj_upI_ne (by decide)]; exact q
theorem rq_RL_l (v : Int32) (hc : cc = 2 ∨ cc = 10) (h : mj_RL cc m p R A B) : mj_RL cc m p R (s_X5_leave v A) (s_X6_begins v B) := by
  have e := h.2.2.1.1
  unfold s_X5_leave s_X6_begins
  rw [e]
  exact rq_RL_t hc h
theorem rq_lv_p {I : mj_I} {v : Int32} {x : Nat} (hx : x ≠ 1) : s_X5_leave v I x = I x := mj_upI_ne hx
theorem rq_v_label (hc : cc = 2 ∨ cc = 10) (h : mj_RL cc m p R A B) (q : Int32) : rq_V cc (s_X5_label cc q A) (s_X6_label q B) := by
  have h0 := h
  obtain ⟨⟨_, hp3, _⟩, ⟨_, ⟨p5, p6⟩, _⟩, _, _, hP, _⟩ := h
  unfold s_X5_label s_X6_label
  rw [p5, rq_pl_eq p6]
  rcases rq_has (n := p) (by omega) q with ⟨j, hj, rfl, e⟩ | e
  · rw [e, if_pos rfl, if_neg (show ¬ bI true = 0 by decide)]
    have e5 : ∀ v, s_X6_begins v B 48 (nI j) = A (cc + 3) (nI j) := fun v => (hP j hj).1
    rw [(hP j hj).1, e5, e5]
    by_cases k : A (cc + 3) (nI j) = 2
    · rw [if_pos k, if_pos k, if_pos k]
      exact rq_Vi rfl (rq_RL_l 5 hc h0)
    · rw [if_neg k, if_neg k, if_neg k]
      exact rq_Vi rfl (rq_RL_l 4 hc h0)
  · rw [e, if_neg (by decide), if_pos (show bI false = 0 by decide)]
    exact rq_Vof h0
theorem rq_v_tell (hc : cc = 2 ∨ cc = 10) (h : mj_RL cc m p R A B) (q : Int32) : rq_V cc (s_X5_tell cc q A) (s_X6_tell q B) := by
  have h0 := h
  obtain ⟨⟨_, hp3, _⟩, ⟨_, ⟨p5, p6⟩, _⟩, _, _, hP, _⟩ := h
  unfold s_X5_tell s_X6_tell
  rw [p5, rq_pl_eq p6]
  rcases rq_has (n := p) (by omega) q with ⟨j, hj, rfl, e⟩ | e
  · rw [e, if_pos rfl, if_neg (show ¬ bI true = 0 by decide), (hP j hj).1]
    have e3 : (3 : Int32) * nI j = nI (3 * j + 0) := by
      have e3 : (3 : Int32).toInt = 3 := by decide
      refine mj_ofI ?_
      rw [mj_imul (by rw [e3, nI_toInt (by omega)]; omega) (by rw [e3, nI_toInt (by omega)]; omega), e3, nI_toInt (by omega), nI_toInt (by omega)]
      omega
    have eW : B 49 (3 * nI j) = A (cc + 4 + 1 + (nI j).toNatClampNeg) 0 := by
      rw [e3, ((hP j hj).2.2 0 (by omega)).1, mj_tnm (show j < 2147483648 by omega)]
      rfl
    have t0 : ∀ I : mj_I, (∀ x, x ≠ 1 → I x = A x) → (s_X5_tellPlant cc (nI j) I).1 = B 49 (3 * nI j) := by
      intro I hI
      show s_X5_leave 1 I (cc + 4 + 1 + (nI j).toNatClampNeg) 0 = _
      rw [rq_lv_p (by omega), hI _ (by omega), eW]
    have f : ∀ v (I : mj_I), (∀ x, x ≠ 1 → I x = A x) → ∀ x, x ≠ 1 → s_X5_leave v I x = A x := fun v I hI x hx => (rq_lv_p hx).trans (hI x hx)
    have fA : ∀ x, x ≠ 1 → A x = A x := fun _ _ => rfl
    by_cases k2 : A (cc + 3) (nI j) = 2
    · rw [if_pos k2, if_neg (by rw [k2]; decide), if_pos k2]
      refine rq_Vi ?_ (rq_RL_l 1 hc (rq_RL_l 1 hc (rq_RL_l 2 hc (rq_RL_l 3 hc h0))))
      show (s_X5_tellPlant cc (nI j) (s_X5_leave 2 (s_X5_leave 3 A))).1 + 100 + (s_X5_tellPlant cc (nI j) (s_X5_leave 1 (s_X5_leave 2 (s_X5_leave 3 A)))).1 = 2 * B 49 (3 * nI j) + 100
      rw [t0 _ (f 2 _ (f 3 _ fA)), t0 _ (f 1 _ (f 2 _ (f 3 _ fA)))]
      generalize B 49 (3 * nI j) = w
      refine Int32.toInt_inj.mp ?_
      rw [Int32.toInt_add, Int32.toInt_add, Int32.toInt_add, Int32.toInt_mul]
      rw [Int.bmod_add_bmod, Int.bmod_add_bmod]
      have e2 : (2 : Int32).toInt = 2 := by decide
      rw [e2]
      congr 1
      omega
    · rw [if_neg k2]
      by_cases k1 : A (cc + 3) (nI j) = 1
      · rw [if_pos k1, if_pos k1]
        refine rq_Vi ?_ (rq_RL_l 1 hc (rq_RL_l 2 hc h0))
        show (s_X5_tellPlant cc (nI j) (s_X5_leave 2 A)).1 + 100 = _
        rw [t0 _ (f 2 _ fA)]
      · rw [if_neg k1, if_neg k1, if_neg k2]
        refine rq_Vi ?_ (rq_RL_l 1 hc h0)
        exact t0 _ fA
  · rw [e, if_neg (by decide), if_pos (show bI false = 0 by decide)]
    exact rq_Vof h0
end VF
