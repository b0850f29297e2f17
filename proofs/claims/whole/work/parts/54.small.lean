/-! the small calls: the class answers as the reference -/
theorem rq_st_eq {n s : Int32} {B : mj_I} (h : B 42 5 = n) : s_X6_isStreet s B = bI (sp_has n s) := by
  unfold s_X6_isStreet sp_has
  rw [h]
  by_cases h1 : s < 0
  · rw [if_pos h1, if_pos h1]; rfl
  · rw [if_neg h1, if_neg h1]
    by_cases h2 : s < n
    · rw [if_pos h2, if_pos h2]; rfl
    · rw [if_neg h2, if_neg h2]; rfl
theorem rq_pl_eq {n s : Int32} {B : mj_I} (h : B 42 6 = n) : s_X6_isPlant s B = bI (sp_has n s) := by
  unfold s_X6_isPlant sp_has
  rw [h]
  by_cases h1 : s < 0
  · rw [if_pos h1, if_pos h1]; rfl
  · rw [if_neg h1, if_neg h1]
    by_cases h2 : s < n
    · rw [if_pos h2, if_pos h2]; rfl
    · rw [if_neg h2, if_neg h2]; rfl
theorem rq_ltn {k : Int32} {n : Nat} (hn : n < 1000) : (nI n < k) ↔ ¬ k < nI (n + 1) := by
  have e1 : (nI n).toInt = (n : Int) := nI_toInt (by omega)
  have e2 : (nI (n + 1)).toInt = ((n + 1 : Nat) : Int) := nI_toInt (by omega)
  rw [Int32.lt_iff_toInt_lt, Int32.lt_iff_toInt_lt, e1, e2]
  omega
theorem rq_wi_eq {k : Int32} {n : Nat} (hn : n < 1000) (B : mj_I) : s_X6_within k 0 (nI n) B = if k < 0 then 0 else if k < nI (n + 1) then 1 else 0 := by
  unfold s_X6_within
  by_cases h1 : k < 0
  · rw [if_pos h1, if_pos h1]
  · rw [if_neg h1, if_neg h1]
    by_cases h2 : k < nI (n + 1)
    · rw [if_pos h2, if_neg (fun h => (rq_ltn hn).mp h h2)]
    · rw [if_neg h2, if_pos ((rq_ltn hn).mpr h2)]
theorem rq_sh_eq {k : Int32} (A B : mj_I) : s_X6_isSheet k B = s_X5_isSheet k A := rq_wi_eq (n := 3) (by omega) B
theorem rq_so_eq {k : Int32} (A B : mj_I) : s_X6_isSort k B = s_X5_isLane k A := rq_wi_eq (n := 2) (by omega) B
/-- a number that there is, or none -/
theorem rq_has {n : Nat} (hn : n < 1000) (s : Int32) : (∃ j, j < n ∧ s = nI j ∧ sp_has (nI n) s = true) ∨ sp_has (nI n) s = false := by
  cases e : sp_has (nI n) s with
  | false => exact Or.inr rfl
  | true =>
    have a := sp_has_spec e
    rw [nI_toInt (by omega)] at a
    exact Or.inl ⟨s.toInt.toNat, by omega, mj_ofI (by rw [nI_toInt (by omega)]; omega), rfl⟩
theorem rq_sheet {k : Int32} {A : mj_I} : (∃ j, j < 4 ∧ k = nI j ∧ s_X5_isSheet k A = 1) ∨ s_X5_isSheet k A = 0 := by
  by_cases h : s_X5_isSheet k A = 0
  · exact Or.inr h
  · rcases mj_sh4 h with rfl | rfl | rfl | rfl
    · exact Or.inl ⟨0, by omega, rfl, rfl⟩
    · exact Or.inl ⟨1, by omega, rfl, rfl⟩
    · exact Or.inl ⟨2, by omega, rfl, rfl⟩
    · exact Or.inl ⟨3, by omega, rfl, rfl⟩
/-- what the relation looks at -/
theorem rq_RL_s {cc m p R : Nat} {A A' B B' : mj_I} (hc : cc = 2 ∨ cc = 10) (h : mj_RL cc m p R A B) (hA : ∀ x, (2 ≤ x ∧ x ≤ 17) ∨ (32 ≤ x ∧ x ≤ 41) → A' x = A x) (hA1 : A' 1 11 = A 1 11 ∧ A' 1 12 = A 1 12) (hE : mj_rE A') (hB : ∀ x, (43 ≤ x ∧ x ≤ 49) ∨ x = 57 ∨ x = 59 ∨ x = 60 → B' x = B x)
    (hB1 : B' 42 1 = B 42 1 ∧ B' 42 5 = B 42 5 ∧ B' 42 6 = B 42 6 ∧ B' 42 23 = B 42 23 ∧ B' 42 25 = B 42 25) (hf : B' 42 0 = A' 1 13) : mj_RL cc m p R A' B' := by
  obtain ⟨a, b, c, d, e, f, g, k, q⟩ := h
  obtain ⟨b1, b2, b3, b4, b5⟩ := hB1
  refine ⟨a, ?_, ?_, ?_, ?_, ?_, ?_, ?_, hE⟩
  · unfold mj_rS at b ⊢
    rw [hA cc (by omega), hA1.1, b2, b3, b5]; exact b
  · unfold mj_rT at c ⊢
    rw [hA1.2, b1]; exact ⟨c.1, hf⟩
  · unfold mj_rC at d ⊢
    rw [hB 46 (by omega), hB 47 (by omega), hA (cc + 1) (by omega), hA (cc + 2) (by omega)]; exact d
  · intro s hs
    rw [hB 48 (by omega), hB 49 (by omega), hA (cc + 3) (by omega), hA (cc + 5 + s) (by have := a.2.1; omega)]
    exact e s hs
  · unfold mj_rD at f ⊢
    rw [hB 59 (by omega), hB 60 (by omega), hA 32 (by omega), hA 33 (by omega)]; exact f
  · intro j hj
    unfold mj_rH1
    rw [hB 43 (by omega), hB 44 (by omega), hB 45 (by omega), hA (34 + 2 * j) (by omega), hA (34 + 2 * j + 1) (by omega)]
    exact g j hj
  · unfold mj_rF at k ⊢
    rw [b4]
    rcases k with k | ⟨k1, k2⟩
    · exact Or.inl k
    · exact Or.inr ⟨k1, mj_TO_eq ⟨b2, b3, hB 46 (by omega), hB 47 (by omega), hB 48 (by omega), hB 49 (by omega)⟩ (hB 57 (by omega)) k2⟩
theorem rq_RL_E {cc m p R : Nat} {A B : mj_I} (h : mj_RL cc m p R A B) : mj_rE A := h.2.2.2.2.2.2.2.2
/-- a call that told its fault -/
theorem rq_RL_f {cc m p R : Nat} {A B B' : mj_I} {v : Int32} (hc : cc = 2 ∨ cc = 10) (h : mj_RL cc m p R A B) (hB : ∀ x, x ≠ 42 → B' x = B x) (hB2 : ∀ y, y ≠ 0 → B' 42 y = B 42 y) (hf : B' 42 0 = v) : mj_RL cc m p R (mj_upI A 1 13 v) B' :=
  rq_RL_s hc h (fun x hx => mj_upI_ne (by omega)) ⟨by rw [mj_upI_eq, if_neg (by decide)], by rw [mj_upI_eq, if_neg (by decide)]⟩ (fun y hy => by rw [mj_upI_ne (by decide)]; exact rq_RL_E h y hy) (fun x hx => hB x (by omega)) ⟨hB2 1 (by decide), hB2 5 (by decide), hB2 6 (by decide), hB2 23 (by decide), hB2 25 (by decide)⟩ (by rw [hf, mj_upI_eq, if_pos rfl])
theorem rq_f0 {B : mj_I} {v : Int32} : (∀ x, x ≠ 42 → mj_upI B 42 0 v x = B x) ∧ (∀ y, y ≠ 0 → mj_upI B 42 0 v 42 y = B 42 y) ∧ mj_upI B 42 0 v 42 0 = v :=
  ⟨fun x hx => mj_upI_ne hx, fun y hy => by rw [mj_upI_eq, if_neg hy], by rw [mj_upI_eq, if_pos rfl]⟩
theorem rq_f1 {B : mj_I} {v : Int32} : (∀ x, x ≠ 42 → mj_upI (mj_upI B 42 0 0) 42 0 v x = B x) ∧ (∀ y, y ≠ 0 → mj_upI (mj_upI B 42 0 0) 42 0 v 42 y = B 42 y) ∧ mj_upI (mj_upI B 42 0 0) 42 0 v 42 0 = v :=
  ⟨fun x hx => by rw [mj_upI_ne hx, mj_upI_ne hx], fun y hy => by rw [mj_upI_eq, if_neg hy, mj_upI_eq, if_neg hy], by rw [mj_upI_eq, if_pos rfl]⟩
section VE
variable {cc m p R : Nat} {A B : mj_I}
theorem rq_RL_0 {v : Int32} (hc : cc = 2 ∨ cc = 10) (h : mj_RL cc m p R A B) : mj_RL cc m p R (mj_upI A 1 13 v) (mj_upI B 42 0 v) := rq_RL_f hc h rq_f0.1 rq_f0.2.1 rq_f0.2.2
theorem rq_RL_1 {v : Int32} (hc : cc = 2 ∨ cc = 10) (h : mj_RL cc m p R A B) : mj_RL cc m p R (mj_upI A 1 13 v) (mj_upI (mj_upI B 42 0 0) 42 0 v) := rq_RL_f hc h rq_f1.1 rq_f1.2.1 rq_f1.2.2
theorem rq_Vof {α : Type} {x : α} {A' B' : mj_I} (h : mj_RL cc m p R A' B') : rq_V cc (x, A') (x, B') := ⟨rfl, m, p, R, h⟩
theorem rq_v_trace (hc : cc = 2 ∨ cc = 10) (h : mj_RL cc m p R A B) : rq_V cc ((s_X5_trace A, A) : Int32 × mj_I) ((s_X6_trace B, B) : Int32 × mj_I) := ⟨h.2.2.1.1.symm, m, p, R, h⟩
theorem rq_v_fault (hc : cc = 2 ∨ cc = 10) (h : mj_RL cc m p R A B) : rq_V cc ((s_X5_fault A, A) : Int32 × mj_I) ((s_X6_fault B, B) : Int32 × mj_I) := ⟨h.2.2.1.2.symm, m, p, R, h⟩
theorem rq_v_ofStreet (hc : cc = 2 ∨ cc = 10) (h : mj_RL cc m p R A B) (s w : Int32) : rq_V cc ((s_X5_ofStreet cc s w A, A) : Int32 × mj_I) ((s_X6_ofStreet s w B, B) : Int32 × mj_I) := by
  refine ⟨?_, m, p, R, h⟩
  obtain ⟨⟨hm, _, _⟩, ⟨⟨s5, s6⟩, _, _⟩, _, ⟨hC, _⟩, _⟩ := h
  show s_X5_ofStreet cc s w A = s_X6_ofStreet s w B
  unfold s_X5_ofStreet s_X6_ofStreet
  rw [s5, rq_st_eq s6]
  rcases rq_has (n := m) (by omega) s with ⟨j, hj, rfl, e⟩ | e
  · rw [e, if_pos rfl, if_neg (show ¬ bI true = 0 by decide)]
    obtain ⟨c1, _, c2⟩ := hC j hj
    rw [c1, c2]
    by_cases w0 : w = 0
    · subst w0; rfl
    · rw [if_neg w0, if_neg w0]
      by_cases w1 : w = 1
      · subst w1; rfl
      · rw [if_neg w1]
        by_cases w2 : w < 0
        · rw [if_pos w2]
        · rw [if_neg w2, if_pos]
          have a := mj_i0 w2
          have b1 := mj_iE w0
          have b2 := mj_iE w1
          have e1 : (1 : Int32).toInt = 1 := by decide
          have e0 : (0 : Int32).toInt = 0 := by decide
          exact Int32.lt_iff_toInt_lt.mpr (by omega)
  · rw [e, if_neg (by decide), if_pos (show bI false = 0 by decide)]
theorem rq_v_ofPlant (hc : cc = 2 ∨ cc = 10) (h : mj_RL cc m p R A B) (q w : Int32) : rq_V cc ((s_X5_ofPlant cc q w A, A) : Int32 × mj_I) ((s_X6_ofPlant q w B, B) : Int32 × mj_I) := by
  refine ⟨?_, m, p, R, h⟩
  obtain ⟨⟨_, hp3, _⟩, ⟨_, ⟨p5, p6⟩, _⟩, _, _, hP, _⟩ := h
  show s_X5_ofPlant cc q w A = s_X6_ofPlant q w B
  unfold s_X5_ofPlant s_X6_ofPlant
  rw [p5, rq_pl_eq p6]
  rcases rq_has (n := p) (by omega) q with ⟨j, hj, rfl, e⟩ | e
  · rw [e, if_pos rfl, if_neg (show ¬ bI true = 0 by decide)]
    obtain ⟨c1, _, c2⟩ := hP j hj
    rw [c1, mj_tnm (show j < 2147483648 by omega)]
    by_cases w0 : w = 0
    · subst w0; rfl
    · rw [if_neg w0, if_neg w0]
      unfold s_X6_within
      by_cases w2 : w < 0
      · have w3 : w < 1 := by
          have a := mj_iL w2
          have e1 : (1 : Int32).toInt = 1 := by decide
          have e0 : (0 : Int32).toInt = 0 := by decide
          exact Int32.lt_iff_toInt_lt.mpr (by omega)
        rw [if_pos w2, if_pos w3, if_pos rfl]
      · have w3 : ¬ w < 1 := by
          intro hw
          have a := mj_iL hw
          have b := mj_i0 w2
          have c := mj_iE w0
          have e1 : (1 : Int32).toInt = 1 := by decide
          have e0 : (0 : Int32).toInt = 0 := by decide
          omega
        rw [if_neg w2, if_neg w3]
        by_cases w4 : 3 < w
        · rw [if_pos w4, if_pos w4, if_pos rfl]
        · rw [if_neg w4, if_neg w4, if_neg (show ¬ (1 : Int32) = 0 by decide)]
          have a := mj_i0 w2
          have b := mj_iN w4
          have c := mj_iE w0
          have e3 : (3 : Int32).toInt = 3 := by decide
          have e0 : (0 : Int32).toInt = 0 := by decide
          obtain ⟨t, ht, rfl⟩ : ∃ t : Nat, t < 3 ∧ w = nI (t + 1) := ⟨w.toInt.toNat - 1, by omega, mj_ofI (by rw [nI_toInt (by omega)]; omega)⟩
          have e5 : (3 : Int32) * nI j = nI (3 * j) := by
            refine mj_ofI ?_
            rw [mj_imul (by rw [e3, nI_toInt (by omega)]; omega) (by rw [e3, nI_toInt (by omega)]; omega), e3, nI_toInt (by omega), nI_toInt (by omega)]
            omega
          rw [nI_pred, e5, nI_add, show 3 * j + (t + 1) = (3 * j + t) + 1 by omega, nI_pred, (c2 t ht).1]
  · rw [e, if_neg (by decide), if_pos (show bI false = 0 by decide)]
end VE
