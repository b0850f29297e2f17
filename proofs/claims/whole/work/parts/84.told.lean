/-! the quickest: the way told -/
theorem rq_m1 (i : Nat) (hi : i < 1000) : nI (i + 1) + (-1) = nI i := by
  refine mj_ofI ?_
  have e : ((-1 : Int32)).toInt = -1 := by decide
  rw [mj_iadd (by rw [nI_toInt (by omega), e]; omega) (by rw [nI_toInt (by omega), e]; omega), nI_toInt (by omega), nI_toInt (by omega), e]
  omega
theorem rq_tf {a : Int32} {ch : Nat → Nat} (hc : ∀ i, ch i < 2058) : ∀ (i k j : Nat) (I : mj_I), i ≤ 23 → i + 1 ≤ k → (∀ t, t ≤ i → I 22 (nI (rq_kn (ch t))) = if t = 0 then -1 else nI (rq_kn (ch (t - 1)))) → (s_X3_tf a k j (nI (rq_kn (ch i))) (nI i) I).1 = I 23 a ∧ (∀ x, x ≠ 24 → (s_X3_tf a k j (nI (rq_kn (ch i))) (nI i) I).2 x = I x) ∧ ∀ t, t < 24 → (s_X3_tf a k j (nI (rq_kn (ch i))) (nI i) I).2 24 (nI t) = if t ≤ i then nI (ch t % 6) else I 24 (nI t) := by
  intro i
  induction i with
  | zero =>
    intro k j I _ hk h
    obtain ⟨k, rfl⟩ : ∃ x, k = x + 1 := ⟨k - 1, by omega⟩
    have kl := rq_kn_lt (ch 0)
    have e : s_X3_tf a (k + 1) j (nI (rq_kn (ch 0))) (nI 0) I = (I 23 a, mj_upI I 24 (nI 0) (nI (ch 0 % 6))) := by
      rw [s_X3_tf, if_neg (show ¬ nI 0 < 0 by decide), if_pos (show nI 0 < 24 by decide), if_neg (show ¬ nI (rq_kn (ch 0)) < 0 from nI_nlt (b := 0) (by omega) (by omega)), rq_k9]
      have tail : ∀ s I2, s_X3_tf a k (j + 1) s (nI 0 + (-1)) I2 = (I2 23 a, I2) := by
        intro s I2
        cases k with
        | zero => rfl
        | succ k => rw [s_X3_tf, if_pos (show nI 0 + (-1) < 0 by decide)]
      rw [tail, mj_upI_ne (by decide)]
    rw [e]
    refine ⟨rfl, fun x hx => mj_upI_ne hx, fun t ht => ?_⟩
    show mj_upI I 24 (nI 0) (nI (ch 0 % 6)) 24 (nI t) = _
    rw [mj_upI_eq]
    by_cases ht0 : t = 0
    · rw [if_pos (by rw [ht0]), if_pos (by omega), ht0]
    · rw [if_neg (fun g => ht0 ((rq_nIe (by omega) (by omega)).mp g)), if_neg (by omega)]
  | succ i ih =>
    intro k j I hi hk h
    obtain ⟨k, rfl⟩ : ∃ x, k = x + 1 := ⟨k - 1, by omega⟩
    have kl := rq_kn_lt (ch (i + 1))
    have h22 := h (i + 1) (by omega)
    rw [if_neg (by omega), Nat.add_sub_cancel] at h22
    have e : s_X3_tf a (k + 1) j (nI (rq_kn (ch (i + 1)))) (nI (i + 1)) I = s_X3_tf a k (j + 1) (nI (rq_kn (ch i))) (nI i) (mj_upI I 24 (nI (i + 1)) (nI (ch (i + 1) % 6))) := by
      rw [s_X3_tf, if_neg (show ¬ nI (i + 1) < 0 from nI_nlt (b := 0) (by omega) (by omega)), if_pos (show nI (i + 1) < 24 from nI_lt (b := 24) (by omega) (by omega)), if_neg (show ¬ nI (rq_kn (ch (i + 1))) < 0 from nI_nlt (b := 0) (by omega) (by omega)), rq_k9, h22, rq_m1 i (by omega)]
    rw [e]
    obtain ⟨i1, i2, i3⟩ := ih k (j + 1) (mj_upI I 24 (nI (i + 1)) (nI (ch (i + 1) % 6))) (by omega) (by omega) (fun t ht => by rw [mj_upI_ne (by decide)]; exact h t (by omega))
    refine ⟨by rw [i1, mj_upI_ne (by decide)], fun x hx => by rw [i2 x hx, mj_upI_ne hx], fun t ht => ?_⟩
    rw [i3 t ht, mj_upI_eq]
    by_cases h1 : t ≤ i
    · rw [if_pos h1, if_pos (by omega)]
    · rw [if_neg h1]
      by_cases h2 : t = i + 1
      · rw [if_pos (by rw [h2]), if_pos (by omega), h2]
      · rw [if_neg (fun g => h2 ((rq_nIe (by omega) (by omega)).mp g)), if_neg (by omega)]
