/-! the quickest: what stays, and the reference's way -/
theorem rq_tf_ne (a : Int32) (x : Nat) (hx : x ≠ 24) : ∀ (k j : Nat) (s f : Int32) (I : mj_I), (s_X3_tf a k j s f I).2 x = I x := by
  intro k
  induction k with
  | zero => intros; rfl
  | succ k ih =>
    intro j s f I
    rw [s_X3_tf]
    by_cases h1 : f < 0
    · rw [if_pos h1]
    · rw [if_neg h1]
      by_cases h2 : f < 24
      · rw [if_pos h2]
        by_cases h3 : s < 0
        · rw [if_pos h3]
        · rw [if_neg h3, ih, mj_upI_ne hx]
      · rw [if_neg h2]
theorem rq_qE {cc m : Nat} (hcc : cc = 2 ∨ cc = 10) (s e : Int32) : ∀ (k j : Nat) (I : mj_I), k + j = 3072 → mj_SQ cc m I → mj_rE (s_X3_qd cc m s e k j I).2 := by
  intro k
  induction k with
  | zero =>
    intro j I _ h
    rw [s_X3_qd, ite_self]
    exact h.2.2.2.1
  | succ k ih =>
    intro j I hj h
    rw [s_X3_qd]
    by_cases h1 : nI j < I 20 4
    · rw [if_pos h1]
      have hw := mj_wt h h1 (by omega)
      by_cases h2 : I 21 (nI j) &&& 511 = 438
      · rw [if_pos h2]
        intro y hy
        show ((s_X3_tellFound (I 21 (nI j)) I).2 22 y).toInt < 3072
        unfold s_X3_tellFound
        dsimp only
        rw [rq_tf_ne _ 22 (by decide)]
        exact h.2.2.2.1 y hy
      · rw [if_neg h2]
        by_cases h3 : I 23 (I 21 (nI j)) < 24
        · rw [if_pos h3]
          have := mj_iL h3
          exact ih (j + 1) _ (by omega) (mj_go_SQ hcc hw h (by rw [show (24 : Int32).toInt = 24 by decide] at this; exact this))
        · rw [if_neg h3]
          exact ih (j + 1) _ (by omega) h
    · rw [if_neg h1]
      exact h.2.2.2.1
section VNB
variable {cc m p R : Nat} {A B : mj_I}
theorem rq_nb (hR : mj_RL cc m p R A B) {I : mj_I} {T : Nat → Nat} (hf : rq_ft A cc m p B I T) {x : Nat} (hx : x < 2058) (hok : rq_okv A cc m p x) (h1 : 1 ≤ T x) (h9 : T x < 1000) : ∀ (k j : Nat), k + j = m → (s_X6_nb (nI x) m k j I).1 = nI (rq_n1 A cc T x k j) := by
  have hce := rq_ce_ft hf
  have ex : I 57 (nI x) - 1 = nI (T x - 1) := by
    rw [(hf.2.2 x hx hok).1, show rq_cd (T x) = nI (T x) from if_neg (by omega)]
    obtain ⟨d, hd⟩ : ∃ d, T x = d + 1 := ⟨T x - 1, by omega⟩
    rw [hd]
    exact rq_sub1 d
  intro k
  induction k with
  | zero => intros; rfl
  | succ k ih =>
    intro j hj
    obtain ⟨b1, b2, b3⟩ := rq_Bv hR hx hok (show j < m by omega)
    obtain ⟨t1, t2⟩ := hf.2.2 _ b2 b3
    rw [s_X6_nb, rq_n1, rq_goE hR hce.2.2.2.1 hx hok, mj6_B_eq hce, b1, ex, t1]
    cases hE : rq_E A cc (x % 6) j with
    | false =>
      rw [if_pos (show bI false = 0 from rfl), if_neg (show ¬ ((false : Bool) = true ∧ T (rq_bv A cc x j) + 1 = T x) from fun q => absurd q.1 (by decide))]
      exact ih (j + 1) (by omega)
    | true =>
      rw [if_neg (show ¬ bI true = 0 by decide)]
      by_cases hT : T (rq_bv A cc x j) + 1 = T x
      · rw [if_pos (show rq_cd (T (rq_bv A cc x j)) = nI (T x - 1) by rw [show rq_cd (T (rq_bv A cc x j)) = nI (T (rq_bv A cc x j)) from if_neg (by omega)]; congr 1; omega), if_pos (show (true : Bool) = true ∧ T (rq_bv A cc x j) + 1 = T x from ⟨rfl, hT⟩)]
      · rw [if_neg (show ¬ ((true : Bool) = true ∧ T (rq_bv A cc x j) + 1 = T x) from fun q => hT q.2), if_neg (fun q => by
          by_cases g9 : T (rq_bv A cc x j) = 1000
          · rw [(rq_cd9 t2).mpr g9] at q
            exact rq_m9 (show T x - 1 < 1000 by omega) q.symm
          · rw [show rq_cd (T (rq_bv A cc x j)) = nI (T (rq_bv A cc x j)) from if_neg g9] at q
            have := (nI_eq (by omega) (by omega)).mp q
            omega)]
        exact ih (j + 1) (by omega)
end VNB
