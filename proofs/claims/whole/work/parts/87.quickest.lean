/-! the quickest: the call -/
section VQ3
variable {cc m p R : Nat} {A B : mj_I}
theorem rq_v_quickest (hc : cc = 2 ∨ cc = 10) (h : mj_RL cc m p R A B) (s e k : Int32) : rq_V cc (s_X5_quickest cc m s e k A) (s_X6_quickest m s e k B) := by
  have hm := h.1.1
  have hp3 := h.1.2.1
  have p2 : 2 ^ p ≤ 8 := Nat.pow_le_pow_right (n := 2) (by omega) hp3
  have p1 := Nat.two_pow_pos p
  unfold s_X5_quickest s_X6_quickest
  rw [rq_st_eq h.2.1.1.2, h.2.1.1.1, h.2.1.2.1.1, h.2.1.2.1.2, show (1 : Int32) <<< (nI p &&& 31) = nI (2 ^ p) from rq_p8 ⟨p, by omega⟩, show nI (2 ^ p) - 1 = nI (2 ^ p - 1) from by
    obtain ⟨d, hd⟩ : ∃ d, 2 ^ p = d + 1 := ⟨2 ^ p - 1, by omega⟩
    rw [hd]; exact rq_sub1 d, rq_wi_eq (n := 2 ^ p - 1) (by omega), show 2 ^ p - 1 + 1 = 2 ^ p by omega]
  rcases rq_has (n := m) (by omega) e with ⟨st, hst, rfl, e5⟩ | e5
  · rw [e5, if_pos (show (true : Bool) = true from rfl), if_neg (show ¬ bI true = 0 by decide)]
    by_cases s0 : s < 0
    · rw [if_pos s0, if_pos s0, if_pos rfl]; exact rq_Vi rfl h
    · rw [if_neg s0, if_neg s0]
      by_cases s1 : s < nI (2 ^ p)
      · rw [if_pos s1, if_pos s1, if_neg rq_n10]
        have a0 := mj_i0 s0
        have a1 := mj_iL s1
        rw [nI_toInt (by omega)] at a1
        obtain ⟨x, hx, rfl⟩ : ∃ x, x < 2 ^ p ∧ s = nI x := ⟨s.toInt.toNat, by omega, mj_ofI (by rw [nI_toInt (by omega)]; omega)⟩
        unfold s_X6_within
        by_cases k0 : k < -1
        · rw [if_pos k0, if_pos k0, if_pos rfl]; exact rq_Vi rfl h
        · rw [if_neg k0, if_neg k0]
          by_cases k1 : k < 24
          · rw [if_pos k1, if_neg (show ¬ (23 : Int32) < k from fun g => (rq_ltn (n := 23) (by omega)).mp g k1), if_neg rq_n10]
            have kk : k = -1 ∨ ∃ t, t < 24 ∧ k = nI t := by
              have b0 := mj_iN k0
              have b1 := mj_iL k1
              rw [show ((-1 : Int32)).toInt = -1 by decide] at b0
              rw [show (24 : Int32).toInt = 24 by decide] at b1
              by_cases g : k.toInt = -1
              · exact Or.inl (mj_ofI (by rw [g]; decide))
              · exact Or.inr ⟨k.toInt.toNat, by omega, mj_ofI (by rw [nI_toInt (by omega)]; omega)⟩
            by_cases x0 : x = 0
            · subst x0
              have q0 : s_X3_quickestDays cc m (nI 0) (nI st) A = (0, A) := by
                unfold s_X3_quickestDays
                rw [if_pos (show nI 0 = 0 from rfl)]
              rw [q0, if_pos (show nI 0 = 0 from rfl)]
              dsimp only
              rcases kk with rfl | ⟨t, ht, rfl⟩
              · rw [if_pos rfl, if_pos rfl]; exact rq_Vi rfl h
              · rw [if_neg (show ¬ nI t = -1 from fun g => by
                  have := congrArg Int32.toInt g
                  rw [nI_toInt (by omega), show ((-1 : Int32)).toInt = -1 by decide] at this
                  omega), if_neg (show ¬ nI t = -1 from fun g => by
                  have := congrArg Int32.toInt g
                  rw [nI_toInt (by omega), show ((-1 : Int32)).toInt = -1 by decide] at this
                  omega), if_neg (show ¬ nI t < 0 from rq_neg1 (by omega))]
                exact rq_Vi rfl h
            · rw [if_neg (show ¬ nI x = 0 from fun g => x0 ((rq_nIe (b := 0) (by omega) (by omega)).mp g))]
              obtain ⟨T, f1, f2, f3⟩ := rq_ftg h
              have RB := rq_RL_ft h f1 f2 f3
              have hce := rq_ce_ft f1
              obtain ⟨F1, F2, RA, val⟩ := rq_qd5 hc RB hx x0 hst f2
              obtain ⟨n1, n2, n3⟩ := rq_sn_ok (A := A) (cc := cc) hp3 hx hst hm
              obtain ⟨b1, _, _⟩ := rq_Bv h n1 n2 hst
              rw [rq_FO _ (by omega), mj6_B_eq hce, b1, (f1.2.2 _ F1 F2).1]
              revert val RA
              generalize s_X3_quickestDays cc m (nI x) (nI st) A = QD
              intro RA val
              have ne1 : ∀ t : Nat, t < 24 → ¬ nI t = -1 := fun t ht g => by
                have := congrArg Int32.toInt g
                rw [nI_toInt (by omega), show ((-1 : Int32)).toInt = -1 by decide] at this
                omega
              rcases val with ⟨v1, v2⟩ | ⟨v1, v2, v3⟩
              · have e9 : rq_cd (T (rq_bv A cc (rq_sn x st) st)) = -9 := if_pos v1
                rw [v2, e9, if_pos rfl]
                rcases kk with rfl | ⟨t, ht, rfl⟩
                · rw [if_pos rfl, if_pos rfl]; exact rq_Vi rfl RA
                · rw [if_neg (ne1 t ht), if_neg (ne1 t ht), if_pos rfl, if_neg (show ¬ nI t < -9 from fun g => by
                    have := mj_iL g
                    rw [nI_toInt (by omega), show ((-9 : Int32)).toInt = -9 by decide] at this
                    omega)]
                  exact rq_Vi rfl RA
              · have hT := (rq_ri_cn f2 F1 F2 v1).2
                have e9 : rq_cd (T (rq_bv A cc (rq_sn x st) st)) = nI (T (rq_bv A cc (rq_sn x st) st)) := if_neg v1
                have n9 : ¬ nI (T (rq_bv A cc (rq_sn x st) st)) = -9 := rq_m9 (by omega)
                rw [v2, e9, if_neg n9, show nI (T (rq_bv A cc (rq_sn x st) st)) + 1 = nI (T (rq_bv A cc (rq_sn x st) st) + 1) from nI_1 _]
                rcases kk with rfl | ⟨t, ht, rfl⟩
                · rw [if_pos rfl, if_pos rfl]; exact rq_Vi rfl RA
                · rw [if_neg (ne1 t ht), if_neg (ne1 t ht), if_neg n9]
                  by_cases htT : t ≤ T (rq_bv A cc (rq_sn x st) st)
                  · rw [if_pos (nI_lt (show t < T (rq_bv A cc (rq_sn x st) st) + 1 by omega) (by omega)), if_neg (nI_nlt (by omega) (by omega)), v3 t htT, mj_tnm (show t < 2147483648 by omega)]
                    have qu := rq_qu h f1 f2 F1 F2 v1 (nI x) (nI st) t t 1 0 (by omega)
                    have qu' : s_X6_qu (nI x) (nI st) t m t 1 (nI (rq_bv A cc (rq_sn x st) st)) (s_X6_findToGo m B) = (nI (rq_ch A cc m T (rq_bv A cc (rq_sn x st) st) (0 + t) % 6), s_X6_findToGo m B) := qu
                    rw [qu', Nat.zero_add]
                    exact rq_Vi rfl RA
                  · rw [if_neg (nI_nlt (by omega) (by omega)), if_pos (nI_lt (by omega) (by omega))]
                    exact rq_Vi rfl RA
          · rw [if_neg k1, if_pos (show (23 : Int32) < k from (rq_ltn (n := 23) (by omega)).mpr k1), if_pos rfl]; exact rq_Vi rfl h
      · rw [if_neg s1, if_neg s1, if_pos rfl]; exact rq_Vi rfl h
  · rw [e5, if_neg (show ¬ (false : Bool) = true by decide), if_pos (show bI false = 0 from rfl)]; exact rq_Vi rfl h
end VQ3
