/-! a city taken from a sheet -/
section VZ
variable {dd k i n : Nat} {A0 B0 : mj_I}
theorem rq_rcty (hK : rq_RC dd k i n A0 B0) {A B : mj_I} (h : rq_RB dd k i n A0 B0 0 A B) :
    ((s_X2_readsCity dd (34 + 2 * k + 1) A).1 = 0 ∧ (s_X6_readCity (nI (60 * k + i + n)) B).1 = 0 ∧ ∃ y, rq_RB dd k i n A0 B0 y (s_X2_readsCity dd (34 + 2 * k + 1) A).2 (s_X6_readCity (nI (60 * k + i + n)) B).2) ∨
    ((s_X2_readsCity dd (34 + 2 * k + 1) A).1 = 1 ∧ (s_X6_readCity (nI (60 * k + i + n)) B).1 = 1 ∧ (∃ y, rq_RB dd k i n A0 B0 y (s_X2_readsCity dd (34 + 2 * k + 1) A).2 (s_X6_readCity (nI (60 * k + i + n)) B).2) ∧ ∃ m p, p ≤ 3 ∧ rq_SC dd m (s_X2_readsCity dd (34 + 2 * k + 1) A).2 (s_X6_readCity (nI (60 * k + i + n)) B).2 ∧ (s_X2_readsCity dd (34 + 2 * k + 1) A).2 dd 1 = nI p ∧ (s_X6_readCity (nI (60 * k + i + n)) B).2 42 13 = nI p ∧ rq_PK dd p (s_X2_readsCity dd (34 + 2 * k + 1) A).2 (s_X6_readCity (nI (60 * k + i + n)) B).2) := by
  have hd := hK.1
  have h1 : rq_RB dd k i n A0 B0 0 A (mj_upI B 42 13 0) := rq_RB_42 h (Or.inr rfl)
  unfold s_X2_readsCity s_X2_readsStreets s_X6_readCity
  rcases rq_tk hK h1 121 with ⟨⟨hy, _⟩, e5, e6⟩ | ⟨_, e5, e6⟩
  · rw [e5, e6]
    dsimp only
    rw [if_neg (show ¬ (1 : Int32) = 0 by decide), if_neg (show ¬ (1 : Int32) = 0 by decide)]
    have h2 := rq_RB_y h1 hy
    rcases rq_dg (t := 2) (E := 6) hK h2 (by omega) (by omega) with ⟨m, hm2, hm6, hy2, hv, f5, f6⟩ | ⟨f5, f6⟩
    · have f5' : s_X2_takeDigit (34 + 2 * k + 1) 2 6 (mj_upI A 18 3 (nI (0 + 1))) = (nI m, mj_upI (mj_upI A 18 3 (nI (0 + 1))) 18 3 (nI (0 + 1 + 1))) := f5
      have f6' : s_X6_digit (nI (60 * k + i + n)) 2 6 (mj_upI (mj_upI B 42 13 0) 42 11 (nI (60 * k + i + (0 + 1)))) = (nI m, mj_upI (mj_upI (mj_upI B 42 13 0) 42 11 (nI (60 * k + i + (0 + 1)))) 42 11 (nI (60 * k + i + (0 + 1 + 1)))) := f6
      rw [f5', f6']
      dsimp only
      rw [if_neg (rq_neg1 (show m < 1000 by omega)), if_neg (rq_m9 (show m < 1000 by omega))]
      have h3 := rq_RB_y h2 hy2
      revert h3
      have g13 : mj_upI (mj_upI (mj_upI B 42 13 0) 42 11 (nI (60 * k + i + (0 + 1)))) 42 11 (nI (60 * k + i + (0 + 1 + 1))) 42 13 = 0 := by
        rw [mj_upI_eq, if_neg (by decide), mj_upI_eq, if_neg (by decide), mj_upI_eq, if_pos rfl]
      revert g13
      generalize mj_upI (mj_upI (mj_upI B 42 13 0) 42 11 (nI (60 * k + i + (0 + 1)))) 42 11 (nI (60 * k + i + (0 + 1 + 1))) = B3
      generalize mj_upI (mj_upI A 18 3 (nI (0 + 1))) 18 3 (nI (0 + 1 + 1)) = A3
      intro g13 h3
      have h4 : rq_RB dd k i n A0 B0 (0 + 1 + 1) (mj_upI A3 dd 0 (nI m)) (mj_upI B3 42 12 (nI m)) := rq_RB_42 (rq_RB_a hK h3 (by omega)) (Or.inl rfl)
      obtain ⟨A4, a1, a2, a3⟩ := rq_stz (dd := dd) (rr := 34 + 2 * k + 1) hm6 6 0 (mj_upI A3 dd 0 (nI m)) rfl (fun u hu => absurd hu (by omega))
      have h5 : rq_RB dd k i n A0 B0 (0 + 1 + 1) A4 (mj_upI B3 42 12 (nI m)) := by
        obtain ⟨b0, b1, b2, b3, b4, b5, b6, b7⟩ := h4
        refine ⟨b0, ?_, ?_, ?_, b4, fun x hx hx2 => ?_, b6, b7⟩
        · rw [a2 18 (by omega)]; exact b1
        · rw [a2 18 (by omega)]; exact b2
        · rw [a2 18 (by omega)]; exact b3
        · rw [a2 x (by omega)]; exact b5 x hx hx2
      have st := rq_sts hK ⟨hm2, hm6⟩ 0 6 0 (0 + 1 + 1) A4 (mj_upI B3 42 12 (nI m)) rfl h5 (by rw [a2 dd (by omega), mj_upI_eq, if_pos rfl]) (by rw [mj_upI_eq, if_pos rfl]) a3 (fun u hu => absurd hu (by omega)) (by rw [mj_upI_eq, if_neg (by decide)]; exact g13)
      rw [a1]
      revert st
      generalize s_X2_rs (34 + 2 * k + 1) (dd + 1) 6 (nI m) 6 0 A4 = P
      generalize s_X6_rA (nI (60 * k + i + n)) 6 0 (mj_upI B3 42 12 (nI m)) = Q
      intro st
      rcases st with ⟨s1, s2, s3⟩ | ⟨s1, B5, s2, ⟨y5, s3⟩, s4, s5⟩
      · rw [if_pos s1]
        exact Or.inl ⟨rfl, s2, s3⟩
      · rw [if_neg (by rw [s1]; decide), s2]
        unfold s_X2_readsCorners
        have co := rq_cos hK hm2 0 9 0 y5 P.2 B5 s3 s4 s5
        dsimp only at co ⊢
        revert co
        generalize s_X2_co dd (34 + 2 * k + 1) 9 0 P.2 = P2
        generalize s_X6_rB (nI (60 * k + i + n)) 9 0 B5 = Q2
        intro co
        rcases co with ⟨c1, c2, c3⟩ | ⟨c1, B6, c2, ⟨y6, c3⟩, c4, c5⟩
        · rw [if_pos c1]
          exact Or.inl ⟨rfl, c2, c3⟩
        · rw [if_neg (by rw [c1]; decide), c2]
          unfold s_X2_readsPlants
          have h7 : rq_RB dd k i n A0 B0 y6 (mj_upI P2.2 dd 1 0) B6 := rq_RB_a hK c3 (by omega)
          have hS7 : rq_SC dd m (mj_upI P2.2 dd 1 0) B6 := rq_SC_eq (by rw [mj_upI_eq, if_neg (by decide)]) (mj_upI_ne (by omega)) (mj_upI_ne (by omega)) rfl rfl rfl c4
          have pl := rq_pls hK 3 0 y6 (mj_upI P2.2 dd 1 0) B6 rfl h7 hS7 (fun q hq => absurd hq (by omega)) (by rw [mj_upI_eq, if_pos rfl]; rfl) c5
          dsimp only at pl ⊢
          revert pl
          generalize s_X2_pl dd (34 + 2 * k + 1) 3 0 (mj_upI P2.2 dd 1 0) = P3
          generalize s_X6_rC (nI (60 * k + i + n)) 3 0 B6 = Q3
          intro pl
          rcases pl with ⟨p1, p2, p3⟩ | ⟨p1, p2, p3, p4, p5, p, p6, p7, p8, p9⟩
          · by_cases h0 : P3.1 = 0
            · rw [if_pos h0]
              exact Or.inl ⟨rfl, p2, p3⟩
            · rw [if_neg h0, if_neg (p1.resolve_left h0)]
              exact Or.inl ⟨rfl, p2, p3⟩
          · rw [if_neg (by rw [p1]; decide), if_pos p2]
            exact Or.inr ⟨rfl, p3, p4, m, p, p6, p5, p7, p8, p9⟩
    · have f5' : s_X2_takeDigit (34 + 2 * k + 1) 2 6 (mj_upI A 18 3 (nI (0 + 1))) = (-1, mj_upI A 18 3 (nI (0 + 1))) := f5
      have f6' : s_X6_digit (nI (60 * k + i + n)) 2 6 (mj_upI (mj_upI B 42 13 0) 42 11 (nI (60 * k + i + (0 + 1)))) = (-9, mj_upI (mj_upI B 42 13 0) 42 11 (nI (60 * k + i + (0 + 1)))) := f6
      rw [f5', f6']
      dsimp only
      rw [if_pos (show (-1 : Int32) < 0 by decide), if_pos rfl]
      dsimp only
      rw [if_pos rfl]
      exact Or.inl ⟨rfl, rfl, 0 + 1, rq_RB_42 h2 (Or.inl rfl)⟩
  · rw [e5, e6]
    dsimp only
    rw [if_pos rfl, if_pos rfl]
    dsimp only
    rw [if_pos rfl]
    exact Or.inl ⟨rfl, rfl, 0, h1⟩
end VZ
