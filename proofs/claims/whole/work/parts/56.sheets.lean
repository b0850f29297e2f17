/-! sheets -/
theorem rq_RL_h {cc m p R : Nat} {A A' B B' : mj_I} (hc : cc = 2 ∨ cc = 10) (h : mj_RL cc m p R A B) (hA : ∀ x, (2 ≤ x ∧ x ≤ 17) ∨ x = 32 ∨ x = 33 → A' x = A x) (hA1 : A' 1 11 = A 1 11 ∧ A' 1 12 = A 1 12) (hE : A' 22 = A 22)
    (hB : ∀ x, (46 ≤ x ∧ x ≤ 49) ∨ x = 57 ∨ x = 59 ∨ x = 60 → B' x = B x) (hB1 : ∀ y, y ≠ 0 → B' 42 y = B 42 y) (hf : B' 42 0 = A' 1 13) (hH : mj_rH A' B') : mj_RL cc m p R A' B' := by
  obtain ⟨a, b, c, d, e, f, g, k, q⟩ := h
  refine ⟨a, ?_, ?_, ?_, ?_, ?_, hH, ?_, ?_⟩
  · unfold mj_rS at b ⊢
    rw [hA cc (by omega), hA1.1, hB1 5 (by decide), hB1 6 (by decide), hB1 25 (by decide)]; exact b
  · unfold mj_rT at c ⊢
    rw [hA1.2, hB1 1 (by decide)]; exact ⟨c.1, hf⟩
  · unfold mj_rC at d ⊢
    rw [hB 46 (by omega), hB 47 (by omega), hA (cc + 1) (by omega), hA (cc + 2) (by omega)]; exact d
  · intro s hs
    rw [hB 48 (by omega), hB 49 (by omega), hA (cc + 3) (by omega), hA (cc + 5 + s) (by have := a.2.1; omega)]
    exact e s hs
  · unfold mj_rD at f ⊢
    rw [hB 59 (by omega), hB 60 (by omega), hA 32 (by omega), hA 33 (by omega)]; exact f
  · unfold mj_rF at k ⊢
    rw [hB1 23 (by decide)]
    rcases k with k | ⟨k1, k2⟩
    · exact Or.inl k
    · exact Or.inr ⟨k1, mj_TO_eq (B := B) ⟨hB1 5 (by decide), hB1 6 (by decide), hB 46 (by omega), hB 47 (by omega), hB 48 (by omega), hB 49 (by omega)⟩ (hB 57 (by omega)) k2⟩
  · unfold mj_rE at q ⊢
    rw [hE]; exact q
theorem rq_60 {k : Nat} (hk : k < 4) : (60 : Int32) * nI k = nI (60 * k) := by
  have e : (60 : Int32).toInt = 60 := by decide
  refine mj_ofI ?_
  rw [mj_imul (by rw [e, nI_toInt (by omega)]; omega) (by rw [e, nI_toInt (by omega)]; omega), e, nI_toInt (by omega), nI_toInt (by omega)]
  omega
theorem rq_sh_ne (v a n : Int32) (x : Nat) (hx : x ≠ 45) : ∀ (k j : Nat) (I : mj_I), (s_X6_sh v a n k j I).2 x = I x := by
  intro k
  induction k with
  | zero => intros; rfl
  | succ k ih => intro j I; rw [s_X6_sh, ih, mj_upI_ne hx]
theorem rq_sh_1 (v a n : Int32) : ∀ (k j : Nat) (I : mj_I), (s_X6_sh v a n k j I).1 = 1 := by
  intro k
  induction k with
  | zero => intros; rfl
  | succ k ih => intro j I; rw [s_X6_sh, ih]
theorem rq_sh_v {v : Nat} (hv : v < 4) (a n : Int32) (t : Nat) (ht : t < 240) : ∀ (k j : Nat) (I : mj_I), j + k ≤ 60 → (s_X6_sh (nI v) a n k j I).2 45 (nI t) = if 60 * v + j ≤ t ∧ t < 60 * v + j + k then 0 else I 45 (nI t) := by
  intro k
  induction k with
  | zero =>
    intro j I _
    rw [if_neg (by omega)]; rfl
  | succ k ih =>
    intro j I hk
    rw [s_X6_sh, ih (j + 1) _ (by omega), rq_60 hv, nI_add, mj_upI_eq]
    by_cases h1 : 60 * v + (j + 1) ≤ t ∧ t < 60 * v + (j + 1) + k
    · rw [if_pos h1, if_pos (by omega)]
    · rw [if_neg h1]
      by_cases h2 : t = 60 * v + j
      · rw [if_pos (by rw [h2]), if_pos (by omega)]
      · rw [if_neg (fun hh => h2 ((rq_nIe (by omega) (by omega)).mp hh)), if_neg (by omega)]
theorem rq_fil_v {I : mj_I} {a n t : Nat} {v : Int32} (ht : t < n) (hn : n < 1000) : mj_fil I a n v a (nI t) = v := by
  unfold mj_fil
  rw [mj_rwI_eq, nI_toInt (by omega), if_pos (by omega)]
theorem rq_n10 : ¬ (1 : Int32) = 0 := by decide
section VG
variable {cc m p R : Nat} {A B : mj_I}
theorem rq_v_sheet (hc : cc = 2 ∨ cc = 10) (h : mj_RL cc m p R A B) (k a n : Int32) : rq_V cc (s_X5_sheet k a n A) (s_X6_sheet k a n B) := by
  unfold s_X5_sheet s_X6_sheet
  rw [rq_sh_eq A (mj_upI B 42 0 0), rq_so_eq A (mj_upI B 42 0 0)]
  have hsh := rq_sh_1 k a n 60 0 (mj_upI (mj_upI (mj_upI B 42 0 0) 43 k a) 44 k n)
  rcases rq_sheet (k := k) (A := A) with ⟨j, hj, rfl, e⟩ | e
  · rw [e, if_neg rq_n10, if_neg rq_n10]
    by_cases hl : s_X5_isLane a A = 0
    · rw [if_pos hl, if_pos hl]; exact rq_Vi rfl (rq_RL_0 hc h)
    · rw [if_neg hl, if_neg hl]
      by_cases n60 : 60 < n
      · rw [if_pos n60, if_pos n60]; exact rq_Vi rfl (rq_RL_0 hc h)
      · rw [if_neg n60, if_neg n60]
        by_cases n0 : n < 0
        · rw [if_pos n0, if_pos n0]; exact rq_Vi rfl (rq_RL_1 hc h)
        · rw [if_neg n0, if_neg n0]
          have hne := rq_sh_ne (nI j) a n
          have hvv := fun t ht => rq_sh_v (v := j) hj a n t ht 60 0 (mj_upI (mj_upI (mj_upI B 42 0 0) 43 (nI j) a) 44 (nI j) n) (by omega)
          have hne := fun x hx => hne x hx 60 0 (mj_upI (mj_upI (mj_upI B 42 0 0) 43 (nI j) a) 44 (nI j) n)
          generalize s_X6_sh (nI j) a n 60 0 (mj_upI (mj_upI (mj_upI B 42 0 0) 43 (nI j) a) 44 (nI j) n) = g at hsh hvv hne ⊢
          have eg : g = (1, g.2) := by rw [← hsh]
          rw [mj_tnm (show j < 2147483648 by omega)]
          have hn : 0 ≤ n.toInt ∧ n.toInt ≤ 60 := by
            have e60 : (60 : Int32).toInt = 60 := by decide
            have := mj_i0 n0
            have := mj_iN n60
            omega
          have hla : mj_in a 3 := by
            unfold s_X5_isLane at hl
            by_cases a0 : a < 0
            · rw [if_pos a0] at hl; exact absurd rfl hl
            · rw [if_neg a0] at hl
              by_cases a3 : a < 3
              · exact mj_t3 a0 a3
              · rw [if_neg a3] at hl; exact absurd rfl hl
          refine rq_Vi hsh.symm (rq_RL_h hc h (fun x hx => ?_) ?_ ?_ (fun x hx => ?_) (fun y hy => ?_) ?_ ?_)
          · unfold sp_ren
            rw [mj_fil_ne (by omega), mj_upI_ne (by omega), mj_upI_ne (by omega), mj_upI_ne (by omega), mj_upI_ne (by omega)]
          · unfold sp_ren
            rw [mj_fil_ne (by omega), mj_upI_ne (by omega), mj_upI_ne (by omega), mj_upI_ne (by omega)]
            exact ⟨rfl, rfl⟩
          · unfold sp_ren
            rw [mj_fil_ne (by omega), mj_upI_ne (by omega), mj_upI_ne (by omega), mj_upI_ne (by omega), mj_upI_ne (by omega)]
          · rw [hne x (by omega), mj_upI_ne (by omega), mj_upI_ne (by omega), mj_upI_ne (by omega)]
          · rw [hne 42 (by omega), mj_upI_ne (by decide), mj_upI_ne (by decide), mj_upI_eq, if_neg hy]
          · rw [hne 42 (by omega), mj_upI_ne (by decide), mj_upI_ne (by decide), mj_upI_eq, if_pos rfl]
            unfold sp_ren
            rw [mj_fil_ne (by omega), mj_upI_ne (by omega), mj_upI_ne (by omega), mj_upI_ne (by omega), mj_upI_eq, if_pos rfl]
          · intro t ht
            have hH := h.2.2.2.2.2.2.1 t ht
            unfold mj_rH1 at hH ⊢
            by_cases htj : t = j
            · subst htj
              have ea : ∀ x, sp_ren (mj_upI A 1 13 0) (34 + 2 * t) a n (34 + 2 * t) x = if x = 2 then n else if x = 1 then a else if x = 0 then 1 else A (34 + 2 * t) x := by
                intro x
                unfold sp_ren
                rw [mj_fil_ne (by omega), mj_upI_eq, mj_upI_eq, mj_upI_eq, mj_upI_ne (show 34 + 2 * t ≠ 1 by omega)]
              rw [ea 2, ea 0, ea 1, if_pos rfl, if_neg (by decide), if_neg (by decide), if_pos rfl, if_neg (by decide), if_pos rfl]
              refine ⟨hn, ?_, Or.inr ⟨rfl, ?_, hla⟩, fun i hi => ?_⟩
              · rw [hne 44 (by decide), mj_upI_eq, if_pos rfl]
              · rw [hne 43 (by decide), mj_upI_ne (by decide), mj_upI_eq, if_pos rfl]
              · rw [hvv (60 * t + i) (by omega), if_pos (by omega)]
                unfold sp_ren
                rw [rq_fil_v hi (by omega)]
            · have ea : sp_ren (mj_upI A 1 13 0) (34 + 2 * j) a n (34 + 2 * t) = A (34 + 2 * t) ∧ sp_ren (mj_upI A 1 13 0) (34 + 2 * j) a n (34 + 2 * t + 1) = A (34 + 2 * t + 1) := by
                unfold sp_ren
                rw [mj_fil_ne (by omega), mj_upI_ne (by omega), mj_upI_ne (by omega), mj_upI_ne (by omega), mj_upI_ne (by omega), mj_fil_ne (by omega), mj_upI_ne (by omega), mj_upI_ne (by omega), mj_upI_ne (by omega), mj_upI_ne (by omega)]
                exact ⟨rfl, rfl⟩
              have ntj : ¬ nI t = nI j := fun hh => htj ((rq_nIe (by omega) (by omega)).mp hh)
              rw [ea.1, ea.2]
              refine ⟨hH.1, ?_, ?_, fun i hi => ?_⟩
              · rw [hne 44 (by decide), mj_upI_eq, if_neg ntj, mj_upI_ne (by decide), mj_upI_ne (by decide)]; exact hH.2.1
              · rw [hne 43 (by decide), mj_upI_ne (by decide), mj_upI_eq, if_neg ntj, mj_upI_ne (by decide)]; exact hH.2.2.1
              · rw [hvv (60 * t + i) (by omega), if_neg (by omega), mj_upI_ne (by decide), mj_upI_ne (by decide), mj_upI_ne (by decide)]; exact hH.2.2.2 i hi
  · rw [e, if_pos rfl, if_pos rfl]; exact rq_Vi rfl (rq_RL_0 hc h)
theorem rq_v_lose (hc : cc = 2 ∨ cc = 10) (h : mj_RL cc m p R A B) (k : Int32) : rq_V cc (s_X5_lose k A) (s_X6_lose k B) := by
  unfold s_X5_lose s_X6_lose
  rw [rq_sh_eq A B]
  rcases rq_sheet (k := k) (A := A) with ⟨j, hj, rfl, e⟩ | e
  · rw [e, if_neg rq_n10, if_neg rq_n10, mj_tnm (show j < 2147483648 by omega)]
    have hH0 := h.2.2.2.2.2.2.1
    have key : mj_RL cc m p R (mj_upI A (34 + 2 * j) 0 0) (mj_upI B 43 (nI j) (-9)) := by
      refine rq_RL_h hc h (fun x hx => mj_upI_ne (by omega)) ⟨by rw [mj_upI_ne (by omega)], by rw [mj_upI_ne (by omega)]⟩ (mj_upI_ne (by omega)) (fun x hx => mj_upI_ne (by omega)) (fun y hy => by rw [mj_upI_ne (by decide)]) (by rw [mj_upI_ne (by decide), mj_upI_ne (by omega)]; exact h.2.2.1.2) ?_
      intro t ht
      have hH := hH0 t ht
      unfold mj_rH1 at hH ⊢
      rw [mj_upI_ne (show (44 : Nat) ≠ 43 by decide), mj_upI_ne (show (45 : Nat) ≠ 43 by decide), mj_upI_ne (show 34 + 2 * t + 1 ≠ 34 + 2 * j by omega)]
      by_cases htj : t = j
      · subst htj
        rw [mj_upI_eq, mj_upI_eq, mj_upI_eq, if_neg (by decide), if_pos rfl, if_pos rfl]
        exact ⟨hH.1, hH.2.1, Or.inl ⟨rfl, rfl⟩, hH.2.2.2⟩
      · have ntj : ¬ nI t = nI j := fun hh => htj ((rq_nIe (by omega) (by omega)).mp hh)
        rw [mj_upI_ne (show 34 + 2 * t ≠ 34 + 2 * j by omega), mj_upI_eq, if_neg ntj]
        exact hH
    rcases (hH0 j hj).2.2.1 with ⟨h1, h2⟩ | ⟨h1, h2, h3⟩
    · rw [h1, h2, if_pos rfl, if_pos rfl]; exact rq_Vi rfl key
    · rw [h1, h2, if_neg rq_n10, if_neg]
      · exact rq_Vi rfl key
      · intro h9
        rw [h9] at h3
        have := (mj_inb h3).1
        revert this
        decide
  · rw [e, if_pos rfl, if_pos rfl]; exact rq_Vof h
theorem rq_wi_hc {i L : Int32} {I : mj_I} : s_X6_within i 0 (L - 1) I = bI (sp_hc L i 1) := by
  unfold s_X6_within sp_hc
  by_cases h1 : i < 0
  · rw [if_pos h1, if_pos h1]; rfl
  · rw [if_neg h1, if_neg h1]
    by_cases h2 : L - 1 < i
    · rw [if_pos h2, if_pos h2]; rfl
    · rw [if_neg h2, if_neg h2]; rfl
theorem rq_n9 {a : Int32} (h : mj_in a 3) : ¬ a = -9 := by
  rintro rfl
  have := (mj_inb h).1
  revert this
  decide
theorem rq_v_cell (hc : cc = 2 ∨ cc = 10) (h : mj_RL cc m p R A B) (s i a : Int32) : rq_V cc (s_X5_cell s i a A) (s_X6_cell s i a B) := by
  unfold s_X5_cell s_X6_cell
  rw [rq_sh_eq A (mj_upI B 42 0 0), rq_so_eq A (mj_upI B 42 0 0)]
  rcases rq_sheet (k := s) (A := A) with ⟨j, hj, rfl, e⟩ | e
  · rw [e, if_neg rq_n10, if_neg rq_n10, mj_tnm (show j < 2147483648 by omega)]
    by_cases hl : s_X5_isLane a A = 0
    · rw [if_pos hl, if_pos hl]; exact rq_Vi rfl (rq_RL_0 hc h)
    · rw [if_neg hl, if_neg hl]
      obtain ⟨hlen, h44, hso, hce⟩ := h.2.2.2.2.2.2.1 j hj
      rw [rq_wi_hc, h44]
      unfold sp_fot
      rcases hso with ⟨h1, h2⟩ | ⟨h1, h2, h3⟩
      · rw [h1, h2, if_pos rfl, if_pos rfl, if_neg rq_n10]
        exact rq_Vi rfl (rq_RL_1 hc h)
      · rw [h1, h2, if_neg rq_n10, if_neg (rq_n9 h3)]
        by_cases ha : A (34 + 2 * j) 1 = a
        · rw [if_pos ha, if_pos ha, if_neg (show ¬ (1 : Int32) < 0 by decide)]
          cases hh : sp_hc (A (34 + 2 * j) 2) i 1 with
          | false =>
            rw [if_neg (show ¬ false = true by decide), if_pos (show bI false = 0 by decide), if_neg (show ¬ (3 : Int32) = 0 by decide)]
            exact rq_Vi rfl (rq_RL_1 hc h)
          | true =>
            rw [if_pos rfl, if_neg (show ¬ bI true = 0 by decide), if_pos rfl]
            obtain ⟨t, ht, rfl⟩ := mj6_nat (mj_hcin hh hlen) (by decide)
            refine rq_Vi ?_ (rq_RL_0 hc h)
            rw [rq_60 hj, nI_add, hce t ht]
        · rw [if_neg ha, if_neg ha, if_neg (show ¬ (2 : Int32) = 0 by decide)]
          exact rq_Vi rfl (rq_RL_1 hc h)
  · rw [e, if_pos rfl, if_pos rfl]; exact rq_Vi rfl (rq_RL_0 hc h)
theorem rq_RL_p {j t : Nat} {w : Int32} (hc : cc = 2 ∨ cc = 10) (h : mj_RL cc m p R A B) (hj : j < 4) (ht : t < 60) : mj_RL cc m p R (mj_upI (mj_upI A 1 13 0) (34 + 2 * j + 1) (nI t) w) (mj_upI (mj_upI B 42 0 0) 45 (nI (60 * j + t)) w) := by
  refine rq_RL_h hc h (fun x hx => by rw [mj_upI_ne (by omega), mj_upI_ne (by omega)]) ⟨by rw [mj_upI_ne (by omega), mj_upI_eq, if_neg (by decide)], by rw [mj_upI_ne (by omega), mj_upI_eq, if_neg (by decide)]⟩ (by rw [mj_upI_ne (by omega), mj_upI_ne (by omega)]) (fun x hx => by rw [mj_upI_ne (by omega), mj_upI_ne (by omega)]) (fun y hy => by rw [mj_upI_ne (by decide), mj_upI_eq, if_neg hy]) (by rw [mj_upI_ne (by decide), mj_upI_eq, if_pos rfl, mj_upI_ne (by omega), mj_upI_eq, if_pos rfl]) ?_
  intro k hk
  have hH := h.2.2.2.2.2.2.1 k hk
  unfold mj_rH1 at hH ⊢
  rw [mj_upI_ne (show (44 : Nat) ≠ 45 by decide), mj_upI_ne (show (44 : Nat) ≠ 42 by decide), mj_upI_ne (show (43 : Nat) ≠ 45 by decide), mj_upI_ne (show (43 : Nat) ≠ 42 by decide), mj_upI_ne (show 34 + 2 * k ≠ 34 + 2 * j + 1 by omega), mj_upI_ne (show 34 + 2 * k ≠ 1 by omega)]
  refine ⟨hH.1, hH.2.1, hH.2.2.1, fun i hi => ?_⟩
  rw [mj_upI_eq, mj_upI_ne (show (45 : Nat) ≠ 42 by decide)]
  by_cases hkj : k = j
  · subst hkj
    rw [mj_upI_eq, mj_upI_ne (show 34 + 2 * k + 1 ≠ 1 by omega)]
    by_cases hit : i = t
    · subst hit; rw [if_pos rfl, if_pos rfl]
    · rw [if_neg (fun hh => hit (by have := (rq_nIe (by omega) (by omega)).mp hh; omega)), if_neg (fun hh => hit ((rq_nIe (by omega) (by omega)).mp hh))]
      exact hH.2.2.2 i hi
  · rw [if_neg (fun hh => hkj (by have := (rq_nIe (by omega) (by omega)).mp hh; omega)), mj_upI_ne (show 34 + 2 * k + 1 ≠ 34 + 2 * j + 1 by omega), mj_upI_ne (show 34 + 2 * k + 1 ≠ 1 by omega)]
    exact hH.2.2.2 i hi
theorem rq_v_put (hc : cc = 2 ∨ cc = 10) (h : mj_RL cc m p R A B) (k i v : Int32) : rq_V cc (s_X5_put k i v A) (s_X6_put k i v B) := by
  unfold s_X5_put s_X6_put
  rw [rq_sh_eq A (mj_upI B 42 0 0)]
  rcases rq_sheet (k := k) (A := A) with ⟨j, hj, rfl, e⟩ | e
  · rw [e, if_neg rq_n10, if_neg rq_n10, mj_tnm (show j < 2147483648 by omega)]
    obtain ⟨hlen, h44, hso, hce⟩ := h.2.2.2.2.2.2.1 j hj
    rw [rq_wi_hc, h44]
    rcases hso with ⟨h1, h2⟩ | ⟨h1, h2, h3⟩
    · rw [h1, h2, if_pos rfl, if_pos rfl]
      exact rq_Vi rfl (rq_RL_1 hc h)
    · rw [h1, h2, if_neg rq_n10, if_neg (rq_n9 h3)]
      cases hh : sp_hc (A (34 + 2 * j) 2) i 1 with
      | false =>
        rw [if_neg (show ¬ false = true by decide), if_pos (show bI false = 0 by decide)]
        exact rq_Vi rfl (rq_RL_1 hc h)
      | true =>
        rw [if_pos rfl, if_neg (show ¬ bI true = 0 by decide)]
        obtain ⟨t, ht, rfl⟩ := mj6_nat (mj_hcin hh hlen) (by decide)
        rw [rq_60 hj, nI_add]
        have el : mj_upI A 1 13 0 (34 + 2 * j) 1 = A (34 + 2 * j) 1 := by rw [mj_upI_ne (by omega)]
        unfold sp_cut
        by_cases l0 : A (34 + 2 * j) 1 = 0
        · simp only [el, l0, if_true]
          exact rq_Vi rfl (rq_RL_p hc h hj ht)
        · by_cases l1 : A (34 + 2 * j) 1 = 1
          · simp only [el, l1, if_true, if_neg (show ¬ (1 : Int32) = 0 by decide)]
            exact rq_Vi rfl (rq_RL_p hc h hj ht)
          · simp only [el, if_neg l0, if_neg l1]
            exact rq_Vi rfl (rq_RL_p hc h hj ht)
  · rw [e, if_pos rfl, if_pos rfl]; exact rq_Vi rfl (rq_RL_0 hc h)
end VG
