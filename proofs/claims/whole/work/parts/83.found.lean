/-! the quickest: found, and told -/
/-- the chain stands in the queue up to J -/
def rq_Cq (A : mj_I) (cc m F : Nat) (T : Nat → Nat) (M : mj_I) (n : Nat) (q L : Nat → Nat) (at0 J : Nat) : Prop := J ≤ T F ∧ (∃ ps, at0 ≤ ps ∧ ps < n ∧ q ps = rq_ch A cc m T F J ∧ L ps = J + 1 ∧ ∀ t, t < ps → L t = J + 1 → T (q t) + J ≠ T F) ∧ (∀ t, t < n → J + 1 < L t → T (q t) + L t ≠ T F + 1) ∧ ∀ i, i ≤ J → M 23 (nI (rq_kn (rq_ch A cc m T F i))) ≠ 0 ∧ M 22 (nI (rq_kn (rq_ch A cc m T F i))) = if i = 0 then -1 else nI (rq_kn (rq_ch A cc m T F (i - 1)))
section VC
variable {cc m p R F : Nat} {A B : mj_I}
theorem rq_found (hcc : cc = 2 ∨ cc = 10) (hR : mj_RL cc m p R A B) (s e : Int32) {T : Nat → Nat} (hr : rq_ri A cc m p 23 T) (hF : F < 2058) (hok : rq_okv A cc m p F) (h9 : T F ≠ 1000) : ∀ (k at0 n : Nat) (q L : Nat → Nat) (M : mj_I) (J : Nat), k + at0 = 3072 → (∀ x, cc ≤ x → x ≤ cc + 7 → M x = A x) → rq_Qu A cc m p F M n q L → (at0 < n → ∀ t, t < n → L t ≤ L at0 + 1) → rq_Cq A cc m F T M n q L at0 J →
    ∃ M2 : mj_I, s_X3_qd cc m s e k at0 M = s_X3_tellFound (nI (rq_kn (rq_ch A cc m T F (T F)))) M2 ∧ (∀ x, x < 20 ∨ 23 < x → M2 x = M x) ∧ M2 23 (nI (rq_kn (rq_ch A cc m T F (T F)))) = nI (T F + 1) ∧ ∀ i, i ≤ T F → M2 22 (nI (rq_kn (rq_ch A cc m T F i))) = if i = 0 then -1 else nI (rq_kn (rq_ch A cc m T F (i - 1))) := by
  have hm := hR.1.1
  have hTF := (rq_ri_cn hr hF hok h9).2
  have chok := rq_ch_ok hR hr hF hok h9
  intro k
  induction k with
  | zero =>
    intro at0 n q L M J hk hM h hL hC
    have := rq_Qu_n h
    obtain ⟨_, ⟨ps, a1, a2, _⟩, _⟩ := hC
    omega
  | succ k ih =>
    intro at0 n q L M J hk hM h hL hC
    obtain ⟨hJ, ⟨ps, p1, p2, p3, p4, p5⟩, hB, hI⟩ := hC
    have hat : at0 < n := by omega
    have hL := hL hat
    obtain ⟨g1, g2, g3, g4⟩ := h.2.1 at0 hat
    have lv : L at0 ≤ J + 1 := by have := h.2.2.2.2.1 at0 ps p1 p2; omega
    have reach : ∀ t, t < n → T (q t) ≠ 1000 → T F ≤ T (q t) + L t - 1 := by
      intro t ht h1
      obtain ⟨t1, _, _, t4⟩ := h.2.1 t ht
      obtain ⟨c1, c2⟩ := rq_ri_cn hr t1.1 t1.2 h1
      have := h.2.2.2.2.2 t ht _ c1
      rcases Nat.lt_or_ge 23 (T (q t) + L t - 1) with w | w
      · omega
      · exact rq_ri_le hr hF hok w this
    rw [rq_look hcc hR s e hat h]
    have mono : ∀ (n2 : Nat) (q2 L2 : Nat → Nat) (M2 : mj_I), rq_Qu A cc m p F M2 n2 q2 L2 → n ≤ n2 → L2 at0 = L at0 → (∀ t, t < n2 → L2 t ≤ L at0 + 1) → (at0 + 1 < n2 → ∀ t, t < n2 → L2 t ≤ L2 (at0 + 1) + 1) := by
      intro n2 q2 L2 M2 h2 hn2 hl2 ht2 ha t ht
      have := h2.2.2.2.2.1 at0 (at0 + 1) (by omega) ha
      have := ht2 t ht
      omega
    by_cases hps : at0 = ps
    · subst hps
      obtain ⟨j1, j2, j3⟩ := chok J hJ
      by_cases hJD : J = T F
      · -- all ripe
        have t0 : T (rq_ch A cc m T F J) = 0 := by omega
        have gl : rq_ch A cc m T F J / 6 = 342 := by
          have := (rq_ri_cn hr j1 j2 (by omega)).1
          rw [t0] at this
          exact this
        rw [p3, if_pos gl]
        refine ⟨M, by rw [hJD], fun _ _ => rfl, ?_, fun i hi => (hI i (by omega)).2⟩
        rw [p3, hJD] at g3
        rw [g3, p4, hJD]
      · have ng : ¬ rq_ch A cc m T F J / 6 = 342 := fun g => by
          have := rq_ri_le hr j1 j2 (d := 0) (by omega) g
          omega
        rw [p3, if_neg ng, p4, if_pos (show J + 1 < 24 by omega)]
        rw [p3] at g1 g3
        rw [p4] at g3
        obtain ⟨t, t1, t2, t3⟩ := rq_near hR hr j1 j2 (by omega) (by omega)
        obtain ⟨u, b1, b2, b3, b4, b5, b6⟩ := rq_n1s m 0 ⟨t, by omega, by omega, t2, t3⟩
        have ch1 : rq_ch A cc m T F (J + 1) = rq_bv A cc (rq_ch A cc m T F J) u := b5
        have hrw : ∀ d, rq_cn A cc m d (rq_ch A cc m T F J) → rq_cn A cc m (d + (J + 1) - 1) F := by
          have := h.2.2.2.2.2 at0 hat
          rw [p3, p4] at this
          exact this
        have hLJ : ∀ t, t < n → L t ≤ J + 1 + 1 := fun t ht => by have := hL t ht; omega
        -- the streets in front of u
        obtain ⟨n1, q1, L1, i1, i2, i3, i4, i5, i6⟩ := rq_go9 hcc hR j1 j2 (l := J + 1) (by omega) hrw u 0 n q L M (by omega) hM h g3 hLJ
        have split : s_X3_go1 cc m (nI (rq_kn (rq_ch A cc m T F J))) (nI (rq_ch A cc m T F J % 6)) m 0 M = s_X3_go1 cc m (nI (rq_kn (rq_ch A cc m T F J))) (nI (rq_ch A cc m T F J % 6)) (m - u) u (s_X3_go1 cc m (nI (rq_kn (rq_ch A cc m T F J))) (nI (rq_ch A cc m T F J % 6)) u 0 M) := by
          have := rq_go_add cc m (nI (rq_kn (rq_ch A cc m T F J))) (nI (rq_ch A cc m T F J % 6)) u (m - u) 0 M
          rw [show u + (m - u) = m by omega, Nat.zero_add] at this
          exact this
        rw [split]
        revert i1 i5 i6
        generalize s_X3_go1 cc m (nI (rq_kn (rq_ch A cc m T F J))) (nI (rq_ch A cc m T F J % 6)) u 0 M = M1
        intro i1 i5 i6
        obtain ⟨x, hx⟩ : ∃ x, m - u = x + 1 := ⟨m - u - 1, by omega⟩
        have hM1 : ∀ x, cc ≤ x → x ≤ cc + 7 → M1 x = A x := fun x h1 h2 => by rw [i6 x (by omega)]; exact hM x h1 h2
        have g31 : M1 23 (nI (rq_kn (rq_ch A cc m T F J))) = nI (J + 1) := by
          rw [(i5 _ j1 (by rw [g3]; exact fun g => by have := (rq_nIe (b := 0) (by omega) (by omega)).mp g; omega)).2]; exact g3
        obtain ⟨_, d2, d3⟩ := rq_Bv hR j1 j2 (show u < m by omega)
        have hL1 : ∀ t, t < n1 → L1 t ≤ J + 1 + 1 := by
          intro t ht
          by_cases htn : t < n
          · rw [(i3 t htn).2]; exact hLJ t htn
          · rw [(i4 t (by omega) ht).1]; exact Nat.le_refl _
        rw [hx, s_X3_go1, hM1 (cc + 2) (by omega) (by omega), if_pos (show sp_can (A (cc + 2)) (nI (rq_ch A cc m T F J % 6)) (nI u) = true from b3), rq_bday hcc hR hM1 j1 j2 (show u < m by omega), g31, show nI (J + 1) + 1 = nI (J + 1 + 1) from nI_1 (J + 1)]
        have reach2 : ∀ d, rq_cn A cc m d (rq_bv A cc (rq_ch A cc m T F J) u) → rq_cn A cc m (d + (J + 1 + 1) - 1) F := by
          intro d hd
          have := hrw (d + 1) (Or.inr ⟨u, by omega, b3, hd⟩)
          rwa [show d + 1 + (J + 1) - 1 = d + (J + 1 + 1) - 1 by omega] at this
        have Tn : T (rq_bv A cc (rq_ch A cc m T F J) u) + (J + 1) = T F := by omega
        rcases rq_come (e := nI (rq_kn (rq_ch A cc m T F J))) i1 d2 d3 (l := J + 1 + 1) (by omega) hL1 reach2 with ⟨c0, c1⟩ | ⟨c0, c1, c2, c3⟩
        · exfalso
          obtain ⟨v, hv, hq⟩ := i1.2.2.1 _ d2 c0
          by_cases hvn : v < n
          · obtain ⟨a1, a2⟩ := i3 v hvn
            rw [a1] at hq
            have r1 := reach v hvn (by rw [hq]; omega)
            rw [hq] at r1
            have l4 := (h.2.1 v hvn).2.2.2
            have := hLJ v hvn
            exact hB v hvn (by omega) (by rw [hq]; omega)
          · obtain ⟨_, w, w1, w2, w3, w4⟩ := i4 v (by omega) hv
            exact b6 w (by omega) (by omega) w3 (by rw [← w4, hq]; omega)
        · have frc : ∀ x, x < 20 ∨ 23 < x → s_X3_come (nI (rq_kn (rq_bv A cc (rq_ch A cc m T F J) u))) (nI (rq_kn (rq_ch A cc m T F J))) (nI (J + 1 + 1)) M1 x = M1 x := fun x hx => mj_come_fr _ _ _ _ _ (by omega) (by omega) (by omega) (by omega)
          revert c1 c2 c3 frc
          generalize s_X3_come (nI (rq_kn (rq_bv A cc (rq_ch A cc m T F J) u))) (nI (rq_kn (rq_ch A cc m T F J))) (nI (J + 1 + 1)) M1 = M3
          intro c1 c2 c3 frc
          have wne : rq_ch A cc m T F J ≠ rq_bv A cc (rq_ch A cc m T F J) u := fun g => by
            have := congrArg T g
            omega
          have L1n : rq_up L1 n1 (J + 1 + 1) n1 = J + 1 + 1 := if_pos rfl
          have q1n : rq_up q1 n1 (rq_bv A cc (rq_ch A cc m T F J) u) n1 = rq_bv A cc (rq_ch A cc m T F J) u := if_pos rfl
          obtain ⟨n4, q4, L4, k1, k2, k3, k4, k5, k6⟩ := rq_go9 hcc hR j1 j2 (l := J + 1) (by omega) hrw x (u + 1) (n1 + 1) _ _ M3 (by omega) (fun x h1 h2 => by rw [frc x (by omega)]; exact hM1 x h1 h2) c1 (by rw [(c3 _ j1 wne).2]; exact g31) (fun t ht => by
            by_cases htn : t = n1
            · rw [htn, L1n]; exact Nat.le_refl _
            · rw [show rq_up L1 n1 (J + 1 + 1) t = L1 t from if_neg htn]; exact hL1 t (by omega))
          have oldq : ∀ t, t < n → q4 t = q t ∧ L4 t = L t := by
            intro t ht
            obtain ⟨a1, a2⟩ := k3 t (by omega)
            obtain ⟨a3, a4⟩ := i3 t ht
            rw [a1, a2, ← a3, ← a4]
            exact ⟨if_neg (by omega), if_neg (by omega)⟩
          have l4 : ∀ t, t < n4 → L4 t ≤ J + 1 + 1 := by
            intro t ht
            by_cases htn : t < n1 + 1
            · rw [(k3 t htn).2]
              by_cases hte : t = n1
              · rw [hte, L1n]; exact Nat.le_refl _
              · rw [show rq_up L1 n1 (J + 1 + 1) t = L1 t from if_neg hte]; exact hL1 t (by omega)
            · rw [(k4 t (by omega) ht).1]; exact Nat.le_refl _
          have keep : ∀ y, y < 2058 → M 23 (nI (rq_kn y)) ≠ 0 → s_X3_go1 cc m (nI (rq_kn (rq_ch A cc m T F J))) (nI (rq_ch A cc m T F J % 6)) x (u + 1) M3 22 (nI (rq_kn y)) = M 22 (nI (rq_kn y)) ∧ s_X3_go1 cc m (nI (rq_kn (rq_ch A cc m T F J))) (nI (rq_ch A cc m T F J % 6)) x (u + 1) M3 23 (nI (rq_kn y)) = M 23 (nI (rq_kn y)) := by
            intro y hy hy0
            obtain ⟨e1, e2⟩ := i5 y hy hy0
            have hyn : y ≠ rq_bv A cc (rq_ch A cc m T F J) u := fun g => by rw [← g, e2] at c0; exact hy0 c0
            obtain ⟨e3, e4⟩ := c3 y hy hyn
            obtain ⟨e5, e6⟩ := k5 y hy (by rw [e4, e2]; exact hy0)
            rw [e5, e6, e3, e4, e1, e2]
            exact ⟨rfl, rfl⟩
          have m3new : M3 23 (nI (rq_kn (rq_bv A cc (rq_ch A cc m T F J) u))) = nI (J + 1 + 1) := by
            have := (c1.2.1 n1 (by omega)).2.2.1
            rw [q1n, L1n] at this
            exact this
          have nz : ¬ nI (J + 1 + 1) = 0 := fun g => by have := (rq_nIe (b := 0) (by omega) (by omega)).mp g; omega
          have hC4 : rq_Cq A cc m F T (s_X3_go1 cc m (nI (rq_kn (rq_ch A cc m T F J))) (nI (rq_ch A cc m T F J % 6)) x (u + 1) M3) n4 q4 L4 (at0 + 1) (J + 1) := by
            refine ⟨by omega, ⟨n1, by omega, by omega, by rw [(k3 n1 (by omega)).1, q1n, ch1], by rw [(k3 n1 (by omega)).2, L1n], fun t ht hlt => ?_⟩, fun t ht hlt => absurd (l4 t ht) (by omega), fun i hi => ?_⟩
            · by_cases htn : t < n
              · obtain ⟨a1, a2⟩ := oldq t htn
                rw [a2] at hlt
                rw [a1]
                have := hB t htn (by omega)
                omega
              · obtain ⟨a1, a2⟩ := k3 t (by omega)
                obtain ⟨_, w, w1, w2, w3, w4⟩ := i4 t (by omega) ht
                rw [a1, show rq_up q1 n1 (rq_bv A cc (rq_ch A cc m T F J) u) t = q1 t from if_neg (by omega), w4]
                have := b6 w (by omega) (by omega) w3
                omega
            · by_cases hiJ : i = J + 1
              · subst hiJ
                rw [if_neg (by omega), Nat.add_sub_cancel, ch1]
                obtain ⟨e5, e6⟩ := k5 _ d2 (by rw [m3new]; exact nz)
                rw [e5, e6, m3new, c2]
                exact ⟨nz, rfl⟩
              · obtain ⟨a1, a2⟩ := hI i (by omega)
                obtain ⟨e5, e6⟩ := keep _ (chok i (by omega)).1 a1
                rw [e5, e6]
                exact ⟨a1, a2⟩
          obtain ⟨M2, z1, z2, z3, z4⟩ := ih (at0 + 1) n4 q4 L4 _ (J + 1) (by omega) (fun x h1 h2 => by rw [k6 x (by omega), frc x (by omega)]; exact hM1 x h1 h2) k1 (mono n4 q4 L4 _ k1 (by omega) (oldq at0 hat).2 (fun t ht => by rw [p4]; exact l4 t ht)) hC4
          exact ⟨M2, z1, fun x hx => by rw [z2 x hx, k6 x hx, frc x hx, i6 x hx], z3, z4⟩
    · -- in front of the chain's head
      have ng : ¬ q at0 / 6 = 342 := by
        intro g
        have c0 : rq_cn A cc m 0 (q at0) := g
        have t0 := rq_ri_le hr g1.1 g1.2 (d := 0) (by omega) c0
        have r1 := reach at0 hat (by omega)
        have : L at0 = J + 1 := by omega
        exact p5 at0 (by omega) this (by omega)
      rw [if_neg ng]
      by_cases h24 : L at0 < 24
      · rw [if_pos h24]
        obtain ⟨n2, q2, L2, i1, i2, i3, i4, i5, i6⟩ := rq_go9 hcc hR g1.1 g1.2 (l := L at0) (by omega) (h.2.2.2.2.2 at0 hat) m 0 n q L M (by omega) hM h g3 hL
        have hC4 : rq_Cq A cc m F T (s_X3_go1 cc m (nI (rq_kn (q at0))) (nI (q at0 % 6)) m 0 M) n2 q2 L2 (at0 + 1) J := by
          refine ⟨hJ, ⟨ps, by omega, by omega, by rw [(i3 ps p2).1]; exact p3, by rw [(i3 ps p2).2]; exact p4, fun t ht hlt => by
              obtain ⟨a1, a2⟩ := i3 t (by omega)
              rw [a2] at hlt
              rw [a1]
              exact p5 t ht hlt⟩, fun t ht hlt => ?_, fun i hi => ?_⟩
          · by_cases htn : t < n
            · obtain ⟨a1, a2⟩ := i3 t htn
              rw [a2] at hlt ⊢
              rw [a1]
              exact hB t htn hlt
            · obtain ⟨a1, w, w1, w2, w3, w4⟩ := i4 t (by omega) ht
              rw [a1] at hlt ⊢
              rw [w4]
              intro g
              have lJ : L at0 = J + 1 := by omega
              obtain ⟨_, d2, d3⟩ := rq_Bv hR g1.1 g1.2 (show w < m by omega)
              have nb := (rq_ri_cn hr d2 d3 (by omega)).1
              have up : rq_cn A cc m (T (rq_bv A cc (q at0) w) + 1) (q at0) := Or.inr ⟨w, by omega, w3, nb⟩
              have le := rq_ri_le hr g1.1 g1.2 (by omega) up
              have r1 := reach at0 hat (by omega)
              exact p5 at0 (by omega) lJ (by omega)
          · obtain ⟨a1, a2⟩ := hI i hi
            obtain ⟨e5, e6⟩ := i5 _ (chok i (by omega)).1 a1
            rw [e5, e6]
            exact ⟨a1, a2⟩
        obtain ⟨M2, z1, z2, z3, z4⟩ := ih (at0 + 1) n2 q2 L2 _ J (by omega) (fun x h1 h2 => by rw [i6 x (by omega)]; exact hM x h1 h2) i1 (mono n2 q2 L2 _ i1 i2 (i3 at0 hat).2 (fun t ht => by
          by_cases htn : t < n
          · rw [(i3 t htn).2]; exact hL t htn
          · rw [(i4 t (by omega) ht).1]; exact Nat.le_refl _)) hC4
        exact ⟨M2, z1, fun x hx => by rw [z2 x hx, i6 x hx], z3, z4⟩
      · rw [if_neg h24]
        exact ih (at0 + 1) n q L M J (by omega) hM h (mono n q L M h (Nat.le_refl _) rfl hL) ⟨hJ, ⟨ps, by omega, p2, p3, p4, p5⟩, hB, hI⟩
end VC
