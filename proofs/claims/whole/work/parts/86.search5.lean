/-! the quickest answers alike -/
theorem rq_p8 : ∀ p : Fin 4, (1 : Int32) <<< (nI p.1 &&& 31) = nI (2 ^ p.1) := by decide +kernel
section VQ2
variable {cc m p R : Nat} {A B : mj_I}
theorem rq_qu (hR : mj_RL cc m p R A B) {I : mj_I} {T : Nat → Nat} (hf : rq_ft A cc m p B I T) (hr : rq_ri A cc m p 23 T) {F : Nat} (hF : F < 2058) (hok : rq_okv A cc m p F) (h9 : T F ≠ 1000) (v s : Int32) (w : Nat) : ∀ (k j i : Nat), i + k ≤ T F → s_X6_qu v s w m k j (nI (rq_ch A cc m T F i)) I = (nI (rq_ch A cc m T F (i + k) % 6), I) := by
  have chok := rq_ch_ok hR hr hF hok h9
  have hTF := (rq_ri_cn hr hF hok h9).2
  intro k
  induction k with
  | zero =>
    intro j i hi
    obtain ⟨a1, _, _⟩ := chok i (by omega)
    rw [s_X6_qu, (rq_d6 (G := rq_ch A cc m T F i) (by omega)).2]
    rfl
  | succ k ih =>
    intro j i hi
    obtain ⟨a1, a2, a3⟩ := chok i (by omega)
    have e : mj6_NB (nI (rq_ch A cc m T F i)) m I = nI (rq_ch A cc m T F (i + 1)) := rq_nb hR hf a1 a2 (by omega) (by omega) m 0 (by omega)
    rw [s_X6_qu, e, ih (j + 1) (i + 1) (by omega), show i + 1 + k = i + (k + 1) by omega]
/-- the class's search -/
theorem rq_qd5 (hcc : cc = 2 ∨ cc = 10) (h : mj_RL cc m p R A B) {x st : Nat} (hx : x < 2 ^ p) (hx0 : x ≠ 0) (hst : st < m) {T : Nat → Nat} (hr : rq_ri A cc m p 23 T) : rq_bv A cc (rq_sn x st) st < 2058 ∧ rq_okv A cc m p (rq_bv A cc (rq_sn x st) st) ∧ mj_RL cc m p R (s_X3_quickestDays cc m (nI x) (nI st) A).2 B ∧ ((T (rq_bv A cc (rq_sn x st) st) = 1000 ∧ (s_X3_quickestDays cc m (nI x) (nI st) A).1 = -9) ∨ (T (rq_bv A cc (rq_sn x st) st) ≠ 1000 ∧ (s_X3_quickestDays cc m (nI x) (nI st) A).1 = nI (T (rq_bv A cc (rq_sn x st) st) + 1) ∧ ∀ t, t ≤ T (rq_bv A cc (rq_sn x st) st) → (s_X3_quickestDays cc m (nI x) (nI st) A).2 24 (nI t) = nI (rq_ch A cc m T (rq_bv A cc (rq_sn x st) st) t % 6))) := by
  have hm := h.1.1
  have hp3 := h.1.2.1
  have p2 : 2 ^ p ≤ 8 := Nat.pow_le_pow_right (n := 2) (by omega) hp3
  obtain ⟨n1, n2, _⟩ := rq_sn_ok (A := A) (cc := cc) hp3 hx hst hm
  obtain ⟨z1, z2, _⟩ := rq_sn_ok (A := A) (cc := cc) (m := m) hp3 hx (show 0 < m by omega) hm
  obtain ⟨_, f1, f2⟩ := rq_Bv h n1 n2 hst
  have bg : ∀ j, rq_bg x j = 0 ∨ rq_bg x j = 6 := fun j => by unfold rq_bg; split <;> omega
  have b0 := bg 0
  have b1 := bg 1
  have b2 := bg 2
  have same : rq_bv A cc (rq_sn x 0) st = rq_bv A cc (rq_sn x st) st := by
    unfold rq_bv
    rw [show rq_sn x 0 / 6 % 7 = rq_sn x st / 6 % 7 by unfold rq_sn; omega, show rq_sn x 0 / 42 % 7 = rq_sn x st / 42 % 7 by unfold rq_sn; omega, show rq_sn x 0 / 294 % 7 = rq_sn x st / 294 % 7 by unfold rq_sn; omega]
  have hI0 : ∀ z, z ≠ 20 → z ≠ 23 → mj_upI (mj_fil A 23 3072 0) 20 4 0 z = A z := fun z a1 a2 => by rw [mj_upI_ne a1, mj_fil_ne a2]
  have hSQ := mj_SQ0 (cc := cc) (m := m) hcc h.2.1.1.1 (rq_RL_E h)
  have e23 : ∀ y, y < 3072 → mj_upI (mj_fil A 23 3072 0) 20 4 0 23 (nI y) = 0 := fun y hy => by
    rw [mj_upI_ne (by decide)]
    unfold mj_fil
    rw [mj_rwI_eq, if_pos (by rw [nI_toInt (by omega)]; omega)]
  have e20 : mj_upI (mj_fil A 23 3072 0) 20 4 0 20 4 = nI 0 := by rw [mj_upI_eq, if_pos rfl]; rfl
  unfold s_X3_quickestDays
  rw [if_neg (show ¬ nI x = 0 from fun g => hx0 ((rq_nIe (b := 0) (by omega) (by omega)).mp g))]
  dsimp only
  revert hSQ e23 e20 hI0
  generalize mj_upI (mj_fil A 23 3072 0) 20 4 0 = I0
  intro hI0 hSQ e23 e20
  rw [rq_st9 (show x < 8 by omega) (show 0 < 6 by omega), rq_bday hcc h (fun z a1 a2 => hI0 z (by omega) (by omega)) z1 z2 hst, same]
  have Q0 : rq_Qu A cc m p (rq_bv A cc (rq_sn x st) st) I0 0 (fun _ => 0) (fun _ => 0) := by
    refine ⟨e20, fun t ht => absurd ht (by omega), fun y hy g => absurd (e23 _ (rq_kn_lt y)) g, ?_, fun _ t _ ht => absurd ht (by omega), fun t ht => absurd ht (by omega)⟩
    rw [rq_S_eq (g := fun _ => 0) 2058 (fun y _ => if_pos (e23 _ (rq_kn_lt y))), rq_S_0]
  have e1 : s_X3_come (nI (rq_kn (rq_bv A cc (rq_sn x st) st))) (-1) 1 I0 = s_X3_come (nI (rq_kn (rq_bv A cc (rq_sn x st) st))) (-1) (nI 1) I0 := rfl
  rw [e1]
  have hSQ2 := mj_come_SQ (s := nI (rq_kn (rq_bv A cc (rq_sn x st) st))) (e := -1) (f := nI 1) hcc (by decide) (by decide) hSQ
  have fr : ∀ z, z < 20 ∨ 23 < z → s_X3_come (nI (rq_kn (rq_bv A cc (rq_sn x st) st))) (-1) (nI 1) I0 z = A z := fun z hz => by
    rw [mj_come_fr _ _ _ _ _ (by omega) (by omega) (by omega) (by omega), hI0 z (by omega) (by omega)]
  rcases rq_come (e := -1) Q0 f1 f2 (l := 1) (by omega) (fun t ht => absurd ht (by omega)) (fun d hd => hd) with ⟨c0, _⟩ | ⟨_, c1, c2, _⟩
  · exact absurd (e23 _ (rq_kn_lt _)) c0
  · revert c1 c2 fr hSQ2
    generalize s_X3_come (nI (rq_kn (rq_bv A cc (rq_sn x st) st))) (-1) (nI 1) I0 = M0
    intro hSQ2 fr c1 c2
    have rE := rq_qE hcc (nI x) (nI st) 3072 0 M0 rfl hSQ2
    have rl : (∀ z, (z < 20 ∨ 24 < z) → (s_X3_qd cc m (nI x) (nI st) 3072 0 M0).2 z = A z) → mj_RL cc m p R (s_X3_qd cc m (nI x) (nI st) 3072 0 M0).2 B := fun hz =>
      rq_RL_s hcc h (fun z a => hz z (by omega)) (by rw [hz 1 (by omega)]; exact ⟨rfl, rfl⟩) rE (fun _ _ => rfl) ⟨rfl, rfl, rfl, rfl, rfl⟩ (by rw [hz 1 (by omega)]; exact h.2.2.1.2)
    refine ⟨f1, f2, ?_⟩
    by_cases h9 : T (rq_bv A cc (rq_sn x st) st) = 1000
    · obtain ⟨r1, r2⟩ := rq_none hcc h (nI x) (nI st) hr f1 f2 h9 3072 0 1 _ _ M0 rfl (fun z a1 a2 => fr z (by omega)) c1 (fun _ t ht => by
        have : t = 0 := by omega
        subst this
        omega)
      exact ⟨rl (fun z hz => by rw [r2 z (by omega), fr z (by omega)]), Or.inl ⟨h9, r1⟩⟩
    · have c23 := (c1.2.1 0 (by omega)).2.2.1
      have q0 : rq_up (fun _ => 0) 0 (rq_bv A cc (rq_sn x st) st) 0 = rq_bv A cc (rq_sn x st) st := if_pos rfl
      have l0 : rq_up (fun _ => 0) 0 1 0 = 1 := if_pos rfl
      rw [q0, l0] at c23
      obtain ⟨M2, g1, g2, g3, g4⟩ := rq_found hcc h (nI x) (nI st) hr f1 f2 h9 3072 0 1 _ _ M0 0 rfl (fun z a1 a2 => fr z (by omega)) c1 (fun _ t ht => by
        have : t = 0 := by omega
        subst this
        omega) ⟨by omega, ⟨0, by omega, by omega, q0, l0, fun t ht => absurd ht (by omega)⟩, fun t ht hl => by
          have : t = 0 := by omega
          subst this
          rw [l0] at hl
          omega, fun i hi => by
          have : i = 0 := by omega
          subst this
          exact ⟨by rw [show rq_ch A cc m T (rq_bv A cc (rq_sn x st) st) 0 = rq_bv A cc (rq_sn x st) st from rfl, c23]; decide, by rw [if_pos rfl]; exact c2⟩⟩
      have hTF := (rq_ri_cn hr f1 f2 h9).2
      have chok := rq_ch_ok h hr f1 f2 h9
      obtain ⟨t1, t2, t3⟩ := rq_tf (a := nI (rq_kn (rq_ch A cc m T (rq_bv A cc (rq_sn x st) st) (T (rq_bv A cc (rq_sn x st) st))))) (ch := fun i => if i ≤ T (rq_bv A cc (rq_sn x st) st) then rq_ch A cc m T (rq_bv A cc (rq_sn x st) st) i else 0) (fun i => by
        show (if i ≤ T (rq_bv A cc (rq_sn x st) st) then rq_ch A cc m T (rq_bv A cc (rq_sn x st) st) i else 0) < 2058
        by_cases hi : i ≤ T (rq_bv A cc (rq_sn x st) st)
        · rw [if_pos hi]; exact (chok i hi).1
        · rw [if_neg hi]; omega) (T (rq_bv A cc (rq_sn x st) st)) 24 0 M2 hTF (by omega) (fun t ht => by
        rw [if_pos ht, if_pos (show t - 1 ≤ T (rq_bv A cc (rq_sn x st) st) by omega)]
        exact g4 t ht)
      rw [if_pos (Nat.le_refl _)] at t1 t2 t3
      have eT : s_X3_qd cc m (nI x) (nI st) 3072 0 M0 = s_X3_tf (nI (rq_kn (rq_ch A cc m T (rq_bv A cc (rq_sn x st) st) (T (rq_bv A cc (rq_sn x st) st))))) 24 0 (nI (rq_kn (rq_ch A cc m T (rq_bv A cc (rq_sn x st) st) (T (rq_bv A cc (rq_sn x st) st))))) (nI (T (rq_bv A cc (rq_sn x st) st))) M2 := by
        rw [g1]
        unfold s_X3_tellFound
        rw [g3, rq_sub1]
      refine ⟨rl (fun z hz => by rw [eT, t2 z (by omega), g2 z (by omega), fr z (by omega)]), Or.inr ⟨h9, by rw [eT, t1, g3], fun t ht => ?_⟩⟩
      rw [eT, t3 t (by omega), if_pos ht, if_pos ht]
end VQ2
