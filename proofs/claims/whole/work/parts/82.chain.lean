/-! the quickest: the chain in the class's queue -/
def rq_n1 (A : mj_I) (cc : Nat) (T : Nat → Nat) (x : Nat) : Nat → Nat → Nat
  | 0, _ => 0
  | k + 1, j => if rq_E A cc (x % 6) j = true ∧ T (rq_bv A cc x j) + 1 = T x then rq_bv A cc x j else rq_n1 A cc T x k (j + 1)
def rq_ch (A : mj_I) (cc m : Nat) (T : Nat → Nat) (F : Nat) : Nat → Nat
  | 0 => F
  | i + 1 => rq_n1 A cc T (rq_ch A cc m T F i) m 0
section VG
variable {cc m p R F : Nat} {A B : mj_I}
theorem rq_n1s {T : Nat → Nat} {x : Nat} : ∀ (k j : Nat), (∃ t, j ≤ t ∧ t < j + k ∧ rq_E A cc (x % 6) t = true ∧ T (rq_bv A cc x t) + 1 = T x) → ∃ t, j ≤ t ∧ t < j + k ∧ rq_E A cc (x % 6) t = true ∧ T (rq_bv A cc x t) + 1 = T x ∧ rq_n1 A cc T x k j = rq_bv A cc x t ∧ ∀ u, j ≤ u → u < t → rq_E A cc (x % 6) u = true → T (rq_bv A cc x u) + 1 ≠ T x := by
  intro k
  induction k with
  | zero => rintro j ⟨t, h1, h2, _⟩; omega
  | succ k ih =>
    rintro j ⟨t, h1, h2, h3, h4⟩
    rw [rq_n1]
    by_cases h : rq_E A cc (x % 6) j = true ∧ T (rq_bv A cc x j) + 1 = T x
    · rw [if_pos h]
      exact ⟨j, by omega, by omega, h.1, h.2, rfl, fun u a1 a2 => by omega⟩
    · rw [if_neg h]
      have hjt : j ≠ t := fun g => h (by rw [g]; exact ⟨h3, h4⟩)
      obtain ⟨u, a1, a2, a3, a4, a5, a6⟩ := ih (j + 1) ⟨t, by omega, by omega, h3, h4⟩
      refine ⟨u, by omega, by omega, a3, a4, a5, fun v b1 b2 b3 => ?_⟩
      by_cases hvj : v = j
      · subst hvj; exact fun g => h ⟨b3, g⟩
      · exact a6 v (by omega) b2 b3
theorem rq_ch_ok (hR : mj_RL cc m p R A B) {T : Nat → Nat} (hr : rq_ri A cc m p 23 T) (hF : F < 2058) (hok : rq_okv A cc m p F) (h9 : T F ≠ 1000) : ∀ i, i ≤ T F → rq_ch A cc m T F i < 2058 ∧ rq_okv A cc m p (rq_ch A cc m T F i) ∧ T (rq_ch A cc m T F i) + i = T F := by
  have hTF : T F ≤ 23 := by
    rcases hr F hF hok with q | q
    · exact absurd q.1 h9
    · exact q.1
  intro i
  induction i with
  | zero => intro _; exact ⟨hF, hok, rfl⟩
  | succ i ih =>
    intro hi
    obtain ⟨a1, a2, a3⟩ := ih (by omega)
    obtain ⟨t, t1, t2, t3⟩ := rq_near hR hr a1 a2 (by omega) (by omega)
    obtain ⟨u, b1, b2, b3, b4, b5, _⟩ := rq_n1s m 0 ⟨t, by omega, by omega, t2, t3⟩
    obtain ⟨_, c2, c3⟩ := rq_Bv hR a1 a2 (show u < m by omega)
    show rq_n1 A cc T (rq_ch A cc m T F i) m 0 < 2058 ∧ rq_okv A cc m p (rq_n1 A cc T (rq_ch A cc m T F i) m 0) ∧ T (rq_n1 A cc T (rq_ch A cc m T F i) m 0) + (i + 1) = T F
    rw [b5]
    exact ⟨c2, c3, by omega⟩
/-- the least day of a number that can -/
theorem rq_ri_le {T : Nat → Nat} (hr : rq_ri A cc m p 23 T) {y d : Nat} (hy : y < 2058) (hok : rq_okv A cc m p y) (hd : d ≤ 23) (h : rq_cn A cc m d y) : T y ≤ d := by
  rcases hr y hy hok with q | ⟨_, _, q⟩
  · exact absurd (rq_cn_up h hd) q.2
  · rcases Nat.lt_or_ge d (T y) with g | g
    · exact absurd h (q d g)
    · exact g
theorem rq_ri_cn {T : Nat → Nat} (hr : rq_ri A cc m p 23 T) {y : Nat} (hy : y < 2058) (hok : rq_okv A cc m p y) (h9 : T y ≠ 1000) : rq_cn A cc m (T y) y ∧ T y ≤ 23 := by
  rcases hr y hy hok with q | ⟨q1, q2, _⟩
  · exact absurd q.1 h9
  · exact ⟨q2, q1⟩
/-- one look at the queue -/
theorem rq_look (hcc : cc = 2 ∨ cc = 10) (hR : mj_RL cc m p R A B) (s e : Int32) {k at0 n : Nat} {q L : Nat → Nat} {M : mj_I} (hat : at0 < n) (h : rq_Qu A cc m p F M n q L) : s_X3_qd cc m s e (k + 1) at0 M = if q at0 / 6 = 342 then s_X3_tellFound (nI (rq_kn (q at0))) M else if L at0 < 24 then s_X3_qd cc m s e k (at0 + 1) (s_X3_go1 cc m (nI (rq_kn (q at0))) (nI (q at0 % 6)) m 0 M) else s_X3_qd cc m s e k (at0 + 1) M := by
  have hn := rq_Qu_n h
  obtain ⟨g1, g2, g3, g4⟩ := h.2.1 at0 hat
  rw [s_X3_qd, h.1, if_pos (nI_lt hat (by omega)), g2, g3]
  by_cases hg : q at0 / 6 = 342
  · rw [if_pos ((rq_kg g1.1).mpr hg), if_pos hg]
  · rw [if_neg (fun w => hg ((rq_kg g1.1).mp w)), if_neg hg]
    by_cases h24 : L at0 < 24
    · rw [if_pos (show nI (L at0) < 24 from nI_lt (b := 24) h24 (by omega)), if_pos h24]
      unfold s_X3_goOn
      rw [rq_k9]
    · rw [if_neg (show ¬ nI (L at0) < 24 from nI_nlt (b := 24) (by omega) (by omega)), if_neg h24]
theorem rq_qd_end (s e : Int32) {k at0 n : Nat} {q L : Nat → Nat} {M : mj_I} (hn : n ≤ at0) (ha : at0 ≤ 3072) (h : rq_Qu A cc m p F M n q L) : s_X3_qd cc m s e k at0 M = (-9, M) := by
  cases k with
  | zero =>
    rw [s_X3_qd, ite_self]
  | succ k => rw [s_X3_qd, h.1, if_neg (nI_nlt (by omega) (by omega))]
/-- never all ripe: the class finds none -/
theorem rq_none (hcc : cc = 2 ∨ cc = 10) (hR : mj_RL cc m p R A B) (s e : Int32) {T : Nat → Nat} (hr : rq_ri A cc m p 23 T) (hF : F < 2058) (hok : rq_okv A cc m p F) (h9 : T F = 1000) : ∀ (k at0 n : Nat) (q L : Nat → Nat) (M : mj_I), k + at0 = 3072 → (∀ x, cc ≤ x → x ≤ cc + 7 → M x = A x) → rq_Qu A cc m p F M n q L → (at0 < n → ∀ t, t < n → L t ≤ L at0 + 1) → (s_X3_qd cc m s e k at0 M).1 = -9 ∧ ∀ x, x < 20 ∨ 23 < x → (s_X3_qd cc m s e k at0 M).2 x = M x := by
  intro k
  induction k with
  | zero =>
    intro at0 n q L M hk hM h hL
    have := rq_Qu_n h
    rw [rq_qd_end s e (by omega) (by omega) h]
    exact ⟨rfl, fun _ _ => rfl⟩
  | succ k ih =>
    intro at0 n q L M hk hM h hL
    by_cases hat : at0 < n
    · obtain ⟨g1, g2, g3, g4⟩ := h.2.1 at0 hat
      have ng : ¬ q at0 / 6 = 342 := by
        intro g
        have := h.2.2.2.2.2 at0 hat 0 g
        rcases hr F hF hok with w | w
        · exact w.2 (rq_cn_up this (by omega))
        · omega
      rw [rq_look hcc hR s e hat h, if_neg ng]
      have mono : ∀ (n2 : Nat) (q2 L2 : Nat → Nat) (M2 : mj_I), rq_Qu A cc m p F M2 n2 q2 L2 → n ≤ n2 → L2 at0 = L at0 → (∀ t, t < n2 → L2 t ≤ L at0 + 1) → (at0 + 1 < n2 → ∀ t, t < n2 → L2 t ≤ L2 (at0 + 1) + 1) := by
        intro n2 q2 L2 M2 h2 hn2 hl2 ht2 ha t ht
        have := h2.2.2.2.2.1 at0 (at0 + 1) (by omega) ha
        have := ht2 t ht
        omega
      by_cases h24 : L at0 < 24
      · rw [if_pos h24]
        obtain ⟨n2, q2, L2, i1, i2, i3, i4, i5, i6⟩ := rq_go9 hcc hR g1.1 g1.2 (l := L at0) (by omega) (h.2.2.2.2.2 at0 hat) m 0 n q L M (by omega) hM h g3 (hL hat)
        obtain ⟨r1, r2⟩ := ih (at0 + 1) n2 q2 L2 _ (by omega) (fun x h1 h2 => by rw [i6 x (by omega)]; exact hM x h1 h2) i1 (mono n2 q2 L2 _ i1 i2 (i3 at0 hat).2 (fun t ht => by
          by_cases htn : t < n
          · rw [(i3 t htn).2]; exact hL hat t htn
          · rw [(i4 t (by omega) ht).1]; exact Nat.le_refl _))
        exact ⟨r1, fun x hx => by rw [r2 x hx, i6 x hx]⟩
      · rw [if_neg h24]
        exact ih (at0 + 1) n q L M (by omega) hM h (mono n q L M h (Nat.le_refl _) rfl (hL hat))
    · rw [rq_qd_end s e (by omega) (by omega) h]
      exact ⟨rfl, fun _ _ => rfl⟩
end VG
