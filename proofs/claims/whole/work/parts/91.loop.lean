/-! from the law's entry to its end -/
theorem rq_dcL : mj_Dec mj_m_L_law := by
  refine mj_Dec_of ?_
  unfold mj_decc
  refine List.all_eq_true.mpr fun pc hpc => ?_
  have hlt : pc < 1178 := List.mem_range.mp hpc
  have key : ∀ k n : Nat, (List.range' k n).all (mj_decp mj_m_L_law) = true → k ≤ pc → pc < k + n → mj_decp mj_m_L_law pc = true := fun k n h h1 h2 => List.all_eq_true.mp h pc (List.mem_range'_1.mpr ⟨h1, h2⟩)
  by_cases h0 : pc < 100
  · exact key 0 100 mj_decL0 (by omega) (by omega)
  by_cases h1 : pc < 200
  · exact key 100 100 mj_decL1 (by omega) (by omega)
  by_cases h2 : pc < 300
  · exact key 200 100 mj_decL2 (by omega) (by omega)
  by_cases h3 : pc < 400
  · exact key 300 100 mj_decL3 (by omega) (by omega)
  by_cases h4 : pc < 500
  · exact key 400 100 mj_decL4 (by omega) (by omega)
  by_cases h5 : pc < 600
  · exact key 500 100 mj_decL5 (by omega) (by omega)
  by_cases h6 : pc < 700
  · exact key 600 100 mj_decL6 (by omega) (by omega)
  by_cases h7 : pc < 800
  · exact key 700 100 mj_decL7 (by omega) (by omega)
  by_cases h8 : pc < 900
  · exact key 800 100 mj_decL8 (by omega) (by omega)
  by_cases h9 : pc < 1000
  · exact key 900 100 mj_decL9 (by omega) (by omega)
  by_cases h10 : pc < 1100
  · exact key 1000 100 mj_decL10 (by omega) (by omega)
  by_cases h11 : pc < 1178
  · exact key 1100 78 mj_decL11 (by omega) (by omega)
  · exact absurd hlt h11
theorem rq_hi7 {N j : Nat} (hN : N ≤ 3584) (h : 7 * j + 7 ≤ N) (t : Int32) (h0 : 0 ≤ t.toInt) (h6 : t.toInt ≤ 6) : mj_in (nI (7 * j) + t) N := by
  have e : (nI (7 * j)).toInt = ((7 * j : Nat) : Int) := nI_toInt (by omega)
  refine mj_mkin ?_
  rw [mj_iadd (by omega) (by omega), e]
  omega
set_option maxHeartbeats 8000000 in
theorem rq_loop (l : Launch) (b base : Nat) (D : va_G) (z : mj_K × (Int32 → Int32)) (N : Nat) (hN : N ≤ 3584) : ∀ (k j cc dd r : Nat) (I : mj_I), N < 7 * j + 7 * k → 7 * j ≤ N → rq_W cc dd I → mj_Rn l b base D z mj_m_L_law 18 [.ref 0, .ref 1, .ref 42, .int (nI (7 * j))] [] ((62, mj_KK N, (62, 12258), (600000, 7302249)), I, mj_PP cc dd r) (fun r _ => r = some (.int 1)) := by
  intro k
  induction k with
  | zero => intro j cc dd r I h1 h2 _; omega
  | succ k ih =>
    intro j cc dd r I hk hj hW
    have eN : (nI N).toInt = (N : Int) := nI_toInt (by omega)
    have ej : (nI (7 * j)).toInt = ((7 * j : Nat) : Int) := nI_toInt (by omega)
    have e7 : (7 : Int32).toInt = 7 := by decide
    have eN7 : (nI N - 7).toInt = (N : Int) - 7 := by rw [mj_isub (by omega) (by omega), eN, e7]
    refine R_seg (φ := []) (pc' := 24) (L' := [.ref 0, .ref 1, .ref 42, .int (nI (7 * j))]) (st' := [.int (nI N - 7), .int (nI (7 * j))]) (σ' := ((62, mj_KK N, (62, 12258), (600000, 7302249)), I, mj_PP cc dd r)) 5 rfl trivial ?_
    refine R_br (q := (nI N - 7 : Int32) < nI (7 * j)) (t := 1176) (f := 27) (rest := []) rfl (fun h1 => ?_) (fun h1 => ?_)
    · refine R_seg (φ := []) (pc' := 1177) (L' := [.ref 0, .ref 1, .ref 42, .int (nI (7 * j))]) (st' := [.int 1]) (σ' := ((62, mj_KK N, (62, 12258), (600000, 7302249)), I, mj_PP cc dd r)) 1 rfl trivial ?_
      exact R_rb rfl rfl (Or.inr rfl) rfl
    · have hlt : 7 * j + 7 ≤ N := by
        have := mj_iN h1
        omega
      have hin : mj_in (nI (7 * j)) N := mj_in_nI (by omega) (by omega)
      have hi := rq_hi7 hN hlt
      have K : ∀ (cc dd r : Nat) (I : mj_I), rq_W cc dd I → mj_Rn l b base D z mj_m_L_law 1170 [.ref 0, .ref 1, .ref 42, .int (nI (7 * j))] [] ((62, mj_KK N, (62, 12258), (600000, 7302249)), I, mj_PP cc dd r) (fun r _ => r = some (.int 1)) := by
        intro cc dd r I hW
        refine R_seg (φ := []) (pc' := 18) (L' := [.ref 0, .ref 1, .ref 42, .int (nI (7 * j) + 7)]) (st' := []) (σ' := ((62, mj_KK N, (62, 12258), (600000, 7302249)), I, mj_PP cc dd r)) 2 rfl trivial ?_
        rw [show nI (7 * j) + 7 = nI (7 * (j + 1)) from by rw [show (7 : Int32) = nI 7 from rfl, nI_add, show 7 * (j + 1) = 7 * j + 7 by omega]]
        exact ih (j + 1) cc dd r I (by omega) (by omega) hW
      refine R_seg (φ := [mj_in (nI (7 * j)) N]) (pc' := 33) (L' := [.ref 0, .ref 1, .ref 42, .int (nI (7 * j))]) (st' := [.int (I 0 (nI (7 * j)) &&& 31)]) (σ' := ((62, mj_KK N, (62, 12258), (600000, 7302249)), I, mj_PP cc dd r)) 5 rfl ⟨hin, trivial⟩ ?_
      by_cases hd : (I 0 (nI (7 * j)) &&& 31).toInt < 0 ∨ 25 < (I 0 (nI (7 * j)) &&& 31).toInt
      · refine R_tsd rfl hd rfl ?_
        exact K cc dd r I hW
      · obtain ⟨hcc, m, p, R, hR⟩ := hW
        obtain ⟨t, ht, hx⟩ : ∃ t : Nat, t < 26 ∧ (I 0 (nI (7 * j)) &&& 31) = nI t := ⟨(I 0 (nI (7 * j)) &&& 31).toInt.toNat, by omega, mj_ofI (by rw [nI_toInt (by omega)]; omega)⟩
        refine R_stk hx ?_
        obtain rfl | rfl | rfl | rfl | rfl | rfl | rfl | rfl | rfl | rfl | rfl | rfl | rfl | rfl | rfl | rfl | rfl | rfl | rfl | rfl | rfl | rfl | rfl | rfl | rfl | rfl : t = 0 ∨ t = 1 ∨ t = 2 ∨ t = 3 ∨ t = 4 ∨ t = 5 ∨ t = 6 ∨ t = 7 ∨ t = 8 ∨ t = 9 ∨ t = 10 ∨ t = 11 ∨ t = 12 ∨ t = 13 ∨ t = 14 ∨ t = 15 ∨ t = 16 ∨ t = 17 ∨ t = 18 ∨ t = 19 ∨ t = 20 ∨ t = 21 ∨ t = 22 ∨ t = 23 ∨ t = 24 ∨ t = 25 := by omega
        · refine R_seg (φ := []) (pc' := 152) (L' := [.ref 0, .ref 1, .ref 42, .int (nI (7 * j))]) (st' := []) (σ' := ((62, mj_KK N, (62, 12258), (600000, 7302249)), I, mj_PP cc dd r)) 1 rfl trivial ?_
          exact rq_law_0 l b base D z N hcc hR hi K
        · refine R_seg (φ := []) (pc' := 205) (L' := [.ref 0, .ref 1, .ref 42, .int (nI (7 * j))]) (st' := []) (σ' := ((62, mj_KK N, (62, 12258), (600000, 7302249)), I, mj_PP cc dd r)) 1 rfl trivial ?_
          exact rq_law_1 l b base D z N hcc hR hi K
        · refine R_seg (φ := []) (pc' := 238) (L' := [.ref 0, .ref 1, .ref 42, .int (nI (7 * j))]) (st' := []) (σ' := ((62, mj_KK N, (62, 12258), (600000, 7302249)), I, mj_PP cc dd r)) 1 rfl trivial ?_
          exact rq_law_2 l b base D z N hcc hR hi K
        · refine R_seg (φ := []) (pc' := 271) (L' := [.ref 0, .ref 1, .ref 42, .int (nI (7 * j))]) (st' := []) (σ' := ((62, mj_KK N, (62, 12258), (600000, 7302249)), I, mj_PP cc dd r)) 1 rfl trivial ?_
          exact rq_law_3 l b base D z N hcc hR hi K
        · refine R_seg (φ := []) (pc' := 304) (L' := [.ref 0, .ref 1, .ref 42, .int (nI (7 * j))]) (st' := []) (σ' := ((62, mj_KK N, (62, 12258), (600000, 7302249)), I, mj_PP cc dd r)) 1 rfl trivial ?_
          exact rq_law_4 l b base D z N hcc hR hi K
        · refine R_seg (φ := []) (pc' := 363) (L' := [.ref 0, .ref 1, .ref 42, .int (nI (7 * j))]) (st' := []) (σ' := ((62, mj_KK N, (62, 12258), (600000, 7302249)), I, mj_PP cc dd r)) 1 rfl trivial ?_
          exact rq_law_5 l b base D z N hcc hR hi K
        · refine R_seg (φ := []) (pc' := 426) (L' := [.ref 0, .ref 1, .ref 42, .int (nI (7 * j))]) (st' := []) (σ' := ((62, mj_KK N, (62, 12258), (600000, 7302249)), I, mj_PP cc dd r)) 1 rfl trivial ?_
          exact rq_law_6 l b base D z N hcc hR hi K
        · refine R_seg (φ := []) (pc' := 469) (L' := [.ref 0, .ref 1, .ref 42, .int (nI (7 * j))]) (st' := []) (σ' := ((62, mj_KK N, (62, 12258), (600000, 7302249)), I, mj_PP cc dd r)) 1 rfl trivial ?_
          exact rq_law_7 l b base D z N hcc hR hi K
        · refine R_seg (φ := []) (pc' := 502) (L' := [.ref 0, .ref 1, .ref 42, .int (nI (7 * j))]) (st' := []) (σ' := ((62, mj_KK N, (62, 12258), (600000, 7302249)), I, mj_PP cc dd r)) 1 rfl trivial ?_
          exact rq_law_8 l b base D z N hcc hR hi K
        · refine R_seg (φ := []) (pc' := 515) (L' := [.ref 0, .ref 1, .ref 42, .int (nI (7 * j))]) (st' := []) (σ' := ((62, mj_KK N, (62, 12258), (600000, 7302249)), I, mj_PP cc dd r)) 1 rfl trivial ?_
          exact rq_law_9 l b base D z N hcc hR hi K
        · refine R_seg (φ := []) (pc' := 548) (L' := [.ref 0, .ref 1, .ref 42, .int (nI (7 * j))]) (st' := []) (σ' := ((62, mj_KK N, (62, 12258), (600000, 7302249)), I, mj_PP cc dd r)) 1 rfl trivial ?_
          exact rq_law_10 l b base D z N hcc hR hi K
        · refine R_seg (φ := []) (pc' := 571) (L' := [.ref 0, .ref 1, .ref 42, .int (nI (7 * j))]) (st' := []) (σ' := ((62, mj_KK N, (62, 12258), (600000, 7302249)), I, mj_PP cc dd r)) 1 rfl trivial ?_
          exact rq_law_11 l b base D z N hcc hR hi K
        · refine R_seg (φ := []) (pc' := 634) (L' := [.ref 0, .ref 1, .ref 42, .int (nI (7 * j))]) (st' := []) (σ' := ((62, mj_KK N, (62, 12258), (600000, 7302249)), I, mj_PP cc dd r)) 1 rfl trivial ?_
          exact rq_law_12 l b base D z N hcc hR hi K
        · refine R_seg (φ := []) (pc' := 697) (L' := [.ref 0, .ref 1, .ref 42, .int (nI (7 * j))]) (st' := []) (σ' := ((62, mj_KK N, (62, 12258), (600000, 7302249)), I, mj_PP cc dd r)) 1 rfl trivial ?_
          exact rq_law_13 l b base D z N hcc hR hi K
        · refine R_seg (φ := []) (pc' := 772) (L' := [.ref 0, .ref 1, .ref 42, .int (nI (7 * j))]) (st' := []) (σ' := ((62, mj_KK N, (62, 12258), (600000, 7302249)), I, mj_PP cc dd r)) 1 rfl trivial ?_
          exact rq_law_14 l b base D z N hcc hR hi K
        · refine R_seg (φ := []) (pc' := 826) (L' := [.ref 0, .ref 1, .ref 42, .int (nI (7 * j))]) (st' := []) (σ' := ((62, mj_KK N, (62, 12258), (600000, 7302249)), I, mj_PP cc dd r)) 1 rfl trivial ?_
          exact rq_law_15 l b base D z N hcc hR hi K
        · refine R_seg (φ := []) (pc' := 869) (L' := [.ref 0, .ref 1, .ref 42, .int (nI (7 * j))]) (st' := []) (σ' := ((62, mj_KK N, (62, 12258), (600000, 7302249)), I, mj_PP cc dd r)) 1 rfl trivial ?_
          exact rq_law_16 l b base D z N hcc hR hi K
        · refine R_seg (φ := []) (pc' := 892) (L' := [.ref 0, .ref 1, .ref 42, .int (nI (7 * j))]) (st' := []) (σ' := ((62, mj_KK N, (62, 12258), (600000, 7302249)), I, mj_PP cc dd r)) 1 rfl trivial ?_
          exact rq_law_17 l b base D z N hcc hR hi K
        · refine R_seg (φ := []) (pc' := 935) (L' := [.ref 0, .ref 1, .ref 42, .int (nI (7 * j))]) (st' := []) (σ' := ((62, mj_KK N, (62, 12258), (600000, 7302249)), I, mj_PP cc dd r)) 1 rfl trivial ?_
          exact rq_law_18 l b base D z N hcc hR hi K
        · refine R_seg (φ := []) (pc' := 979) (L' := [.ref 0, .ref 1, .ref 42, .int (nI (7 * j))]) (st' := []) (σ' := ((62, mj_KK N, (62, 12258), (600000, 7302249)), I, mj_PP cc dd r)) 1 rfl trivial ?_
          exact rq_law_19 l b base D z N hcc hR hi K
        · refine R_seg (φ := []) (pc' := 1042) (L' := [.ref 0, .ref 1, .ref 42, .int (nI (7 * j))]) (st' := []) (σ' := ((62, mj_KK N, (62, 12258), (600000, 7302249)), I, mj_PP cc dd r)) 1 rfl trivial ?_
          exact rq_law_20 l b base D z N hcc hR hi K
        · refine R_seg (φ := []) (pc' := 1065) (L' := [.ref 0, .ref 1, .ref 42, .int (nI (7 * j))]) (st' := []) (σ' := ((62, mj_KK N, (62, 12258), (600000, 7302249)), I, mj_PP cc dd r)) 1 rfl trivial ?_
          exact rq_law_21 l b base D z N hcc hR hi K
        · refine R_seg (φ := []) (pc' := 1088) (L' := [.ref 0, .ref 1, .ref 42, .int (nI (7 * j))]) (st' := []) (σ' := ((62, mj_KK N, (62, 12258), (600000, 7302249)), I, mj_PP cc dd r)) 1 rfl trivial ?_
          exact rq_law_22 l b base D z N hcc hR hi K
        · refine R_seg (φ := []) (pc' := 1121) (L' := [.ref 0, .ref 1, .ref 42, .int (nI (7 * j))]) (st' := []) (σ' := ((62, mj_KK N, (62, 12258), (600000, 7302249)), I, mj_PP cc dd r)) 1 rfl trivial ?_
          exact rq_law_23 l b base D z N hcc hR hi K
        · refine R_seg (φ := []) (pc' := 1134) (L' := [.ref 0, .ref 1, .ref 42, .int (nI (7 * j))]) (st' := []) (σ' := ((62, mj_KK N, (62, 12258), (600000, 7302249)), I, mj_PP cc dd r)) 1 rfl trivial ?_
          exact rq_law_24 l b base D z N hcc hR hi K
        · refine R_seg (φ := []) (pc' := 1147) (L' := [.ref 0, .ref 1, .ref 42, .int (nI (7 * j))]) (st' := []) (σ' := ((62, mj_KK N, (62, 12258), (600000, 7302249)), I, mj_PP cc dd r)) 1 rfl trivial ?_
          exact rq_law_25 l b base D z N hcc hR hi K
def rq_ps : List (Nat × Nat × Nat) := [(42, 29, 62), (42, 28, 61), (42, 27, 60), (42, 26, 59), (42, 24, 58), (42, 22, 57), (42, 21, 56), (42, 20, 55), (42, 18, 54), (42, 17, 53), (42, 16, 52), (42, 15, 51), (42, 14, 50), (42, 10, 49), (42, 9, 48), (42, 8, 47), (42, 7, 46), (42, 4, 45), (42, 3, 44), (42, 2, 43), (28, 3, 40), (40, 3, 41), (28, 2, 38), (38, 3, 39), (28, 1, 36), (36, 3, 37), (28, 0, 34), (34, 3, 35), (1, 10, 33), (1, 9, 32), (1, 8, 31), (1, 7, 30), (1, 6, 29), (1, 5, 28), (1, 4, 25), (25, 3, 27), (25, 2, 26), (1, 3, 20), (20, 3, 24), (20, 2, 23), (20, 1, 22), (20, 0, 21), (1, 2, 18), (18, 0, 19), (1, 1, 10), (10, 5, 14), (14, 2, 17), (14, 1, 16), (14, 0, 15), (10, 4, 13), (10, 3, 12), (10, 2, 11), (1, 0, 2), (2, 5, 6), (6, 2, 9), (6, 1, 8), (6, 0, 7), (2, 4, 5), (2, 3, 4), (2, 2, 3)]
theorem rq_KK0 (N k : Nat) (hk : k < 62) : mj_KK N (k + 1) = mj_KK 0 (k + 1) := by
  match k, hk with
  | 0, _ => rfl
  | 1, _ => rfl
  | 2, _ => rfl
  | 3, _ => rfl
  | 4, _ => rfl
  | 5, _ => rfl
  | 6, _ => rfl
  | 7, _ => rfl
  | 8, _ => rfl
  | 9, _ => rfl
  | 10, _ => rfl
  | 11, _ => rfl
  | 12, _ => rfl
  | 13, _ => rfl
  | 14, _ => rfl
  | 15, _ => rfl
  | 16, _ => rfl
  | 17, _ => rfl
  | 18, _ => rfl
  | 19, _ => rfl
  | 20, _ => rfl
  | 21, _ => rfl
  | 22, _ => rfl
  | 23, _ => rfl
  | 24, _ => rfl
  | 25, _ => rfl
  | 26, _ => rfl
  | 27, _ => rfl
  | 28, _ => rfl
  | 29, _ => rfl
  | 30, _ => rfl
  | 31, _ => rfl
  | 32, _ => rfl
  | 33, _ => rfl
  | 34, _ => rfl
  | 35, _ => rfl
  | 36, _ => rfl
  | 37, _ => rfl
  | 38, _ => rfl
  | 39, _ => rfl
  | 40, _ => rfl
  | 41, _ => rfl
  | 42, _ => rfl
  | 43, _ => rfl
  | 44, _ => rfl
  | 45, _ => rfl
  | 46, _ => rfl
  | 47, _ => rfl
  | 48, _ => rfl
  | 49, _ => rfl
  | 50, _ => rfl
  | 51, _ => rfl
  | 52, _ => rfl
  | 53, _ => rfl
  | 54, _ => rfl
  | 55, _ => rfl
  | 56, _ => rfl
  | 57, _ => rfl
  | 58, _ => rfl
  | 59, _ => rfl
  | 60, _ => rfl
  | 61, _ => rfl
  | n + 62, h => exact absurd h (by omega)
def rq_chk (k : Nat) : Bool := match mj_KK 0 (k + 1) with
  | .inl ci => (List.range (mj_nf ci)).all (fun f => !(Nat.beq (mj_ft ci f) 2) || decide (mj_Pl rq_ps (k + 1) (nI f) = mj_PP 2 10 19 (k + 1) (nI f)))
  | .inr (0, _) => true
  | .inr (_ + 1, n) => (List.range n).all (fun j => decide (mj_Pl rq_ps (k + 1) (nI j) = mj_PP 2 10 19 (k + 1) (nI j)))
set_option maxRecDepth 100000 in
theorem rq_chk_ok : (List.range 62).all rq_chk = true := by decide +kernel
theorem rq_same (N : Nat) (I : mj_I) (u mx : Nat × Nat) : mj_eqv ((62, mj_KK N, u, mx), I, mj_Pl rq_ps) ((62, mj_KK N, u, mx), I, mj_PP 2 10 19) := by
  refine ⟨rfl, rfl, fun _ _ => rfl, rfl, fun k hk => ?_⟩
  have hk : k < 62 := hk
  show mj_sameK I I (mj_Pl rq_ps) (mj_PP 2 10 19) (mj_KK N (k + 1)) (k + 1)
  have h := List.all_eq_true.mp rq_chk_ok k (List.mem_range.mpr hk)
  unfold rq_chk at h
  rw [rq_KK0 N k hk]
  rcases e : mj_KK 0 (k + 1) with ci | ⟨t, n⟩
  · rw [e] at h
    refine fun f hf => ⟨fun h2 => ?_, fun _ => rfl⟩
    have := List.all_eq_true.mp h f (List.mem_range.mpr hf)
    rw [h2] at this
    simpa using this
  · rw [e] at h
    cases t with
    | zero => exact fun _ _ => rfl
    | succ t =>
      refine fun j hj => ?_
      exact of_decide_eq_true (List.all_eq_true.mp h j (List.mem_range.mpr hj))
def rq_I1 (x : Int32 → Int32) : mj_I := (mj_upI (mj_upI (mj_upI (mj_upI (mj_I0 x) 43 0 (-9)) 43 1 (-9)) 43 2 (-9)) 43 3 (-9))
theorem rq_W1 (x : Int32 → Int32) : rq_W 2 10 (rq_I1 x) := by
  refine ⟨Or.inl ⟨rfl, rfl⟩, 0, 0, 0, ⟨by omega, by omega, by omega⟩, ⟨⟨rfl, rfl⟩, ⟨rfl, rfl⟩, ⟨rfl, rfl⟩⟩, ⟨rfl, rfl⟩, ⟨fun s hs => absurd hs (by omega), fun _ => 0, fun s hs => absurd hs (by omega), fun s hs => absurd hs (by omega), fun s hs => absurd hs (by omega)⟩, fun s hs => absurd hs (by omega), fun s hs => absurd hs (by omega), ?_, Or.inl rfl, ?_⟩
  · intro k hk
    have h0 : (0 : Int32).toInt = 0 := by decide
    match k, hk with
    | 0, _ => exact ⟨⟨by show 0 ≤ (0 : Int32).toInt; omega, by show (0 : Int32).toInt ≤ 60; omega⟩, rfl, Or.inl ⟨rfl, rfl⟩, fun _ _ => rfl⟩
    | 1, _ => exact ⟨⟨by show 0 ≤ (0 : Int32).toInt; omega, by show (0 : Int32).toInt ≤ 60; omega⟩, rfl, Or.inl ⟨rfl, rfl⟩, fun _ _ => rfl⟩
    | 2, _ => exact ⟨⟨by show 0 ≤ (0 : Int32).toInt; omega, by show (0 : Int32).toInt ≤ 60; omega⟩, rfl, Or.inl ⟨rfl, rfl⟩, fun _ _ => rfl⟩
    | 3, _ => exact ⟨⟨by show 0 ≤ (0 : Int32).toInt; omega, by show (0 : Int32).toInt ≤ 60; omega⟩, rfl, Or.inl ⟨rfl, rfl⟩, fun _ _ => rfl⟩
    | n + 4, h => exact absurd h (by omega)
  · intro y _
    show (0 : Int32).toInt < 3072
    decide
set_option maxHeartbeats 8000000 in
set_option maxRecDepth 100000 in
theorem rq_start (l : Launch) (b base : Nat) (D : va_G) (z : mj_K × (Int32 → Int32)) (N : Nat) (hN : N ≤ 3584) (x : Int32 → Int32) : mj_Rn l b base D z mj_m_L_law 0 [.ref 0, mj_mk, mj_mk, mj_mk] [] ((0, mj_KK N, (0, 0), (600000, 7302249)), (mj_I0 x), mj_Pl []) (fun r _ => r = some (.int 1)) := by
  refine R_seg (φ := []) (pc' := 3) (L' := [.ref 0, mj_mk, mj_mk, mj_mk]) (st' := [.ref 1]) (σ' := mj_add ((0, mj_KK N, (0, 0), (600000, 7302249)), (mj_I0 x), mj_Pl []) (.inl 5) 14) 1 rfl trivial ?_
  refine R_eq (σ' := ((1, mj_KK N, (1, 14), (600000, 7302249)), (mj_I0 x), mj_Pl [])) (mj_add_eq rfl rfl rfl rfl rfl) ?_
  refine R_seg (φ := []) (pc' := 4) (L' := [.ref 0, mj_mk, mj_mk, mj_mk]) (st' := [.ref 1, .ref 1]) (σ' := ((1, mj_KK N, (1, 14), (600000, 7302249)), (mj_I0 x), mj_Pl [])) 1 rfl trivial ?_
  refine R_cc (idx := 9) (mid := 39) (kind := 2) (M' := mj_m_X5_init) (As := [.ref 1]) (rest := [.ref 1]) (σ0 := ((1, mj_KK N, (0, 0), (40, 9724)), (mj_I0 x), mj_Pl [])) (σ1 := ((41, mj_KK N, (40, 9724), (40, 9724)), (mj_I0 x), mj_Pl [(28, 3, 40), (40, 3, 41), (28, 2, 38), (38, 3, 39), (28, 1, 36), (36, 3, 37), (28, 0, 34), (34, 3, 35), (1, 10, 33), (1, 9, 32), (1, 8, 31), (1, 7, 30), (1, 6, 29), (1, 5, 28), (1, 4, 25), (25, 3, 27), (25, 2, 26), (1, 3, 20), (20, 3, 24), (20, 2, 23), (20, 1, 22), (20, 0, 21), (1, 2, 18), (18, 0, 19), (1, 1, 10), (10, 5, 14), (14, 2, 17), (14, 1, 16), (14, 0, 15), (10, 4, 13), (10, 3, 12), (10, 2, 11), (1, 0, 2), (2, 5, 6), (6, 2, 9), (6, 1, 8), (6, 0, 7), (2, 4, 5), (2, 3, 4), (2, 2, 3)])) (σ2 := ((41, mj_KK N, (41, 9738), (600000, 7302249)), (mj_I0 x), mj_Pl [(28, 3, 40), (40, 3, 41), (28, 2, 38), (38, 3, 39), (28, 1, 36), (36, 3, 37), (28, 0, 34), (34, 3, 35), (1, 10, 33), (1, 9, 32), (1, 8, 31), (1, 7, 30), (1, 6, 29), (1, 5, 28), (1, 4, 25), (25, 3, 27), (25, 2, 26), (1, 3, 20), (20, 3, 24), (20, 2, 23), (20, 1, 22), (20, 0, 21), (1, 2, 18), (18, 0, 19), (1, 1, 10), (10, 5, 14), (14, 2, 17), (14, 1, 16), (14, 0, 15), (10, 4, 13), (10, 3, 12), (10, 2, 11), (1, 0, 2), (2, 5, 6), (6, 2, 9), (6, 1, 8), (6, 0, 7), (2, 4, 5), (2, 3, 4), (2, 2, 3)])) rfl rfl rfl mj_mc39 mj_dc39 rfl rfl rfl rfl ⟨rfl, Nat.le_refl _, Nat.le_refl _⟩ (x_X5_init_1 l b base D z N x) rfl ?_
  refine R_seg (φ := []) (pc' := 8) (L' := [.ref 0, .ref 1, mj_mk, mj_mk]) (st' := []) (σ' := ((41, mj_KK N, (41, 9738), (600000, 7302249)), (mj_I0 x), mj_Pl [(28, 3, 40), (40, 3, 41), (28, 2, 38), (38, 3, 39), (28, 1, 36), (36, 3, 37), (28, 0, 34), (34, 3, 35), (1, 10, 33), (1, 9, 32), (1, 8, 31), (1, 7, 30), (1, 6, 29), (1, 5, 28), (1, 4, 25), (25, 3, 27), (25, 2, 26), (1, 3, 20), (20, 3, 24), (20, 2, 23), (20, 1, 22), (20, 0, 21), (1, 2, 18), (18, 0, 19), (1, 1, 10), (10, 5, 14), (14, 2, 17), (14, 1, 16), (14, 0, 15), (10, 4, 13), (10, 3, 12), (10, 2, 11), (1, 0, 2), (2, 5, 6), (6, 2, 9), (6, 1, 8), (6, 0, 7), (2, 4, 5), (2, 3, 4), (2, 2, 3)])) 1 rfl trivial ?_
  refine R_seg (φ := []) (pc' := 11) (L' := [.ref 0, .ref 1, mj_mk, mj_mk]) (st' := [.ref 42]) (σ' := mj_add ((41, mj_KK N, (41, 9738), (600000, 7302249)), (mj_I0 x), mj_Pl [(28, 3, 40), (40, 3, 41), (28, 2, 38), (38, 3, 39), (28, 1, 36), (36, 3, 37), (28, 0, 34), (34, 3, 35), (1, 10, 33), (1, 9, 32), (1, 8, 31), (1, 7, 30), (1, 6, 29), (1, 5, 28), (1, 4, 25), (25, 3, 27), (25, 2, 26), (1, 3, 20), (20, 3, 24), (20, 2, 23), (20, 1, 22), (20, 0, 21), (1, 2, 18), (18, 0, 19), (1, 1, 10), (10, 5, 14), (14, 2, 17), (14, 1, 16), (14, 0, 15), (10, 4, 13), (10, 3, 12), (10, 2, 11), (1, 0, 2), (2, 5, 6), (6, 2, 9), (6, 1, 8), (6, 0, 7), (2, 4, 5), (2, 3, 4), (2, 2, 3)]) (.inl 6) 30) 1 rfl trivial ?_
  refine R_eq (σ' := ((42, mj_KK N, (42, 9768), (600000, 7302249)), (mj_I0 x), mj_Pl [(28, 3, 40), (40, 3, 41), (28, 2, 38), (38, 3, 39), (28, 1, 36), (36, 3, 37), (28, 0, 34), (34, 3, 35), (1, 10, 33), (1, 9, 32), (1, 8, 31), (1, 7, 30), (1, 6, 29), (1, 5, 28), (1, 4, 25), (25, 3, 27), (25, 2, 26), (1, 3, 20), (20, 3, 24), (20, 2, 23), (20, 1, 22), (20, 0, 21), (1, 2, 18), (18, 0, 19), (1, 1, 10), (10, 5, 14), (14, 2, 17), (14, 1, 16), (14, 0, 15), (10, 4, 13), (10, 3, 12), (10, 2, 11), (1, 0, 2), (2, 5, 6), (6, 2, 9), (6, 1, 8), (6, 0, 7), (2, 4, 5), (2, 3, 4), (2, 2, 3)])) (mj_add_eq rfl rfl rfl rfl rfl) ?_
  refine R_seg (φ := []) (pc' := 12) (L' := [.ref 0, .ref 1, mj_mk, mj_mk]) (st' := [.ref 42, .ref 42]) (σ' := ((42, mj_KK N, (42, 9768), (600000, 7302249)), (mj_I0 x), mj_Pl [(28, 3, 40), (40, 3, 41), (28, 2, 38), (38, 3, 39), (28, 1, 36), (36, 3, 37), (28, 0, 34), (34, 3, 35), (1, 10, 33), (1, 9, 32), (1, 8, 31), (1, 7, 30), (1, 6, 29), (1, 5, 28), (1, 4, 25), (25, 3, 27), (25, 2, 26), (1, 3, 20), (20, 3, 24), (20, 2, 23), (20, 1, 22), (20, 0, 21), (1, 2, 18), (18, 0, 19), (1, 1, 10), (10, 5, 14), (14, 2, 17), (14, 1, 16), (14, 0, 15), (10, 4, 13), (10, 3, 12), (10, 2, 11), (1, 0, 2), (2, 5, 6), (6, 2, 9), (6, 1, 8), (6, 0, 7), (2, 4, 5), (2, 3, 4), (2, 2, 3)])) 1 rfl trivial ?_
  refine R_cc (idx := 12) (mid := 92) (kind := 2) (M' := mj_m_X6_init) (As := [.ref 42]) (rest := [.ref 42]) (σ0 := ((42, mj_KK N, (0, 0), (20, 2490)), (mj_I0 x), mj_Pl [(28, 3, 40), (40, 3, 41), (28, 2, 38), (38, 3, 39), (28, 1, 36), (36, 3, 37), (28, 0, 34), (34, 3, 35), (1, 10, 33), (1, 9, 32), (1, 8, 31), (1, 7, 30), (1, 6, 29), (1, 5, 28), (1, 4, 25), (25, 3, 27), (25, 2, 26), (1, 3, 20), (20, 3, 24), (20, 2, 23), (20, 1, 22), (20, 0, 21), (1, 2, 18), (18, 0, 19), (1, 1, 10), (10, 5, 14), (14, 2, 17), (14, 1, 16), (14, 0, 15), (10, 4, 13), (10, 3, 12), (10, 2, 11), (1, 0, 2), (2, 5, 6), (6, 2, 9), (6, 1, 8), (6, 0, 7), (2, 4, 5), (2, 3, 4), (2, 2, 3)])) (σ1 := ((62, mj_KK N, (20, 2490), (20, 2490)), (mj_upI (mj_upI (mj_upI (mj_upI (mj_I0 x) 43 0 (-9)) 43 1 (-9)) 43 2 (-9)) 43 3 (-9)), mj_Pl [(42, 29, 62), (42, 28, 61), (42, 27, 60), (42, 26, 59), (42, 24, 58), (42, 22, 57), (42, 21, 56), (42, 20, 55), (42, 18, 54), (42, 17, 53), (42, 16, 52), (42, 15, 51), (42, 14, 50), (42, 10, 49), (42, 9, 48), (42, 8, 47), (42, 7, 46), (42, 4, 45), (42, 3, 44), (42, 2, 43), (28, 3, 40), (40, 3, 41), (28, 2, 38), (38, 3, 39), (28, 1, 36), (36, 3, 37), (28, 0, 34), (34, 3, 35), (1, 10, 33), (1, 9, 32), (1, 8, 31), (1, 7, 30), (1, 6, 29), (1, 5, 28), (1, 4, 25), (25, 3, 27), (25, 2, 26), (1, 3, 20), (20, 3, 24), (20, 2, 23), (20, 1, 22), (20, 0, 21), (1, 2, 18), (18, 0, 19), (1, 1, 10), (10, 5, 14), (14, 2, 17), (14, 1, 16), (14, 0, 15), (10, 4, 13), (10, 3, 12), (10, 2, 11), (1, 0, 2), (2, 5, 6), (6, 2, 9), (6, 1, 8), (6, 0, 7), (2, 4, 5), (2, 3, 4), (2, 2, 3)])) (σ2 := ((62, mj_KK N, (62, 12258), (600000, 7302249)), (mj_upI (mj_upI (mj_upI (mj_upI (mj_I0 x) 43 0 (-9)) 43 1 (-9)) 43 2 (-9)) 43 3 (-9)), mj_Pl [(42, 29, 62), (42, 28, 61), (42, 27, 60), (42, 26, 59), (42, 24, 58), (42, 22, 57), (42, 21, 56), (42, 20, 55), (42, 18, 54), (42, 17, 53), (42, 16, 52), (42, 15, 51), (42, 14, 50), (42, 10, 49), (42, 9, 48), (42, 8, 47), (42, 7, 46), (42, 4, 45), (42, 3, 44), (42, 2, 43), (28, 3, 40), (40, 3, 41), (28, 2, 38), (38, 3, 39), (28, 1, 36), (36, 3, 37), (28, 0, 34), (34, 3, 35), (1, 10, 33), (1, 9, 32), (1, 8, 31), (1, 7, 30), (1, 6, 29), (1, 5, 28), (1, 4, 25), (25, 3, 27), (25, 2, 26), (1, 3, 20), (20, 3, 24), (20, 2, 23), (20, 1, 22), (20, 0, 21), (1, 2, 18), (18, 0, 19), (1, 1, 10), (10, 5, 14), (14, 2, 17), (14, 1, 16), (14, 0, 15), (10, 4, 13), (10, 3, 12), (10, 2, 11), (1, 0, 2), (2, 5, 6), (6, 2, 9), (6, 1, 8), (6, 0, 7), (2, 4, 5), (2, 3, 4), (2, 2, 3)])) rfl rfl rfl mj_mc92 mj_dc92 rfl rfl rfl rfl ⟨rfl, Nat.le_refl _, Nat.le_refl _⟩ (x_X6_init_42 l b base D z N x) rfl ?_
  refine R_seg (φ := []) (pc' := 18) (L' := [.ref 0, .ref 1, .ref 42, .int 0]) (st' := []) (σ' := ((62, mj_KK N, (62, 12258), (600000, 7302249)), (mj_upI (mj_upI (mj_upI (mj_upI (mj_I0 x) 43 0 (-9)) 43 1 (-9)) 43 2 (-9)) 43 3 (-9)), mj_Pl [(42, 29, 62), (42, 28, 61), (42, 27, 60), (42, 26, 59), (42, 24, 58), (42, 22, 57), (42, 21, 56), (42, 20, 55), (42, 18, 54), (42, 17, 53), (42, 16, 52), (42, 15, 51), (42, 14, 50), (42, 10, 49), (42, 9, 48), (42, 8, 47), (42, 7, 46), (42, 4, 45), (42, 3, 44), (42, 2, 43), (28, 3, 40), (40, 3, 41), (28, 2, 38), (38, 3, 39), (28, 1, 36), (36, 3, 37), (28, 0, 34), (34, 3, 35), (1, 10, 33), (1, 9, 32), (1, 8, 31), (1, 7, 30), (1, 6, 29), (1, 5, 28), (1, 4, 25), (25, 3, 27), (25, 2, 26), (1, 3, 20), (20, 3, 24), (20, 2, 23), (20, 1, 22), (20, 0, 21), (1, 2, 18), (18, 0, 19), (1, 1, 10), (10, 5, 14), (14, 2, 17), (14, 1, 16), (14, 0, 15), (10, 4, 13), (10, 3, 12), (10, 2, 11), (1, 0, 2), (2, 5, 6), (6, 2, 9), (6, 1, 8), (6, 0, 7), (2, 4, 5), (2, 3, 4), (2, 2, 3)])) 3 rfl trivial ?_
  refine R_cong (rq_same N _ _ _) ?_
  exact rq_loop l b base D z N hN (N + 1) 0 2 10 19 _ (by omega) (by omega) (rq_W1 x)
