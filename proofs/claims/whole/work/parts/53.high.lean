/-! the class writes nothing above its own cells, nor the script -/
theorem rq_hi_tr {I J K : mj_I} (h1 : rq_hi I J) (h2 : rq_hi J K) : rq_hi I K := fun k hk => (h2 k hk).trans (h1 k hk)
theorem rq_hi_ite {α : Type} {c : Prop} [Decidable c] {I : mj_I} {x y : α × mj_I} (h1 : rq_hi I x.2) (h2 : rq_hi I y.2) : rq_hi I (if c then x else y).2 := by
  split
  · exact h1
  · exact h2
/-- a frame by its one cell -/
theorem rq_hi_1 {I J : mj_I} (h : ∀ x, 42 ≤ x ∨ x = 0 → J x = I x) : rq_hi I J := h
theorem rq_sh3 {k : Int32} {I : mj_I} (h : ¬ s_X5_isSheet k I = 0) : k.toNatClampNeg < 4 := by
  rcases mj_sh4 h with rfl | rfl | rfl | rfl <;> decide
theorem rq_ren_hi {I : mj_I} {sh : Nat} {a n : Int32} (h : 1 ≤ sh ∧ sh < 41) : rq_hi I (sp_ren I sh a n) := by
  unfold sp_ren
  exact rq_hi_fil (rq_hi_up (rq_hi_up (rq_hi_up rq_hi_rf (by omega)) (by omega)) (by omega)) (by omega)
theorem rq_setc_hi {I : mj_I} {k : Nat} {x y v : Int32} (h : 1 ≤ k ∧ k < 42) : rq_hi I (sp_setc I k x y v) := fun z hz => mj_setc_ne (by omega)
section H5
variable {cc m p R : Nat} {A B : mj_I}
theorem rq_h5_let (hc : cc = 2 ∨ cc = 10) (h : mj_RL cc m p R A B) (s v : Int32) : rq_hi A (s_X5_let cc s v A).2 := by
  unfold s_X5_let
  repeat' split
  all_goals first
    | exact rq_hi_rf
    | exact rq_hi_up rq_hi_rf (by omega)
theorem rq_h5_corner (hc : cc = 2 ∨ cc = 10) (h : mj_RL cc m p R A B) (x y v : Int32) : rq_hi A (s_X5_corner cc x y v A).2 := by
  unfold s_X5_corner
  repeat' split
  all_goals first
    | exact rq_hi_rf
    | exact rq_setc_hi (by omega)
theorem rq_h5_reading (hc : cc = 2 ∨ cc = 10) (h : mj_RL cc m p R A B) (q e : Int32) : rq_hi A (s_X5_reading cc q e A).2 := by
  unfold s_X5_reading
  repeat' split
  all_goals first
    | exact rq_hi_rf
    | exact rq_hi_up (rq_hi_up (rq_hi_up rq_hi_rf (by omega)) (by omega)) (by omega)
theorem rq_h5_back (hc : cc = 2 ∨ cc = 10) (h : mj_RL cc m p R A B) (k : Int32) : rq_hi A (s_X5_back k A).2 := by
  unfold s_X5_back
  repeat' split
  all_goals first
    | exact rq_hi_rf
    | exact rq_hi_up rq_hi_rf (by omega)
theorem rq_13 {I : mj_I} {v : Int32} : rq_hi I (mj_upI I 1 13 v) := rq_hi_up rq_hi_rf (by omega)
theorem rq_h5_sheet (hc : cc = 2 ∨ cc = 10) (h : mj_RL cc m p R A B) (k a n : Int32) : rq_hi A (s_X5_sheet k a n A).2 := by
  unfold s_X5_sheet
  by_cases h1 : s_X5_isSheet k A = 0
  · rw [if_pos h1]; exact rq_13
  · rw [if_neg h1]
    have := rq_sh3 h1
    refine rq_hi_ite rq_13 (rq_hi_ite rq_13 (rq_hi_ite rq_13 ?_))
    exact rq_hi_tr rq_13 (rq_ren_hi (by omega))
theorem rq_h5_lose (hc : cc = 2 ∨ cc = 10) (h : mj_RL cc m p R A B) (k : Int32) : rq_hi A (s_X5_lose k A).2 := by
  unfold s_X5_lose
  by_cases h1 : s_X5_isSheet k A = 0
  · rw [if_pos h1]; exact rq_hi_rf
  · rw [if_neg h1]
    have := rq_sh3 h1
    exact rq_hi_ite (rq_hi_up rq_hi_rf (by omega)) (rq_hi_up rq_hi_rf (by omega))
theorem rq_h5_put (hc : cc = 2 ∨ cc = 10) (h : mj_RL cc m p R A B) (k i v : Int32) : rq_hi A (s_X5_put k i v A).2 := by
  unfold s_X5_put
  by_cases h1 : s_X5_isSheet k A = 0
  · rw [if_pos h1]; exact rq_13
  · rw [if_neg h1]
    have := rq_sh3 h1
    exact rq_hi_ite rq_13 (rq_hi_ite (rq_hi_up rq_13 (by omega)) rq_13)
theorem rq_h5_cell (hc : cc = 2 ∨ cc = 10) (h : mj_RL cc m p R A B) (s i a : Int32) : rq_hi A (s_X5_cell s i a A).2 := by
  unfold s_X5_cell
  exact rq_hi_ite rq_13 (rq_hi_ite rq_13 (rq_hi_ite rq_13 rq_13))
theorem rq_h5_copy (hc : cc = 2 ∨ cc = 10) (h : mj_RL cc m p R A B) (s i v j n : Int32) : rq_hi A (s_X5_copy s i v j n A).2 := by
  unfold s_X5_copy
  by_cases h1 : s_X5_isSheet s A = 0
  · rw [if_pos h1]; exact rq_13
  · rw [if_neg h1]
    by_cases h2 : s_X5_isSheet v A = 0
    · rw [if_pos h2]; exact rq_13
    · rw [if_neg h2]
      have := rq_sh3 h2
      refine rq_hi_ite rq_13 (rq_hi_ite rq_13 (rq_hi_ite (rq_hi_ite rq_13 (rq_hi_ite (rq_hi_ite ?_ rq_13) rq_13)) rq_13))
      exact rq_hi_cpy rq_13 (by omega)
theorem rq_lv {I : mj_I} {v : Int32} : rq_hi I (s_X5_leave v I) := rq_hi_up rq_hi_rf (by omega)
theorem rq_tp {cc : Nat} {q : Int32} {I : mj_I} : rq_hi I (s_X5_tellPlant cc q I).2 := rq_lv
theorem rq_ts {cc : Nat} {q : Int32} {I : mj_I} : rq_hi I (s_X5_tellShrub cc q I).2 := rq_hi_tr rq_lv (rq_tp (cc := cc) (q := q))
theorem rq_tw {cc : Nat} {q : Int32} {I : mj_I} : rq_hi I (s_X5_tellWeed cc q I).2 := rq_hi_tr (rq_hi_tr rq_lv (rq_ts (cc := cc) (q := q))) (rq_tp (cc := cc) (q := q))
theorem rq_h5_tell (hc : cc = 2 ∨ cc = 10) (h : mj_RL cc m p R A B) (q : Int32) : rq_hi A (s_X5_tell cc q A).2 := by
  unfold s_X5_tell
  exact rq_hi_ite (rq_hi_ite rq_tw (rq_hi_ite rq_ts rq_tp)) rq_hi_rf
theorem rq_h5_label (hc : cc = 2 ∨ cc = 10) (h : mj_RL cc m p R A B) (q : Int32) : rq_hi A (s_X5_label cc q A).2 := by
  unfold s_X5_label
  exact rq_hi_ite (rq_hi_ite rq_lv rq_lv) rq_hi_rf
theorem rq_h5_as (hc : cc = 2 ∨ cc = 10) (h : mj_RL cc m p R A B) (q k : Int32) : rq_hi A (s_X5_as cc q k A).2 := by
  unfold s_X5_as
  exact rq_hi_ite (rq_hi_ite rq_13 (rq_hi_ite (rq_hi_ite rq_13 rq_13) rq_13)) rq_13
theorem rq_h5_mild (hc : cc = 2 ∨ cc = 10) (h : mj_RL cc m p R A B) (a e : Int32) : rq_hi A (s_X5_mild cc m a e A).2 := by
  have h1 : rq_hi A (s_X5_spreadColds cc m a A) := fun k hk => mj_sp_fr cc m a A k (by omega)
  unfold s_X5_mild
  exact rq_hi_ite (rq_hi_ite (rq_hi_ite h1 h1) rq_hi_rf) rq_hi_rf
theorem rq_be_hi (cc m : Nat) : ∀ (k j : Nat) (g f : Int32) (I : mj_I), rq_hi I (s_X5_be cc m k j g f I).2 := by
  intro k
  induction k with
  | zero => intros; exact rq_hi_rf
  | succ k ih =>
    intro j g f I
    have h1 : rq_hi I (s_X5_mostColds cc m (nI j) I).2 := fun k hk => mj_mc_fr cc m (nI j) I k (by omega)
    rw [s_X5_be]
    exact rq_hi_ite (rq_hi_tr h1 (ih _ _ _ _)) (rq_hi_tr h1 (ih _ _ _ _))
theorem rq_h5_best (hc : cc = 2 ∨ cc = 10) (h : mj_RL cc m p R A B) : rq_hi A (s_X5_best cc m A).2 := by
  unfold s_X5_best
  exact rq_hi_ite rq_hi_rf (rq_be_hi _ _ _ _ _ _ _)
theorem rq_h5_odds (hc : cc = 2 ∨ cc = 10) (h : mj_RL cc m p R A B) (q a n w : Int32) : rq_hi A (s_X5_odds cc m q a n w A).2 := by
  have h1 : rq_hi A (s_X0_go cc m q a.toNatClampNeg n.toNatClampNeg A) := fun k hk => mj_gg_fr cc m q _ _ A k (by omega) (by omega) (by omega)
  unfold s_X5_odds
  generalize s_X0_go cc m q a.toNatClampNeg n.toNatClampNeg A = J at h1 ⊢
  exact rq_hi_ite (rq_hi_ite (rq_hi_ite rq_hi_rf (rq_hi_ite rq_hi_rf (rq_hi_ite rq_hi_rf (rq_hi_ite rq_hi_rf (rq_hi_ite h1 (rq_hi_ite h1 h1)))))) rq_hi_rf) rq_hi_rf
theorem rq_tway_hi (hc : cc = 2 ∨ cc = 10) (u a i : Int32) (n : Nat) (hu : u.toNatClampNeg < 4) (I : mj_I) : rq_hi I (s_X5_takeWay cc u a i n I).2 := fun k hk => by
  funext y
  by_cases h1 : k = 1
  · omega
  · exact mj_tw_fr cc u a i n (by omega) (by omega) I k y (by omega) (Or.inl h1)
theorem rq_h5_route (hc : cc = 2 ∨ cc = 10) (h : mj_RL cc m p R A B) (s a i n w : Int32) : rq_hi A (s_X5_route cc p s a i n w A).2 := by
  unfold s_X5_route
  by_cases h1 : s_X5_isSheet s A = 0
  · rw [if_pos h1]; exact rq_13
  · rw [if_neg h1]
    have h2 := rq_tway_hi hc s a i n.toNatClampNeg (rq_sh3 h1) A
    exact rq_hi_ite rq_13 (rq_hi_ite rq_13 (rq_hi_ite rq_13 (rq_hi_ite h2 h2)))
theorem rq_trw_hi (hc : cc = 2 ∨ cc = 10) (s a i n : Int32) (I : mj_I) : rq_hi I (s_X5_takeReadWay cc s a i n I).2 := fun k hk => by
  funext y
  exact mj_trw_fr cc s a i n (by omega) I k y (by omega) (Or.inl (by omega))
theorem rq_fi_hi (cc y : Nat) (hy : 1 ≤ cc + y ∧ cc + y < 42) (q : Int32) (m p R e : Nat) (was : Int32) : ∀ (k j : Nat) (g : Int32) (I : mj_I), rq_hi I (s_X5_fi cc y q m p R e was k j g I).2 := by
  intro k
  induction k with
  | zero => intros; exact rq_hi_up rq_hi_rf hy
  | succ k ih =>
    intro j g I
    have h1 : rq_hi I (s_X5_readingsAreSo cc m p R (mj_upI I (cc + y) q (nI j))).2 := rq_hi_tr (rq_hi_up rq_hi_rf hy) (fun k hk => funext fun z => mj_ras_fr cc m p R _ k z (by omega))
    rw [s_X5_fi]
    exact rq_hi_ite (rq_hi_tr h1 (ih _ _ _)) (rq_hi_tr h1 (ih _ _ _))
theorem rq_fit_hi (cc y : Nat) (hy : 1 ≤ cc + y ∧ cc + y < 42) (q : Int32) (m p R e : Nat) (I : mj_I) : rq_hi I (s_X5_fitting cc y q m p R e I).2 := rq_fi_hi cc y hy q m p R e _ e 0 0 I
theorem rq_h5_seasons (hc : cc = 2 ∨ cc = 10) (h : mj_RL cc m p R A B) (q s a i n : Int32) : rq_hi A (s_X5_seasons cc p R q s a i n A).2 := by
  have h1 := rq_trw_hi hc s a i n A
  unfold s_X5_seasons
  exact rq_hi_ite (rq_hi_ite (rq_hi_tr h1 (rq_fit_hi _ _ (by omega) _ _ _ _ _ _)) h1) rq_13
theorem rq_h5_kinds (hc : cc = 2 ∨ cc = 10) (h : mj_RL cc m p R A B) (q s a i n : Int32) : rq_hi A (s_X5_kinds cc p R q s a i n A).2 := by
  have h1 := rq_trw_hi hc s a i n A
  unfold s_X5_kinds
  exact rq_hi_ite (rq_hi_ite (rq_hi_tr h1 (rq_fit_hi _ _ (by omega) _ _ _ _ _ _)) h1) rq_13
theorem rq_h5_wishes (hc : cc = 2 ∨ cc = 10) (h : mj_RL cc m p R A B) (q t s a i n : Int32) : rq_hi A (s_X5_wishes cc p R q t s a i n A).2 := by
  have h1 := rq_trw_hi hc s a i n A
  have hpl := (rq_pre5 h).2.2.2.2.2.1
  unfold s_X5_wishes
  by_cases h2 : sp_has (A cc 1) q = true
  · rw [if_pos h2]
    have h3 : q.toNatClampNeg < 3 := by rcases mj_has3 h2 hpl with rfl | rfl | rfl <;> decide
    exact rq_hi_ite rq_13 (rq_hi_ite rq_13 (rq_hi_ite (rq_hi_ite (rq_hi_tr h1 (rq_fit_hi _ _ (by omega) _ _ _ _ _ _)) h1) rq_13))
  · rw [if_neg h2]; exact rq_13
theorem rq_go1_hi (cc m : Nat) (s e : Int32) : ∀ (k j : Nat) (I : mj_I), rq_hi I (s_X3_go1 cc m s e k j I) := by
  intro k
  induction k with
  | zero => intros; exact rq_hi_rf
  | succ k ih =>
    intro j I
    rw [s_X3_go1]
    split
    · exact rq_hi_tr (fun x hx => mj_come_fr _ _ _ I x (by omega) (by omega) (by omega) (by omega)) (ih _ _)
    · exact ih _ _
theorem rq_tf_hi (a : Int32) : ∀ (k j : Nat) (s f : Int32) (I : mj_I), rq_hi I (s_X3_tf a k j s f I).2 := by
  intro k
  induction k with
  | zero => intros; exact rq_hi_rf
  | succ k ih =>
    intro j s f I
    rw [s_X3_tf]
    exact rq_hi_ite rq_hi_rf (rq_hi_ite (rq_hi_ite rq_hi_rf (rq_hi_tr (rq_hi_up rq_hi_rf (by omega)) (ih _ _ _ _))) rq_hi_rf)
theorem rq_qd_hi (cc m : Nat) (s e : Int32) : ∀ (k j : Nat) (I : mj_I), rq_hi I (s_X3_qd cc m s e k j I).2 := by
  intro k
  induction k with
  | zero => intro j I; rw [s_X3_qd]; exact rq_hi_ite rq_hi_rf rq_hi_rf
  | succ k ih =>
    intro j I
    have h1 : rq_hi I (s_X3_tellFound (I 21 (nI j)) I).2 := by
      rw [s_X3_tellFound]
      exact rq_tf_hi _ 24 0 _ _ I
    rw [s_X3_qd]
    exact rq_hi_ite (rq_hi_ite h1 (rq_hi_ite (rq_hi_tr (rq_go1_hi _ _ _ _ _ _ _) (ih _ _)) (ih _ _))) rq_hi_rf
theorem rq_qds_hi (cc m : Nat) (s e : Int32) (I : mj_I) : rq_hi I (s_X3_quickestDays cc m s e I).2 := by
  have h0 : rq_hi I (mj_upI (mj_fil I 23 3072 0) 20 4 0) := rq_hi_up (rq_hi_fil rq_hi_rf (by omega)) (by omega)
  have h1 : ∀ st, rq_hi I (s_X3_come st (-1) 1 (mj_upI (mj_fil I 23 3072 0) 20 4 0)) := fun st => rq_hi_tr h0 (fun x hx => mj_come_fr _ _ _ _ x (by omega) (by omega) (by omega) (by omega))
  have hq := rq_qd_hi cc m s e 3072 0
  rw [s_X3_quickestDays]
  generalize s_X3_qd cc m s e 3072 0 = F at hq
  exact rq_hi_ite rq_hi_rf (rq_hi_tr (h1 _) (hq _))
theorem rq_h5_quickest (hc : cc = 2 ∨ cc = 10) (h : mj_RL cc m p R A B) (s e k : Int32) : rq_hi A (s_X5_quickest cc m s e k A).2 := by
  have h1 := rq_qds_hi cc m s e A
  unfold s_X5_quickest
  generalize s_X3_quickestDays cc m s e A = J at h1 ⊢
  exact rq_hi_ite (rq_hi_ite rq_hi_rf (rq_hi_ite (rq_hi_ite rq_hi_rf (rq_hi_ite (rq_hi_ite h1 (rq_hi_ite h1 h1)) rq_hi_rf)) rq_hi_rf)) rq_hi_rf
-- the reader
theorem rq_tk_hi (rr : Nat) (e : Int32) (I : mj_I) : rq_hi I (s_X2_takes rr e I).2 := fun x hx => mj_tk_fr rr e I x (by omega)
theorem rq_td_hi (rr t : Nat) (e : Int32) (he : e.toInt < 7) (I : mj_I) : rq_hi I (s_X2_takeDigit rr t e I).2 := fun x hx => mj_td_fr rr t e he I x (by omega)
theorem rq_rs_hi (rr x m : Nat) (e : Int32) (hx : 1 ≤ x ∧ x < 42) (I : mj_I) : rq_hi I (s_X2_readsSeasons rr x m e I).2 := fun y hy => mj_rs_fr rr x m e I y (by omega) (by omega)
theorem rq_kd_hi (rr : Nat) (I : mj_I) : rq_hi I (s_X2_takeKind rr I).2 := by
  have h1 := rq_tk_hi rr 112 I
  unfold s_X2_takeKind
  generalize s_X2_takes rr 112 I = g1 at h1 ⊢
  have h2 := rq_hi_tr h1 (rq_tk_hi rr 115 g1.2)
  generalize s_X2_takes rr 115 g1.2 = g2 at h2 ⊢
  have h3 := rq_hi_tr h2 (rq_tk_hi rr 119 g2.2)
  generalize s_X2_takes rr 119 g2.2 = g3 at h3 ⊢
  exact rq_hi_ite (rq_hi_ite (rq_hi_ite h3 h3) h2) h1
theorem rq_st_hi (dd rr : Nat) (hd : 1 ≤ dd ∧ dd < 12) (e : Int32) : ∀ (k j : Nat) (I : mj_I), rq_hi I (s_X2_st dd rr e k j I).2 := by
  intro k
  induction k with
  | zero => intro j I; rw [s_X2_st]; exact rq_rs_hi rr (dd + 1) 6 e (by omega) I
  | succ k ih =>
    intro j I
    rw [s_X2_st]
    exact rq_hi_ite (rq_hi_tr (rq_hi_up rq_hi_rf (by omega)) (ih _ _)) (rq_rs_hi rr (dd + 1) 6 e (by omega) I)
theorem rq_rst_hi (dd rr : Nat) (hd : 1 ≤ dd ∧ dd < 12) (I : mj_I) : rq_hi I (s_X2_readsStreets dd rr I).2 := by
  have h1 := rq_tk_hi rr 121 I
  unfold s_X2_readsStreets
  generalize s_X2_takes rr 121 I = g1 at h1 ⊢
  have h2 := rq_hi_tr h1 (rq_td_hi rr 2 6 (by decide) g1.2)
  have hs := rq_st_hi dd rr hd (s_X2_takeDigit rr 2 6 g1.2).1 6 0
  generalize s_X2_takeDigit rr 2 6 g1.2 = g at h2 hs ⊢
  generalize s_X2_st dd rr g.1 6 0 = F at hs ⊢
  exact rq_hi_ite h1 (rq_hi_ite h2 (rq_hi_tr (rq_hi_up h2 (by omega)) (hs _)))
theorem rq_pl_hi (dd rr : Nat) (hd : 1 ≤ dd ∧ dd < 12) : ∀ (k j : Nat) (I : mj_I), k + j ≤ 3 → rq_hi I (s_X2_pl dd rr k j I).2 := by
  intro k
  induction k with
  | zero => intro j I _; rw [s_X2_pl]; exact rq_hi_ite rq_hi_rf rq_hi_rf
  | succ k ih =>
    intro j I hk
    have h1 := rq_tk_hi rr 44 I
    rw [s_X2_pl]
    generalize s_X2_takes rr 44 I = g1 at h1 ⊢
    have h2 := rq_hi_tr h1 (rq_kd_hi rr g1.2)
    generalize s_X2_takeKind rr g1.2 = g2 at h2 ⊢
    have h3 := rq_hi_tr h2 (rq_rs_hi rr (dd + 4 + 1 + j) 3 3 (by omega) g2.2)
    generalize s_X2_readsSeasons rr (dd + 4 + 1 + j) 3 3 g2.2 = g3 at h3 ⊢
    exact rq_hi_ite (rq_hi_ite h1 h1) (rq_hi_ite h2 (rq_hi_ite h3 (rq_hi_tr (rq_hi_up (rq_hi_up h3 (by omega)) (by omega)) (ih _ _ (by omega)))))
theorem rq_rpl_hi (dd rr : Nat) (hd : 1 ≤ dd ∧ dd < 12) (I : mj_I) : rq_hi I (s_X2_readsPlants dd rr I).2 := by
  have hp := fun J => rq_pl_hi dd rr hd 3 0 J (by omega)
  rw [s_X2_readsPlants]
  generalize s_X2_pl dd rr 3 0 = F at hp
  exact rq_hi_tr (rq_hi_up rq_hi_rf (by omega)) (hp _)
theorem rq_co_hi (dd rr : Nat) (hd : 1 ≤ dd ∧ dd < 12) (h18 : dd ≠ 18) : ∀ (k j : Nat) (I : mj_I), (0 ≤ (I dd 0).toInt ∧ (I dd 0).toInt ≤ 6) → rq_hi I (s_X2_co dd rr k j I).2 := by
  intro k
  induction k with
  | zero => intro j I _; rw [s_X2_co]; exact rq_hi_rf
  | succ k ih =>
    intro j I hs
    have h1 := rq_tk_hi rr 45 I
    have s1 : 0 ≤ ((s_X2_takes rr 45 I).2 dd 0).toInt ∧ ((s_X2_takes rr 45 I).2 dd 0).toInt ≤ 6 := by rw [mj_tk_fr _ _ _ _ h18]; exact hs
    rw [s_X2_co]
    generalize s_X2_takes rr 45 I = g1 at h1 s1 ⊢
    have b1 := mj_lt67 (mj_st1 s1)
    have h2 := rq_hi_tr h1 (rq_td_hi rr 0 (g1.2 dd 0 - 1) b1 g1.2)
    have s2 : 0 ≤ ((s_X2_takeDigit rr 0 (g1.2 dd 0 - 1) g1.2).2 dd 0).toInt ∧ ((s_X2_takeDigit rr 0 (g1.2 dd 0 - 1) g1.2).2 dd 0).toInt ≤ 6 := by rw [mj_td_fr _ _ _ b1 _ _ h18]; exact s1
    generalize s_X2_takeDigit rr 0 (g1.2 dd 0 - 1) g1.2 = g2 at h2 s2 ⊢
    have b2 := mj_lt67 (mj_st1 s2)
    have h3 := rq_hi_tr h2 (rq_td_hi rr 0 (g2.2 dd 0 - 1) b2 g2.2)
    have s3 : 0 ≤ ((s_X2_takeDigit rr 0 (g2.2 dd 0 - 1) g2.2).2 dd 0).toInt ∧ ((s_X2_takeDigit rr 0 (g2.2 dd 0 - 1) g2.2).2 dd 0).toInt ≤ 6 := by rw [mj_td_fr _ _ _ b2 _ _ h18]; exact s2
    generalize s_X2_takeDigit rr 0 (g2.2 dd 0 - 1) g2.2 = g3 at h3 s3 ⊢
    refine rq_hi_ite h1 (rq_hi_ite h2 (rq_hi_ite (rq_hi_ite h3 ?_) h2))
    refine rq_hi_tr (rq_hi_tr h3 (rq_setc_hi (by omega))) (ih _ _ ?_)
    rw [mj_setc_ne (by omega)]; exact s3
theorem rq_rco_hi (dd rr : Nat) (hd : 1 ≤ dd ∧ dd < 12) (I : mj_I) (hs : 0 ≤ (I dd 0).toInt ∧ (I dd 0).toInt ≤ 6) : rq_hi I (s_X2_readsCorners dd rr I).2 := by
  have hp := rq_co_hi dd rr hd (by omega) 9 0 I hs
  rw [s_X2_readsCorners]
  exact hp
theorem rq_rdc_hi (dd rr : Nat) (hd : dd = 2 ∨ dd = 10) (I : mj_I) : rq_hi I (s_X2_readsCity dd rr I).2 := by
  have h1 := rq_rst_hi dd rr (by omega) I
  have s1 := mj_st_ok (rr := rr) (I := I) hd
  rw [s_X2_readsCity]
  generalize s_X2_readsStreets dd rr I = g1 at h1 s1 ⊢
  by_cases h0 : g1.1 = 0
  · rw [if_pos h0]; exact h1
  · rw [if_neg h0]
    have h2 := rq_hi_tr h1 (rq_rco_hi dd rr (by omega) g1.2 (by have := s1 h0; omega))
    generalize s_X2_readsCorners dd rr g1.2 = g2 at h2 ⊢
    have h3 := rq_hi_tr h2 (rq_rpl_hi dd rr (by omega) g2.2)
    generalize s_X2_readsPlants dd rr g2.2 = g3 at h3 ⊢
    exact rq_hi_ite h2 (rq_hi_ite h3 (rq_hi_ite h3 h3))
theorem rq_h5_city {dd r : Nat} (hcc : (cc = 2 ∧ dd = 10) ∨ (cc = 10 ∧ dd = 2)) (h : mj_RL cc m p R A B) (s u i n : Int32) : rq_hi A (s_X5_city cc dd r s u i n A).2.1 := by
  have h0 : rq_hi A (mj_upI (mj_upI (mj_upI (mj_upI A 1 13 0) 18 1 i) 18 2 n) 18 3 0) := rq_hi_up (rq_hi_up (rq_hi_up rq_13 (by omega)) (by omega)) (by omega)
  have h1 := rq_hi_tr h0 (rq_rdc_hi dd (34 + 2 * s.toNatClampNeg + 1) (by omega) (mj_upI (mj_upI (mj_upI (mj_upI A 1 13 0) 18 1 i) 18 2 n) 18 3 0))
  unfold s_X5_city
  generalize s_X2_readsCity dd (34 + 2 * s.toNatClampNeg + 1) (mj_upI (mj_upI (mj_upI (mj_upI A 1 13 0) 18 1 i) 18 2 n) 18 3 0) = g1 at h1 ⊢
  split
  · exact rq_13
  · split
    · exact rq_13
    · split
      · split
        · exact h1
        · exact rq_hi_up h1 (by omega)
      · exact rq_13
end H5
