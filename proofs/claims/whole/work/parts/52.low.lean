/-! the reference writes nothing below its own cells -/
theorem rq_lo_tr {I J K : mj_I} (h1 : rq_lo I J) (h2 : rq_lo J K) : rq_lo I K := fun k hk => (h2 k hk).trans (h1 k hk)
theorem rq_lo_ite {α : Type} {c : Prop} [Decidable c] {I : mj_I} {x y : α × mj_I} (h1 : rq_lo I x.2) (h2 : rq_lo I y.2) : rq_lo I (if c then x else y).2 := by
  split
  · exact h1
  · exact h2
theorem rq_lo_ne {I J : mj_I} (h : ∀ x, x ≤ 41 → J x = I x) : rq_lo I J := h
section L6
variable {cc m p R : Nat} {A B : mj_I}
theorem rq_l6_let (hc : cc = 2 ∨ cc = 10) (h : mj_RL cc m p R A B) (s v : Int32) : rq_lo B (s_X6_let s v B).2 := by
  unfold s_X6_let
  repeat' split
  all_goals first
    | exact rq_lo_rf
    | exact rq_lo_up (rq_lo_up rq_lo_rf (by omega)) (by omega)
theorem rq_l6_corner (hc : cc = 2 ∨ cc = 10) (h : mj_RL cc m p R A B) (x y v : Int32) : rq_lo B (s_X6_corner x y v B).2 := by
  unfold s_X6_corner
  repeat' split
  all_goals first
    | exact rq_lo_rf
    | exact rq_lo_up (rq_lo_up (rq_lo_up rq_lo_rf (by omega)) (by omega)) (by omega)
theorem rq_l6_reading (hc : cc = 2 ∨ cc = 10) (h : mj_RL cc m p R A B) (q e : Int32) : rq_lo B (s_X6_reading q e B).2 := by
  unfold s_X6_reading
  repeat' split
  all_goals first
    | exact rq_lo_rf
    | exact rq_lo_up (rq_lo_up (rq_lo_up rq_lo_rf (by omega)) (by omega)) (by omega)
theorem rq_l6_back (hc : cc = 2 ∨ cc = 10) (h : mj_RL cc m p R A B) (k : Int32) : rq_lo B (s_X6_back k B).2 := by
  unfold s_X6_back
  repeat' split
  all_goals first
    | exact rq_lo_rf
    | exact rq_lo_up rq_lo_rf (by omega)
theorem rq_l6_lose (hc : cc = 2 ∨ cc = 10) (h : mj_RL cc m p R A B) (k : Int32) : rq_lo B (s_X6_lose k B).2 := by
  unfold s_X6_lose
  repeat' split
  all_goals first
    | exact rq_lo_rf
    | exact rq_lo_up rq_lo_rf (by omega)
theorem rq_l6_put (hc : cc = 2 ∨ cc = 10) (h : mj_RL cc m p R A B) (k i v : Int32) : rq_lo B (s_X6_put k i v B).2 := by
  unfold s_X6_put
  repeat' split
  all_goals first
    | exact rq_lo_up (rq_lo_up rq_lo_rf (by omega)) (by omega)
    | exact rq_lo_up rq_lo_rf (by omega)
theorem rq_l6_cell (hc : cc = 2 ∨ cc = 10) (h : mj_RL cc m p R A B) (s i a : Int32) : rq_lo B (s_X6_cell s i a B).2 := by
  unfold s_X6_cell
  repeat' split
  all_goals first
    | exact rq_lo_up (rq_lo_up rq_lo_rf (by omega)) (by omega)
    | exact rq_lo_up rq_lo_rf (by omega)
theorem rq_l6_tell (hc : cc = 2 ∨ cc = 10) (h : mj_RL cc m p R A B) (q : Int32) : rq_lo B (s_X6_tell q B).2 := by
  unfold s_X6_tell s_X6_begins
  repeat' split
  all_goals first
    | exact rq_lo_rf
    | exact rq_lo_up (rq_lo_up (rq_lo_up (rq_lo_up rq_lo_rf (by omega)) (by omega)) (by omega)) (by omega)
    | exact rq_lo_up (rq_lo_up rq_lo_rf (by omega)) (by omega)
    | exact rq_lo_up rq_lo_rf (by omega)
theorem rq_l6_label (hc : cc = 2 ∨ cc = 10) (h : mj_RL cc m p R A B) (q : Int32) : rq_lo B (s_X6_label q B).2 := by
  unfold s_X6_label s_X6_begins
  repeat' split
  all_goals first
    | exact rq_lo_rf
    | exact rq_lo_up rq_lo_rf (by omega)
theorem rq_l6_as (hc : cc = 2 ∨ cc = 10) (h : mj_RL cc m p R A B) (q k : Int32) : rq_lo B (s_X6_as q k B).2 := by
  unfold s_X6_as
  repeat' split
  all_goals first
    | exact rq_lo_up (rq_lo_up rq_lo_rf (by omega)) (by omega)
    | exact rq_lo_up rq_lo_rf (by omega)
theorem rq_ly_lo (u a i : Int32) (n : Nat) (I : mj_I) : rq_lo I (s_X6_layRoute u a i n I).2 := fun k hk => mj6_ly_ne u a i n I k (by omega) (by omega)
theorem rq_go_lo (m p : Nat) (I : mj_I) : rq_lo I (s_X6_goRoute m p I) := fun k hk => mj6_gr_ne m p I k (by omega) (by omega)
theorem rq_as_lo (m p R : Nat) (I : mj_I) : rq_lo I (s_X6_areSo m p R I).2 := fun k hk => mj6_as_ne m p R I k (by omega) (by omega)
theorem rq_tr_lo (w : Int32) (m p : Nat) (I : mj_I) : rq_lo I (s_X6_tellRoute w m p I).2 := by
  unfold s_X6_tellRoute
  repeat' split
  all_goals exact rq_go_lo m p I
theorem rq_l6_route (hc : cc = 2 ∨ cc = 10) (h : mj_RL cc m p R A B) (s a i n w : Int32) : rq_lo B (s_X6_route p s a i n w B).2 := by
  have h0 : rq_lo B (mj_upI B 42 0 0) := rq_lo_up rq_lo_rf (by omega)
  have h1 := rq_lo_tr h0 (rq_ly_lo s a i n.toNatClampNeg (mj_upI B 42 0 0))
  have h2 := rq_lo_tr h1 (rq_tr_lo w n.toNatClampNeg p _)
  unfold s_X6_route
  repeat' split
  all_goals first
    | exact h0
    | exact h1
    | exact h2
theorem rq_la_lo (e f u a i n : Int32) (I : mj_I) : rq_lo I (s_X6_lay e f u a i n I).2 := fun k hk => mj6_la_ne e f u a i n I k (by omega) (by omega)
theorem rq_se_lo (s u a i n f was : Int32) (m p R : Nat) : ∀ (k j : Nat) (g : Int32) (I : mj_I), rq_lo I (s_X6_se s u a i n f was m p R k j g I).2 := by
  intro k
  induction k with
  | zero => intro j g I; exact rq_lo_up rq_lo_rf (by omega)
  | succ k ih =>
    intro j g I
    have h1 : rq_lo I (s_X6_areSo m p R (mj_upI I 46 s (nI j))).2 := rq_lo_tr (rq_lo_up rq_lo_rf (by omega)) (rq_as_lo m p R _)
    rw [s_X6_se]
    repeat' split
    all_goals exact rq_lo_tr h1 (ih _ _ _)
theorem rq_ki_lo (q u a i n f was : Int32) (m p R : Nat) : ∀ (k j : Nat) (g : Int32) (I : mj_I), rq_lo I (s_X6_ki q u a i n f was m p R k j g I).2 := by
  intro k
  induction k with
  | zero => intro j g I; exact rq_lo_up rq_lo_rf (by omega)
  | succ k ih =>
    intro j g I
    have h1 : rq_lo I (s_X6_areSo m p R (mj_upI I 48 q (nI j))).2 := rq_lo_tr (rq_lo_up rq_lo_rf (by omega)) (rq_as_lo m p R _)
    rw [s_X6_ki]
    repeat' split
    all_goals exact rq_lo_tr h1 (ih _ _ _)
theorem rq_wi_lo (q t u a i n f was : Int32) (m p R : Nat) : ∀ (k j : Nat) (g : Int32) (I : mj_I), rq_lo I (s_X6_wi q t u a i n f was m p R k j g I).2 := by
  intro k
  induction k with
  | zero => intro j g I; exact rq_lo_up rq_lo_rf (by omega)
  | succ k ih =>
    intro j g I
    have h1 : rq_lo I (s_X6_areSo m p R (mj_upI I 49 (3 * q + t) (nI j))).2 := rq_lo_tr (rq_lo_up rq_lo_rf (by omega)) (rq_as_lo m p R _)
    rw [s_X6_wi]
    repeat' split
    all_goals exact rq_lo_tr h1 (ih _ _ _)
theorem rq_l6_seasons (hc : cc = 2 ∨ cc = 10) (h : mj_RL cc m p R A B) (q s a i n : Int32) : rq_lo B (s_X6_seasons p R q s a i n B).2 := by
  have h1 := rq_la_lo (s_X6_isStreet q B) 1 s a i n B
  unfold s_X6_seasons
  repeat' split
  all_goals first
    | exact h1
    | exact rq_lo_tr h1 (rq_se_lo _ _ _ _ _ _ _ _ _ _ _ _ _ _)
theorem rq_l6_kinds (hc : cc = 2 ∨ cc = 10) (h : mj_RL cc m p R A B) (q s a i n : Int32) : rq_lo B (s_X6_kinds p R q s a i n B).2 := by
  have h1 := rq_la_lo (s_X6_isPlant q B) 1 s a i n B
  unfold s_X6_kinds
  repeat' split
  all_goals first
    | exact h1
    | exact rq_lo_tr h1 (rq_ki_lo _ _ _ _ _ _ _ _ _ _ _ _ _ _)
theorem rq_l6_wishes (hc : cc = 2 ∨ cc = 10) (h : mj_RL cc m p R A B) (q t s a i n : Int32) : rq_lo B (s_X6_wishes p R q t s a i n B).2 := by
  have h1 := rq_la_lo (s_X6_isPlant q B) (s_X6_within t 0 2 B) s a i n B
  unfold s_X6_wishes
  repeat' split
  all_goals first
    | exact h1
    | exact rq_lo_tr h1 (rq_wi_lo _ _ _ _ _ _ _ _ _ _ _ _ _ _ _)
theorem rq_l6_mild (hc : cc = 2 ∨ cc = 10) (h : mj_RL cc m p R A B) (a e : Int32) : rq_lo B (s_X6_mild m a e B).2 := by
  unfold s_X6_mild
  repeat' split
  all_goals first
    | exact rq_lo_rf
    | exact fun k hk => mj6_fc_ne a m B k (by omega)
theorem rq_be_lo (m : Nat) : ∀ (k j : Nat) (g f : Int32) (I : mj_I), rq_lo I (s_X6_be m k j g f I).2 := by
  intro k
  induction k with
  | zero => intros; exact rq_lo_rf
  | succ k ih =>
    intro j g f I
    have h1 : rq_lo I (s_X6_mostFrom m (nI j) I).2 := fun k hk => mj6_mf_ne (nI j) m I k (by omega)
    rw [s_X6_be]
    repeat' split
    all_goals exact rq_lo_tr h1 (ih _ _ _ _)
theorem rq_l6_best (hc : cc = 2 ∨ cc = 10) (h : mj_RL cc m p R A B) : rq_lo B (s_X6_best m B).2 := by
  unfold s_X6_best
  split
  · exact rq_lo_rf
  · exact rq_be_lo m m 0 _ _ B
theorem rq_c1_eq (m : Nat) : ∀ (k j : Nat) (g : Int32) (I : mj_I), (s_X6_c1 m k j g I).2 = I := by
  intro k
  induction k with
  | zero => intros; rfl
  | succ k ih => intro j g I; rw [s_X6_c1, ih, mj6_c2_eq]
theorem rq_ma_eq (m : Nat) (w : Int32) (I : mj_I) : (s_X6_many m w I).2 = I := by
  unfold s_X6_many
  repeat' split
  all_goals first
    | rfl
    | exact rq_c1_eq m m 0 0 I
theorem rq_l6_many (hc : cc = 2 ∨ cc = 10) (h : mj_RL cc m p R A B) (w : Int32) : rq_lo B (s_X6_many m w B).2 := by
  rw [rq_ma_eq]
  exact rq_lo_rf
theorem rq_sh_lo (v a n : Int32) : ∀ (k j : Nat) (I : mj_I), rq_lo I (s_X6_sh v a n k j I).2 := by
  intro k
  induction k with
  | zero => intros; exact rq_lo_rf
  | succ k ih => intro j I; rw [s_X6_sh]; exact rq_lo_tr (rq_lo_up rq_lo_rf (by omega)) (ih _ _)
theorem rq_l6_sheet (hc : cc = 2 ∨ cc = 10) (h : mj_RL cc m p R A B) (k a n : Int32) : rq_lo B (s_X6_sheet k a n B).2 := by
  have h0 : rq_lo B (mj_upI B 42 0 0) := rq_lo_up rq_lo_rf (by omega)
  have h1 := rq_lo_tr (rq_lo_up (rq_lo_up h0 (by omega)) (by omega) : rq_lo B (mj_upI (mj_upI (mj_upI B 42 0 0) 43 k a) 44 k n)) (rq_sh_lo k a n 60 0 _)
  unfold s_X6_sheet
  generalize s_X6_sh k a n 60 0 = F at h1
  repeat' split
  all_goals first
    | exact h0
    | exact h1
    | exact rq_lo_up h0 (show 41 < 42 by omega)
theorem rq_cp_lo (s i v e : Int32) (m : Nat) (f g : Int32) : ∀ (k j : Nat) (I : mj_I), rq_lo I (s_X6_cp s i v e m f g k j I).2 := by
  intro k
  induction k with
  | zero => intros; exact rq_lo_rf
  | succ k ih =>
    intro j I
    rw [s_X6_cp]
    repeat' split
    all_goals exact rq_lo_tr (rq_lo_up rq_lo_rf (by omega)) (ih _ _)
theorem rq_l6_copy (hc : cc = 2 ∨ cc = 10) (h : mj_RL cc m p R A B) (s i v j n : Int32) : rq_lo B (s_X6_copy s i v j n B).2 := by
  have h0 : rq_lo B (mj_upI B 42 0 0) := rq_lo_up rq_lo_rf (by omega)
  have h1 := fun f g : Int32 => rq_lo_tr h0 (rq_cp_lo s i v j n.toNatClampNeg f g n.toNatClampNeg 0 (mj_upI B 42 0 0))
  unfold s_X6_copy
  repeat' apply rq_lo_ite
  all_goals first
    | exact h0
    | exact h1 _ _
    | exact rq_lo_up h0 (show 41 < 42 by omega)
end L6
section L7
variable {cc m p R : Nat} {A B : mj_I}
theorem rq_fd_lo (m : Nat) (e : Int32) : ∀ (k j : Nat) (g : Int32) (I : mj_I), rq_lo I (s_X6_fd m e k j g I).2 := by
  intro k
  induction k with
  | zero => intros; exact rq_lo_rf
  | succ k ih =>
    intro j g I
    rw [s_X6_fd]
    repeat' split
    all_goals first
      | exact ih _ _ _
      | exact rq_lo_tr (rq_lo_up rq_lo_rf (by omega)) (ih _ _ _)
theorem rq_fD_lo (m : Nat) (e : Int32) (I : mj_I) : rq_lo I (s_X6_findDay m e I).2 := by
  rw [s_X6_findDay]
  exact rq_fd_lo m e 2058 0 0 I
theorem rq_ga_lo : ∀ (k j : Nat) (I : mj_I), rq_lo I (s_X6_ga k j I) := by
  intro k
  induction k with
  | zero => intros; exact rq_lo_rf
  | succ k ih =>
    intro j I
    rw [s_X6_ga]
    repeat' split
    all_goals first
      | exact rq_lo_rf
      | exact rq_lo_tr (rq_lo_up rq_lo_rf (by omega)) (ih _ _)
theorem rq_gb_lo (m : Nat) : ∀ (k j : Nat) (g : Int32) (I : mj_I), rq_lo I (s_X6_gb m k j g I) := by
  intro k
  induction k with
  | zero => intros; exact rq_lo_up rq_lo_rf (by omega)
  | succ k ih =>
    intro j g I
    rw [s_X6_gb]
    split
    · exact rq_lo_up rq_lo_rf (by omega)
    · exact rq_lo_tr (rq_fD_lo m (nI j) I) (ih _ _ _)
theorem rq_tg_lo (m : Nat) (I : mj_I) : rq_lo I (s_X6_findToGo m I) := by
  have h1 := rq_ga_lo 2058 0 I
  rw [s_X6_findToGo]
  generalize s_X6_ga 2058 0 I = J at h1 ⊢
  split
  all_goals exact rq_lo_tr h1 (rq_gb_lo m 23 1 _ J)
theorem rq_qu_eq (v s : Int32) (w m : Nat) : ∀ (k j : Nat) (g : Int32) (I : mj_I), (s_X6_qu v s w m k j g I).2 = I := by
  intro k
  induction k with
  | zero => intros; rfl
  | succ k ih => intro j g I; rw [s_X6_qu, ih]
theorem rq_l6_quickest (hc : cc = 2 ∨ cc = 10) (h : mj_RL cc m p R A B) (s e k : Int32) : rq_lo B (s_X6_quickest m s e k B).2 := by
  have h1 := rq_tg_lo m B
  unfold s_X6_quickest
  generalize s_X6_findToGo m B = J at h1 ⊢
  repeat' split
  all_goals first
    | exact rq_lo_rf
    | exact h1
    | (rw [rq_qu_eq]; exact h1)
theorem rq_gw_lo (m : Nat) (q : Int32) (I : mj_I) : rq_lo I (s_X6_goRows m q I) := fun k hk => mj6_gw_ne m q I k (by omega) (by omega)
theorem rq_oF_lo (q a : Int32) (v : Nat) (w f : Int32) (m : Nat) : ∀ (k j : Nat) (I : mj_I), rq_lo I (s_X6_oF q a v w f m k j I) := by
  intro k
  induction k with
  | zero => intros; exact rq_lo_rf
  | succ k ih => intro j I; rw [s_X6_oF]; exact rq_lo_tr (rq_gw_lo m q I) (ih _ _)
theorem rq_lt_eq (u e : Int64) (w : Int32) (m : Nat) : ∀ (k j : Nat) (x y : Int64) (I : mj_I), (s_X6_lt u e w m k j x y I).2 = I := by
  intro k
  induction k with
  | zero =>
    intro j x y I
    rw [s_X6_lt]
    split <;> rfl
  | succ k ih =>
    intro j x y I
    rw [s_X6_lt]
    repeat' split
    all_goals first
      | rfl
      | exact ih _ _ _ _
theorem rq_og_eq (q a n w f : Int32) (y : Nat) : ∀ (k j : Nat) (g e : Int32) (I : mj_I), (s_X6_og q a n w f y k j g e I).2 = I := by
  intro k
  induction k with
  | zero =>
    intro j g e I
    rw [s_X6_og]
    show (s_X6_inLeastTerms _ _ _ _ I).2 = I
    exact rq_lt_eq _ _ _ _ _ _ _ _ I
  | succ k ih =>
    intro j g e I
    rw [s_X6_og]
    split
    all_goals rw [ih]
theorem rq_l6_odds (hc : cc = 2 ∨ cc = 10) (h : mj_RL cc m p R A B) (q a n w : Int32) : rq_lo B (s_X6_odds m 100000 q a n w B).2 := by
  unfold s_X6_odds
  repeat' split
  all_goals first
    | exact rq_lo_rf
    | (show rq_lo B (s_X6_og _ _ _ _ _ _ _ _ _ _ _).2
       rw [rq_og_eq]
       exact rq_lo_tr (fun k hk => mj6_oE_ne _ _ _ _ _ k (by omega) _ _ B) (rq_oF_lo _ _ _ _ _ _ _ _ _))
-- the text
theorem rq_dg_lo (e f g : Int32) (I : mj_I) : rq_lo I (s_X6_digit e f g I).2 := fun k hk => mj6_dg_ne e f g I k (by omega)
theorem rq_sg_lo (e f : Int32) (I : mj_I) : rq_lo I (s_X6_isSign e f I).2 := fun k hk => mj6_sg_ne e f I k (by omega)
theorem rq_rc_lo (e : Int32) (I : mj_I) : rq_lo I (s_X6_readCorner e I).2 := by
  have h1 := rq_dg_lo e 0 (I 42 12 - 1) I
  unfold s_X6_readCorner
  generalize s_X6_digit e 0 (I 42 12 - 1) I = g1 at h1 ⊢
  have h2 := rq_lo_tr h1 (rq_dg_lo e 0 (g1.2 42 12 - 1) g1.2)
  generalize s_X6_digit e 0 (g1.2 42 12 - 1) g1.2 = g2 at h2 ⊢
  repeat' split
  all_goals first
    | exact h1
    | exact h2
    | exact rq_lo_up (rq_lo_up h2 (show 41 < 51 by omega)) (show 41 < 51 by omega)
theorem rq_rw_lo (e q f : Int32) : ∀ (k j : Nat) (I : mj_I), rq_lo I (s_X6_rw e q f k j I).2 := by
  intro k
  induction k with
  | zero => intros; exact rq_lo_up rq_lo_rf (show 41 < 42 by omega)
  | succ k ih =>
    intro j I
    have h1 : rq_lo I (mj_upI (s_X6_digit e 0 3 I).2 53 (3 * q + nI j) (s_X6_digit e 0 3 I).1) := rq_lo_up (rq_dg_lo e 0 3 I) (by omega)
    rw [s_X6_rw]
    split
    · exact h1
    · exact rq_lo_tr h1 (ih _ _)
theorem rq_rp_lo (e : Int32) (I : mj_I) : rq_lo I (s_X6_readPlant e I).2 := by
  have key : ∀ v f : Int32, rq_lo I (s_X6_rw e (I 42 13) f 3 0 (mj_upI (mj_upI I 52 (I 42 13) v) 42 11 (I 42 11 + 1))).2 := fun v f => rq_lo_tr (rq_lo_up (rq_lo_up rq_lo_rf (by omega)) (by omega)) (rq_rw_lo _ _ _ _ _ _)
  unfold s_X6_readPlant
  generalize s_X6_rw e (I 42 13) = F at key ⊢
  repeat' split
  all_goals first
    | exact key _ _
    | exact rq_lo_up rq_lo_rf (show 41 < 52 by omega)
theorem rq_rC_lo (e : Int32) : ∀ (k j : Nat) (I : mj_I), rq_lo I (s_X6_rC e k j I).2 := by
  intro k
  induction k with
  | zero =>
    intro j I
    rw [s_X6_rC]
    split
    all_goals exact rq_lo_rf
  | succ k ih =>
    intro j I
    have h1 := rq_sg_lo e 44 I
    rw [s_X6_rC]
    generalize s_X6_isSign e 44 I = g1 at h1 ⊢
    have h2 := rq_lo_tr h1 (rq_rp_lo e g1.2)
    generalize s_X6_readPlant e g1.2 = g2 at h2 ⊢
    have h3 := rq_lo_tr h2 (ih (j + 1) g2.2)
    repeat' split
    all_goals first
      | exact rq_lo_rf
      | exact h1
      | exact h2
      | exact h3
theorem rq_rB_lo (e : Int32) : ∀ (k j : Nat) (I : mj_I), rq_lo I (s_X6_rB e k j I).2 := by
  have hC := rq_rC_lo e 3 0
  generalize hF : s_X6_rC e 3 0 = F at hC
  intro k
  induction k with
  | zero => intro j I; rw [s_X6_rB, hF]; exact hC I
  | succ k ih =>
    intro j I
    have h1 := rq_sg_lo e 45 I
    rw [s_X6_rB, hF]
    generalize s_X6_isSign e 45 I = g1 at h1 ⊢
    have h2 := rq_lo_tr h1 (rq_rc_lo e g1.2)
    generalize s_X6_readCorner e g1.2 = g2 at h2 ⊢
    split
    · exact rq_lo_tr h1 (hC _)
    · split
      · exact h2
      · exact rq_lo_tr h2 (ih _ _)
theorem rq_rA_lo (e : Int32) : ∀ (k j : Nat) (I : mj_I), rq_lo I (s_X6_rA e k j I).2 := by
  have hC := rq_rB_lo e 9 0
  generalize hF : s_X6_rB e 9 0 = F at hC
  intro k
  induction k with
  | zero => intro j I; rw [s_X6_rA, hF]; exact hC I
  | succ k ih =>
    intro j I
    have h1 : rq_lo I (s_X6_digit e 0 3 (mj_upI I 51 (nI j) 0)).2 := rq_lo_tr (rq_lo_up rq_lo_rf (by omega)) (rq_dg_lo _ _ _ _)
    rw [s_X6_rA, hF]
    generalize s_X6_digit e 0 3 (mj_upI I 51 (nI j) 0) = g1 at h1 ⊢
    have h2 : rq_lo I (mj_upI g1.2 50 (nI j) g1.1) := rq_lo_up h1 (by omega)
    split
    · split
      · exact h2
      · exact rq_lo_tr h2 (ih _ _)
    · exact hC I
theorem rq_rcy_lo (e : Int32) (I : mj_I) : rq_lo I (s_X6_readCity e I).2 := by
  have hC := rq_rA_lo e 6 0
  have h1 : rq_lo I (s_X6_isSign e 121 (mj_upI I 42 13 0)).2 := rq_lo_tr (rq_lo_up rq_lo_rf (by omega)) (rq_sg_lo _ _ _)
  rw [s_X6_readCity]
  generalize s_X6_rA e 6 0 = F at hC
  generalize s_X6_isSign e 121 (mj_upI I 42 13 0) = g1 at h1 ⊢
  have h2 := rq_lo_tr h1 (rq_dg_lo e 2 6 g1.2)
  generalize s_X6_digit e 2 6 g1.2 = g2 at h2 ⊢
  have h3 : rq_lo I (mj_upI g2.2 42 12 g2.1) := rq_lo_up h2 (by omega)
  repeat' split
  all_goals first
    | exact h1
    | exact h3
    | exact rq_lo_tr h3 (hC _)
theorem rq_kB_lo (p : Nat) : ∀ (k j : Nat) (I : mj_I), rq_lo I (s_X6_kB p k j I) := by
  intro k
  induction k with
  | zero => intros; exact rq_lo_up (rq_lo_up rq_lo_rf (show 41 < 42 by omega)) (show 41 < 42 by omega)
  | succ k ih =>
    intro j I
    have h1 : rq_lo I (mj_upI I 48 (nI j) (I 52 (nI j))) := rq_lo_up rq_lo_rf (by omega)
    have h2 := rq_lo_tr h1 (fun x hx => mj6_kC_ne j x (by omega) 3 0 (mj_upI I 48 (nI j) (I 52 (nI j))))
    rw [s_X6_kB]
    exact rq_lo_tr h2 (ih _ _)
theorem rq_tc_lo (m p : Nat) (I : mj_I) : rq_lo I (s_X6_takeCity m p I) := by
  unfold s_X6_takeCity
  refine rq_lo_tr ?_ (rq_kB_lo p p 0 _)
  refine rq_lo_up ?_ (by omega)
  refine rq_lo_tr ?_ (fun x hx => mj6_kA_ne m x (by omega) (by omega) m 0 _)
  exact rq_lo_up rq_lo_rf (by omega)
theorem rq_l6_city (hc : cc = 2 ∨ cc = 10) (h : mj_RL cc m p R A B) (s u i n : Int32) : rq_lo B (s_X6_city s u i n B).2 := by
  have h0 : rq_lo B (mj_upI B 42 0 0) := rq_lo_up rq_lo_rf (by omega)
  have h1 : rq_lo B (mj_upI (mj_upI B 42 0 0) 42 11 (60 * s + i)) := rq_lo_up h0 (by omega)
  have h2 := rq_lo_tr h1 (rq_rcy_lo (60 * s + i + n) _)
  unfold s_X6_city
  generalize s_X6_readCity (60 * s + i + n) (mj_upI (mj_upI B 42 0 0) 42 11 (60 * s + i)) = g1 at h2 ⊢
  refine rq_lo_ite h0 (rq_lo_ite h0 (rq_lo_ite (rq_lo_ite h2 ?_) (rq_lo_up h0 (show 41 < 42 by omega))))
  exact rq_lo_tr h2 (rq_tc_lo _ _ _)
end L7
