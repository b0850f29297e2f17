/-! what is still wanting -/
theorem rq_v_city {cc dd r m p R : Nat} {A B : mj_I} (hcc : (cc = 2 ∧ dd = 10) ∨ (cc = 10 ∧ dd = 2)) (h : mj_RL cc m p R A B) (s u i n : Int32) : (s_X5_city cc dd r s u i n A).1 = (s_X6_city s u i n B).1 ∧ (((s_X5_city cc dd r s u i n A).2.2.1 = 2 ∧ (s_X5_city cc dd r s u i n A).2.2.2.1 = 10) ∨ ((s_X5_city cc dd r s u i n A).2.2.1 = 10 ∧ (s_X5_city cc dd r s u i n A).2.2.2.1 = 2)) ∧ ∃ m' p' R', mj_RL (s_X5_city cc dd r s u i n A).2.2.1 m' p' R' (s_X5_city cc dd r s u i n A).2.1 (s_X6_city s u i n B).2 := sorry
theorem rq_h5_city {cc dd r m p R : Nat} {A B : mj_I} (hcc : (cc = 2 ∧ dd = 10) ∨ (cc = 10 ∧ dd = 2)) (h : mj_RL cc m p R A B) (s u i n : Int32) : rq_hi A (s_X5_city cc dd r s u i n A).2.1 := sorry
theorem rq_l6_city {cc m p R : Nat} {A B : mj_I} (hc : cc = 2 ∨ cc = 10) (h : mj_RL cc m p R A B) (s u i n : Int32) : rq_lo B (s_X6_city  s u i n B).2 := sorry
theorem rq_v_ofStreet {cc m p R : Nat} {A B : mj_I} (hc : cc = 2 ∨ cc = 10) (h : mj_RL cc m p R A B) (s w : Int32) : rq_V cc ((s_X5_ofStreet cc  s w A, A) : Int32 × mj_I) ((s_X6_ofStreet  s w B, B) : Int32 × mj_I) := sorry
theorem rq_v_ofPlant {cc m p R : Nat} {A B : mj_I} (hc : cc = 2 ∨ cc = 10) (h : mj_RL cc m p R A B) (q w : Int32) : rq_V cc ((s_X5_ofPlant cc  q w A, A) : Int32 × mj_I) ((s_X6_ofPlant  q w B, B) : Int32 × mj_I) := sorry
theorem rq_v_let {cc m p R : Nat} {A B : mj_I} (hc : cc = 2 ∨ cc = 10) (h : mj_RL cc m p R A B) (s v : Int32) : rq_V cc (s_X5_let cc  s v A) (s_X6_let  s v B) := sorry
theorem rq_h5_let {cc m p R : Nat} {A B : mj_I} (hc : cc = 2 ∨ cc = 10) (h : mj_RL cc m p R A B) (s v : Int32) : rq_hi A (s_X5_let cc  s v A).2 := sorry
theorem rq_l6_let {cc m p R : Nat} {A B : mj_I} (hc : cc = 2 ∨ cc = 10) (h : mj_RL cc m p R A B) (s v : Int32) : rq_lo B (s_X6_let  s v B).2 := sorry
theorem rq_v_corner {cc m p R : Nat} {A B : mj_I} (hc : cc = 2 ∨ cc = 10) (h : mj_RL cc m p R A B) (x y v : Int32) (hv : v = 0 ∨ v = 1) : rq_V cc (s_X5_corner cc  x y v A) (s_X6_corner  x y v B) := sorry
theorem rq_h5_corner {cc m p R : Nat} {A B : mj_I} (hc : cc = 2 ∨ cc = 10) (h : mj_RL cc m p R A B) (x y v : Int32) : rq_hi A (s_X5_corner cc  x y v A).2 := sorry
theorem rq_l6_corner {cc m p R : Nat} {A B : mj_I} (hc : cc = 2 ∨ cc = 10) (h : mj_RL cc m p R A B) (x y v : Int32) : rq_lo B (s_X6_corner  x y v B).2 := sorry
theorem rq_v_route {cc m p R : Nat} {A B : mj_I} (hc : cc = 2 ∨ cc = 10) (h : mj_RL cc m p R A B) (s a i n w : Int32) : rq_V cc (s_X5_route cc p s a i n w  A) (s_X6_route p s a i n w B) := sorry
theorem rq_h5_route {cc m p R : Nat} {A B : mj_I} (hc : cc = 2 ∨ cc = 10) (h : mj_RL cc m p R A B) (s a i n w : Int32) : rq_hi A (s_X5_route cc p s a i n w  A).2 := sorry
theorem rq_l6_route {cc m p R : Nat} {A B : mj_I} (hc : cc = 2 ∨ cc = 10) (h : mj_RL cc m p R A B) (s a i n w : Int32) : rq_lo B (s_X6_route p s a i n w B).2 := sorry
theorem rq_v_quickest {cc m p R : Nat} {A B : mj_I} (hc : cc = 2 ∨ cc = 10) (h : mj_RL cc m p R A B) (s e k : Int32) : rq_V cc (s_X5_quickest cc m s e k  A) (s_X6_quickest m s e k B) := sorry
theorem rq_h5_quickest {cc m p R : Nat} {A B : mj_I} (hc : cc = 2 ∨ cc = 10) (h : mj_RL cc m p R A B) (s e k : Int32) : rq_hi A (s_X5_quickest cc m s e k  A).2 := sorry
theorem rq_l6_quickest {cc m p R : Nat} {A B : mj_I} (hc : cc = 2 ∨ cc = 10) (h : mj_RL cc m p R A B) (s e k : Int32) : rq_lo B (s_X6_quickest m s e k B).2 := sorry
theorem rq_v_mild {cc m p R : Nat} {A B : mj_I} (hc : cc = 2 ∨ cc = 10) (h : mj_RL cc m p R A B) (a e : Int32) : rq_V cc (s_X5_mild cc m a e  A) (s_X6_mild m a e B) := sorry
theorem rq_h5_mild {cc m p R : Nat} {A B : mj_I} (hc : cc = 2 ∨ cc = 10) (h : mj_RL cc m p R A B) (a e : Int32) : rq_hi A (s_X5_mild cc m a e  A).2 := sorry
theorem rq_l6_mild {cc m p R : Nat} {A B : mj_I} (hc : cc = 2 ∨ cc = 10) (h : mj_RL cc m p R A B) (a e : Int32) : rq_lo B (s_X6_mild m a e B).2 := sorry
theorem rq_v_best {cc m p R : Nat} {A B : mj_I} (hc : cc = 2 ∨ cc = 10) (h : mj_RL cc m p R A B) : rq_V cc (s_X5_best cc m   A) (s_X6_best m  B) := sorry
theorem rq_h5_best {cc m p R : Nat} {A B : mj_I} (hc : cc = 2 ∨ cc = 10) (h : mj_RL cc m p R A B) : rq_hi A (s_X5_best cc m   A).2 := sorry
theorem rq_l6_best {cc m p R : Nat} {A B : mj_I} (hc : cc = 2 ∨ cc = 10) (h : mj_RL cc m p R A B) : rq_lo B (s_X6_best m  B).2 := sorry
theorem rq_v_reading {cc m p R : Nat} {A B : mj_I} (hc : cc = 2 ∨ cc = 10) (h : mj_RL cc m p R A B) (q e : Int32) : rq_V cc (s_X5_reading cc  q e A) (s_X6_reading  q e B) := sorry
theorem rq_h5_reading {cc m p R : Nat} {A B : mj_I} (hc : cc = 2 ∨ cc = 10) (h : mj_RL cc m p R A B) (q e : Int32) : rq_hi A (s_X5_reading cc  q e A).2 := sorry
theorem rq_l6_reading {cc m p R : Nat} {A B : mj_I} (hc : cc = 2 ∨ cc = 10) (h : mj_RL cc m p R A B) (q e : Int32) : rq_lo B (s_X6_reading  q e B).2 := sorry
theorem rq_v_back {cc m p R : Nat} {A B : mj_I} (hc : cc = 2 ∨ cc = 10) (h : mj_RL cc m p R A B) (k : Int32) : rq_V cc (s_X5_back k A) (s_X6_back  k B) := sorry
theorem rq_h5_back {cc m p R : Nat} {A B : mj_I} (hc : cc = 2 ∨ cc = 10) (h : mj_RL cc m p R A B) (k : Int32) : rq_hi A (s_X5_back k A).2 := sorry
theorem rq_l6_back {cc m p R : Nat} {A B : mj_I} (hc : cc = 2 ∨ cc = 10) (h : mj_RL cc m p R A B) (k : Int32) : rq_lo B (s_X6_back  k B).2 := sorry
theorem rq_v_seasons {cc m p R : Nat} {A B : mj_I} (hc : cc = 2 ∨ cc = 10) (h : mj_RL cc m p R A B) (q s a i n : Int32) : rq_V cc (s_X5_seasons cc p R q s a i n  A) (s_X6_seasons p R q s a i n B) := sorry
theorem rq_h5_seasons {cc m p R : Nat} {A B : mj_I} (hc : cc = 2 ∨ cc = 10) (h : mj_RL cc m p R A B) (q s a i n : Int32) : rq_hi A (s_X5_seasons cc p R q s a i n  A).2 := sorry
theorem rq_l6_seasons {cc m p R : Nat} {A B : mj_I} (hc : cc = 2 ∨ cc = 10) (h : mj_RL cc m p R A B) (q s a i n : Int32) : rq_lo B (s_X6_seasons p R q s a i n B).2 := sorry
theorem rq_v_kinds {cc m p R : Nat} {A B : mj_I} (hc : cc = 2 ∨ cc = 10) (h : mj_RL cc m p R A B) (q s a i n : Int32) : rq_V cc (s_X5_kinds cc p R q s a i n  A) (s_X6_kinds p R q s a i n B) := sorry
theorem rq_h5_kinds {cc m p R : Nat} {A B : mj_I} (hc : cc = 2 ∨ cc = 10) (h : mj_RL cc m p R A B) (q s a i n : Int32) : rq_hi A (s_X5_kinds cc p R q s a i n  A).2 := sorry
theorem rq_l6_kinds {cc m p R : Nat} {A B : mj_I} (hc : cc = 2 ∨ cc = 10) (h : mj_RL cc m p R A B) (q s a i n : Int32) : rq_lo B (s_X6_kinds p R q s a i n B).2 := sorry
theorem rq_v_wishes {cc m p R : Nat} {A B : mj_I} (hc : cc = 2 ∨ cc = 10) (h : mj_RL cc m p R A B) (q t s a i n : Int32) : rq_V cc (s_X5_wishes cc p R q t s a i n  A) (s_X6_wishes p R q t s a i n B) := sorry
theorem rq_h5_wishes {cc m p R : Nat} {A B : mj_I} (hc : cc = 2 ∨ cc = 10) (h : mj_RL cc m p R A B) (q t s a i n : Int32) : rq_hi A (s_X5_wishes cc p R q t s a i n  A).2 := sorry
theorem rq_l6_wishes {cc m p R : Nat} {A B : mj_I} (hc : cc = 2 ∨ cc = 10) (h : mj_RL cc m p R A B) (q t s a i n : Int32) : rq_lo B (s_X6_wishes p R q t s a i n B).2 := sorry
theorem rq_v_odds {cc m p R : Nat} {A B : mj_I} (hc : cc = 2 ∨ cc = 10) (h : mj_RL cc m p R A B) (q a n w : Int32) : rq_V cc (s_X5_odds cc m q a n w  A) (s_X6_odds m 100000 q a n w B) := sorry
theorem rq_h5_odds {cc m p R : Nat} {A B : mj_I} (hc : cc = 2 ∨ cc = 10) (h : mj_RL cc m p R A B) (q a n w : Int32) : rq_hi A (s_X5_odds cc m q a n w  A).2 := sorry
theorem rq_l6_odds {cc m p R : Nat} {A B : mj_I} (hc : cc = 2 ∨ cc = 10) (h : mj_RL cc m p R A B) (q a n w : Int32) : rq_lo B (s_X6_odds m 100000 q a n w B).2 := sorry
theorem rq_v_sheet {cc m p R : Nat} {A B : mj_I} (hc : cc = 2 ∨ cc = 10) (h : mj_RL cc m p R A B) (k a n : Int32) : rq_V cc (s_X5_sheet k a n A) (s_X6_sheet  k a n B) := sorry
theorem rq_h5_sheet {cc m p R : Nat} {A B : mj_I} (hc : cc = 2 ∨ cc = 10) (h : mj_RL cc m p R A B) (k a n : Int32) : rq_hi A (s_X5_sheet k a n A).2 := sorry
theorem rq_l6_sheet {cc m p R : Nat} {A B : mj_I} (hc : cc = 2 ∨ cc = 10) (h : mj_RL cc m p R A B) (k a n : Int32) : rq_lo B (s_X6_sheet  k a n B).2 := sorry
theorem rq_v_lose {cc m p R : Nat} {A B : mj_I} (hc : cc = 2 ∨ cc = 10) (h : mj_RL cc m p R A B) (k : Int32) : rq_V cc (s_X5_lose k A) (s_X6_lose  k B) := sorry
theorem rq_h5_lose {cc m p R : Nat} {A B : mj_I} (hc : cc = 2 ∨ cc = 10) (h : mj_RL cc m p R A B) (k : Int32) : rq_hi A (s_X5_lose k A).2 := sorry
theorem rq_l6_lose {cc m p R : Nat} {A B : mj_I} (hc : cc = 2 ∨ cc = 10) (h : mj_RL cc m p R A B) (k : Int32) : rq_lo B (s_X6_lose  k B).2 := sorry
theorem rq_v_put {cc m p R : Nat} {A B : mj_I} (hc : cc = 2 ∨ cc = 10) (h : mj_RL cc m p R A B) (k i v : Int32) : rq_V cc (s_X5_put k i v A) (s_X6_put  k i v B) := sorry
theorem rq_h5_put {cc m p R : Nat} {A B : mj_I} (hc : cc = 2 ∨ cc = 10) (h : mj_RL cc m p R A B) (k i v : Int32) : rq_hi A (s_X5_put k i v A).2 := sorry
theorem rq_l6_put {cc m p R : Nat} {A B : mj_I} (hc : cc = 2 ∨ cc = 10) (h : mj_RL cc m p R A B) (k i v : Int32) : rq_lo B (s_X6_put  k i v B).2 := sorry
theorem rq_v_cell {cc m p R : Nat} {A B : mj_I} (hc : cc = 2 ∨ cc = 10) (h : mj_RL cc m p R A B) (s i a : Int32) : rq_V cc (s_X5_cell s i a A) (s_X6_cell  s i a B) := sorry
theorem rq_h5_cell {cc m p R : Nat} {A B : mj_I} (hc : cc = 2 ∨ cc = 10) (h : mj_RL cc m p R A B) (s i a : Int32) : rq_hi A (s_X5_cell s i a A).2 := sorry
theorem rq_l6_cell {cc m p R : Nat} {A B : mj_I} (hc : cc = 2 ∨ cc = 10) (h : mj_RL cc m p R A B) (s i a : Int32) : rq_lo B (s_X6_cell  s i a B).2 := sorry
theorem rq_v_copy {cc m p R : Nat} {A B : mj_I} (hc : cc = 2 ∨ cc = 10) (h : mj_RL cc m p R A B) (s i v j n : Int32) : rq_V cc (s_X5_copy s i v j n A) (s_X6_copy  s i v j n B) := sorry
theorem rq_h5_copy {cc m p R : Nat} {A B : mj_I} (hc : cc = 2 ∨ cc = 10) (h : mj_RL cc m p R A B) (s i v j n : Int32) : rq_hi A (s_X5_copy s i v j n A).2 := sorry
theorem rq_l6_copy {cc m p R : Nat} {A B : mj_I} (hc : cc = 2 ∨ cc = 10) (h : mj_RL cc m p R A B) (s i v j n : Int32) : rq_lo B (s_X6_copy  s i v j n B).2 := sorry
theorem rq_v_tell {cc m p R : Nat} {A B : mj_I} (hc : cc = 2 ∨ cc = 10) (h : mj_RL cc m p R A B) (q : Int32) : rq_V cc (s_X5_tell cc  q A) (s_X6_tell  q B) := sorry
theorem rq_h5_tell {cc m p R : Nat} {A B : mj_I} (hc : cc = 2 ∨ cc = 10) (h : mj_RL cc m p R A B) (q : Int32) : rq_hi A (s_X5_tell cc  q A).2 := sorry
theorem rq_l6_tell {cc m p R : Nat} {A B : mj_I} (hc : cc = 2 ∨ cc = 10) (h : mj_RL cc m p R A B) (q : Int32) : rq_lo B (s_X6_tell  q B).2 := sorry
theorem rq_v_label {cc m p R : Nat} {A B : mj_I} (hc : cc = 2 ∨ cc = 10) (h : mj_RL cc m p R A B) (q : Int32) : rq_V cc (s_X5_label cc  q A) (s_X6_label  q B) := sorry
theorem rq_h5_label {cc m p R : Nat} {A B : mj_I} (hc : cc = 2 ∨ cc = 10) (h : mj_RL cc m p R A B) (q : Int32) : rq_hi A (s_X5_label cc  q A).2 := sorry
theorem rq_l6_label {cc m p R : Nat} {A B : mj_I} (hc : cc = 2 ∨ cc = 10) (h : mj_RL cc m p R A B) (q : Int32) : rq_lo B (s_X6_label  q B).2 := sorry
theorem rq_v_as {cc m p R : Nat} {A B : mj_I} (hc : cc = 2 ∨ cc = 10) (h : mj_RL cc m p R A B) (q k : Int32) : rq_V cc (s_X5_as cc  q k A) (s_X6_as  q k B) := sorry
theorem rq_h5_as {cc m p R : Nat} {A B : mj_I} (hc : cc = 2 ∨ cc = 10) (h : mj_RL cc m p R A B) (q k : Int32) : rq_hi A (s_X5_as cc  q k A).2 := sorry
theorem rq_l6_as {cc m p R : Nat} {A B : mj_I} (hc : cc = 2 ∨ cc = 10) (h : mj_RL cc m p R A B) (q k : Int32) : rq_lo B (s_X6_as  q k B).2 := sorry
theorem rq_v_trace {cc m p R : Nat} {A B : mj_I} (hc : cc = 2 ∨ cc = 10) (h : mj_RL cc m p R A B) : rq_V cc ((s_X5_trace  A, A) : Int32 × mj_I) ((s_X6_trace   B, B) : Int32 × mj_I) := sorry
theorem rq_v_fault {cc m p R : Nat} {A B : mj_I} (hc : cc = 2 ∨ cc = 10) (h : mj_RL cc m p R A B) : rq_V cc ((s_X5_fault  A, A) : Int32 × mj_I) ((s_X6_fault   B, B) : Int32 × mj_I) := sorry
theorem rq_v_many {cc m p R : Nat} {A B : mj_I} (hc : cc = 2 ∨ cc = 10) (h : mj_RL cc m p R A B) (w : Int32) : rq_V cc ((s_X5_many cc m w  A, A) : Int32 × mj_I) (s_X6_many m w B) := sorry
theorem rq_l6_many {cc m p R : Nat} {A B : mj_I} (hc : cc = 2 ∨ cc = 10) (h : mj_RL cc m p R A B) (w : Int32) : rq_lo B (s_X6_many m w B).2 := sorry
theorem rq_F {cc m p R : Nat} {A B : mj_I} (h : mj_RL cc m p R A B) : mj6_F m B := sorry
theorem rq_qQ {cc m p R : Nat} {A B : mj_I} (hc : cc = 2 ∨ cc = 10) (h : mj_RL cc m p R A B) (v s : Int32) : ¬ s_X6_isStreet s B = 0 → ¬ s_X6_within v 0 ((1 <<< (B 42 6 &&& 31)) - 1) B = 0 → mj6_Q1 m (s_X6_findToGo m B) (mj6_FO v s (s_X6_findToGo m B)) := sorry
theorem rq_oO {cc m p R : Nat} {A B : mj_I} (hc : cc = 2 ∨ cc = 10) (h : mj_RL cc m p R A B) (q a n : Int32) {w : Int32} : ∀ v : Nat, n = nI v → 1 ≤ v → v ≤ 6 → mj_in q 3 → mj_in a 6 → mj6_HA (mj6_oM m q a v w B) 100000 := sorry
