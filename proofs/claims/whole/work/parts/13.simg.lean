/-! copies, Math, one instruction, several, a branch -/
section STEP7
variable {l : Launch} {b base : Nat} {D : va_G} {z : mj_K × (Int32 → Int32)} {M : mj_Md} {p : Program} {e : Env} {R : Room} {s : State} {m : MethodId} {args : Array Value} {below : List Frame} {meth : Method} {c : Code} {Qf : State → Prop} {pc pc' n : Nat} {L L' st st' : List Value} {σ σ' : mj_S} {φ : List Prop}
theorem mj_cl2 {z : Int32} (h : 0 ≤ z.toInt) : z.toInt = (z.toNatClampNeg : Int) := by
  have h1 : z.toNatClampNeg = z.toInt.toNat := rfl
  omega
theorem mj_nneg {z : Int32} (h : 0 ≤ z.toInt) : ¬ z < 0 := by
  rw [Int32.lt_iff_toInt_lt, Int32.toInt_zero]
  omega
theorem mj_cpy_ok {I : mj_I} {a d na nd : Nat} {sp dp k : Int32} (h1 : 0 ≤ sp.toInt) (h2 : 0 ≤ dp.toInt) (h3 : 0 ≤ k.toInt) (h4 : sp.toInt + k.toInt ≤ (na : Int)) (h5 : dp.toInt + k.toInt ≤ (nd : Int)) (h6 : (na : Int) < 2147483648) (h7 : (nd : Int) < 2147483648) :
    va_cpy (fun j => if j < na then I a (nI j) else 0) (fun j => if j < nd then I d (nI j) else 0) sp.toNatClampNeg dp.toNatClampNeg k.toNatClampNeg = fun j => if j < nd then mj_cpy I a d sp dp k d (nI j) else 0 := by
  have e1 := mj_cl2 h1
  have e2 := mj_cl2 h2
  have e3 := mj_cl2 h3
  funext j
  unfold va_cpy mj_cpy
  rw [mj_rwI_eq]
  dsimp only
  by_cases hj : dp.toNatClampNeg ≤ j ∧ j < dp.toNatClampNeg + k.toNatClampNeg
  · have hjn : j < nd := by omega
    have hji : (nI j).toInt = (j : Int) := nI_toInt (by omega)
    rw [if_pos hj, if_pos (by omega), if_pos hjn, if_pos ⟨by omega, by omega⟩]
    congr 1
    rw [Nat.add_comm, ← nI_add, ← pk_sub hj.1, mj_clamp h1, mj_clamp h2]
  · rw [if_neg hj]
    by_cases hjn : j < nd
    · have hji : (nI j).toInt = (j : Int) := nI_toInt (by omega)
      rw [if_pos hjn, if_pos hjn, if_neg (by omega)]
    · rw [if_neg hjn, if_neg hjn]
theorem mj_pq_ok {cn i : Nat} {k : Nat} {mid : Nat} (h : mj_pq cn i = k) (hk : (k = 1 ∧ mid = 158) ∨ (k = 2 ∧ mid = 159) ∨ (k = 3 ∧ mid = 160)) : Cond.methodLink (mj_R cn) i (mj_M mid).2.1 ∈ mj_ALL := by
  unfold mj_pq at h
  split at h
  · next mi kk hm =>
    have h1 := (mj_all_and cn i).2.1
    unfold mj_pmc at h1
    rw [hm] at h1
    simp only [Bool.and_eq_true, Nat.blt_eq] at h1
    have h2 := h1.1.2
    rcases hw : mj_pmw cn i with ⟨pl, _ | host⟩
    · rw [hw] at h2 h
      simp only [Bool.and_eq_true] at h2
      have h3 := mj_w_in h2.2
      simp only [Option.isNone_none, cond_true] at h
      have hmid : mi = mid := by
        rcases hk with ⟨rfl, rfl⟩ | ⟨rfl, rfl⟩ | ⟨rfl, rfl⟩ <;> (cases q1 : Nat.beq mi 158 <;> cases q2 : Nat.beq mi 159 <;> cases q3 : Nat.beq mi 160 <;> simp only [q1, q2, q3, cond_true, cond_false] at h <;> first | exact Nat.eq_of_beq_eq_true q1 | exact Nat.eq_of_beq_eq_true q2 | exact Nat.eq_of_beq_eq_true q3 | exact absurd h (by decide))
      rw [← hmid]
      exact h3
    · rw [hw] at h
      simp only [Option.isNone_some, cond_false] at h
      rcases hk with ⟨rfl, rfl⟩ | ⟨rfl, rfl⟩ | ⟨rfl, rfl⟩ <;> exact absurd h (by decide)
  · rcases hk with ⟨rfl, rfl⟩ | ⟨rfl, rfl⟩ | ⟨rfl, rfl⟩ <;> exact absurd h (by decide)
theorem mj_cs_cons (v : Value) (st : List Value) : mj_cs (v :: st) = v.category + mj_cs st := by
  unfold mj_cs
  rw [List.map_cons, List.sum_cons]
theorem mj_copy {cc : ByteArray} {ls : Array Slot} {rest : List Value} {H H0 : Heap} {locs : List Loc} {cells slots : Nat} {cl : List vw_C} {tys : List (ClassId × FieldType)} {ws : va_W} {A : Nat → Prop} {a : Nat} (hexec : p.tables.exec = Jvm.exec) (hb : c.code = cc) (hml : c.maxLocals = ls.size) {own : String} {index : Nat} (hown : s.vm.findClass own = some m.cls) (hlink : (Cond.methodLink own index arraycopyName).before args s = true) (hnat : (Cond.native arraycopyName).before args s = true) (hstat : (Cond.static arraycopyName).before args s = true) (hini : (Cond.initialized "java/lang/System").before args s = true)
    (hK : va_K D cl tys s) (hP : va_P D cl ws H) (hD : va_D A ws) (hS : va_S A H0 H locs) (q0 q1 t0 t1 : Nat) {a0 : Nat} {c0 c1 : ClassId} {n0 n1 : Nat} {f g : Nat → Int32} {ty : FieldType} (ha0 : ws[q0]? = some (a0, .inl (c0, n0, .inl f))) (ha1 : ws[q1]? = some (a, .inl (c1, n1, .inl g))) (ht0 : tys[t0]? = some (c0, ty)) (ht1 : tys[t1]? = some (c1, ty)) (hprim : refKind ty = false)
    {sp dp x : Int32} (h1 : ¬ sp < 0) (h2 : ¬ dp < 0) (h3 : ¬ x < 0) (i1 : sp.toInt + x.toInt ≤ (n0 : Int)) (i2 : dp.toInt + x.toInt ≤ (n1 : Int)) (h4 : sp.toNatClampNeg + x.toNatClampNeg ≤ n0) (hfit : ∀ y : Int32, fits ty (.int y) = true)
    (hframes : 1 ≤ R.frames) (hlocals : (rest.map fun v => v.category).sum + (nativeFrameWords "java/lang/System" "arraycopy" 5 + 11) ≤ R.locals) (hdg : decode cc pc = .ok (.invokestatic index, 3))
    (kk : ∀ (H1 : Heap) (locs1 : List Loc), H1.size = H.size → va_P D cl (ws.set q1 (a, .inl (c1, n1, .inl (va_cpy f g sp.toNatClampNeg dp.toNatClampNeg x.toNatClampNeg)))) H1 → va_S A H0 H1 locs1 → W p l e R s m args below meth c H1 locs1 cells slots Qf (F0 m (pc + 3) ls rest)) : W p l e R s m args below meth c H locs cells slots Qf (F0 m pc ls (.int x :: .int dp :: .ref a :: .int sp :: .ref a0 :: rest)) := by
  intro T hT X
  have ec0 : T.heap[a0]? = some (vp_cell c0 (n0, .inl f)) := by rw [hT]; exact hP q0 _ ha0
  have ec1 : T.heap[a]? = some (vp_cell c1 (n1, .inl g)) := by rw [hT]; exact hP q1 _ ha1
  have s0 : (vp_cell c0 (n0, .inl f)).slots.size = n0 := arrV_size _ _ _
  have s1 : (vp_cell c1 (n1, .inl g)).slots.size = n1 := arrV_size _ _ _
  obtain ⟨-, k0, hk0, m0, hkk0⟩ := (hK.2 t0 _ ht0).1 n0 (fun j => .int (f j))
  obtain ⟨-, k1, hk1, m1, hkk1⟩ := (hK.2 t1 _ ht1).1 n1 (fun j => .int (g j))
  have hval : ∀ i, i < x.toNatClampNeg → (vp_cell c0 (n0, .inl f)).slots.getD (sp.toNatClampNeg + i) .null = .int (f (sp.toNatClampNeg + i)) := by
    intro i hi
    have hl : sp.toNatClampNeg + i < n0 := by omega
    have hr : (vp_cell c0 (n0, .inl f)).slots[sp.toNatClampNeg + i]? = some (.int (f (sp.toNatClampNeg + i))) := arrV_read _ _ hl
    rw [Array.getD_eq_getD_getElem?, hr]
    rfl
  obtain ⟨vm', X', step⟩ := X.arraycopy hexec hown hlink hnat hstat hini ec0 ec1 (fun _ h => by cases h) (fun _ h => by cases h) (fun h => by cases h) (fun h => by cases h) hk0 hk1 hkk0 hkk1 (by simp [hprim]) h1 h2 h3 (by rw [s0]; omega) (by rw [s1]; omega)
    (fun vm₁ _ i hi => by
      rw [hval i hi]
      exact ⟨hfit _, trivial⟩)
    (g := F0 m pc ls (.int x :: .int dp :: .ref a :: .int sp :: .ref a0 :: rest)) rfl hml.symm (rest := rest) rfl (by rw [hb]; exact hdg) hframes (by show 2 * 0 + _ + _ ≤ _; omega)
  have ecopy : copied (vp_cell c0 (n0, .inl f)) (vp_cell c1 (n1, .inl g)) sp dp x = vp_cell c1 (n1, .inl (va_cpy f g sp.toNatClampNeg dp.toNatClampNeg x.toNatClampNeg)) := va_copied (fun z => .int z) c0 c1 f g h4
  rw [ecopy] at X' step
  generalize hnew : vp_cell c1 (n1, .inl (va_cpy f g sp.toNatClampNeg dp.toNatClampNeg x.toNatClampNeg)) = nc at X' step
  have hlt : a < H.size := (Array.getElem?_eq_some_iff.mp (hP q1 _ ha1)).1
  have hh : ((T.setVm vm').setCell a nc).heap = H.setIfInBounds a nc := by rw [← hT]; rfl
  have hsz : (H.setIfInBounds a nc).size = H.size := Array.size_setIfInBounds
  have hat : (H.setIfInBounds a nc)[a]? = some nc := by simp [Array.getElem?_setIfInBounds, hlt]
  have hne : ∀ q : Nat, q ≠ a → (H.setIfInBounds a nc)[q]? = H[q]? := fun q hq => by simp [Array.getElem?_setIfInBounds, Ne.symm hq]
  have hP2 := hP.set (e := .inl (c1, n1, .inl (va_cpy f g sp.toNatClampNeg dp.toNatClampNeg x.toNatClampNeg))) hD ha1 (H1 := H.setIfInBounds a nc) (by show (H.setIfInBounds a nc)[a]? = some (vp_cell _ _); rw [hat, ← hnew]) hne
  have hAa : A a := hD.2 q1 _ ha1
  refine Exists.elim (kk (H.setIfInBounds a nc) _ hsz hP2 ⟨by rw [hsz]; exact hS.1, fun q g1 g2 => ?_, fun q hq => ?_⟩ _ hh X') fun t ht => ⟨t, step t ht.1, ht.2⟩
  · rw [hne q (fun ee => g2 (by rw [ee]; exact hAa))]
    exact hS.2.1 q g1 g2
  · rcases List.mem_append.mp hq with h | h
    · exact hS.2.2 q h
    · obtain ⟨z, -, hz⟩ := List.mem_map.mp h
      rw [← hz]
      exact hAa
theorem mj_s_sta {idx : Nat} (A : mj_At b base D z M p R s m args meth c) (hd : decode M.2.2.1 pc = .ok (.invokestatic idx, n)) (h : mj_sta M n idx pc L st σ = some (φ, pc', L', st', σ')) (ho : mj_al φ) (k : mj_Go l b base D z M p e R s m args below meth c Qf pc' L' st' σ') : mj_Go l b base D z M p e R s m args below meth c Qf pc L st σ := by
  obtain ⟨hx, hb, hml, hr, hown, hts, hlk, hin, hfr, hlo, hK, hN, hAO, hbb, hbs, hdec, hsc⟩ := A
  unfold mj_sta at h
  have h0 := (mj_if h).1
  replace h := (mj_if h).2
  simp only [Bool.and_eq_true] at h0
  have w1 := Nat.le_of_ble_eq_true h0.1
  have w2 := Nat.le_of_ble_eq_true h0.2
  cases hpa : mj_pa M.1 idx with
  | true =>
    rw [hpa, cond_true] at h
    unfold mj_cpx at h
    split at h
    · next x dp d sp a rest =>
      split at h
      · next na nd hka hkd =>
        obtain ⟨h1, h2⟩ := mj_if h
        obtain ⟨rfl, h4⟩ := mj_g_spec h2
        cases h4
        simp only [Bool.and_eq_true] at h1
        obtain ⟨qa, rfl, hqa⟩ := mj_hs_spec h1.1
        obtain ⟨qd, rfl, hqd⟩ := mj_hs_spec h1.2
        obtain ⟨o1, o2, o3, o4, o5, o6, o7⟩ := ho.1
        intro H locs ls ca c1 c2 b1 b2 hW hL
        obtain ⟨hz, hP, hKA, hS, hX⟩ := hW
        have hea := mj_wl_get (b := b) (base := base) (ca := ca) hqa
        rw [mj_ce_A hka] at hea
        have hed := mj_wl_get (b := b) (base := base) (ca := ca) hqd
        rw [mj_ce_A hkd] at hed
        have hK2 : va_K D vwCl [(ca (qa + 1), .int), (ca (qd + 1), .int)] s := by
          refine ⟨hK.1, fun k q h => ?_⟩
          match k, h with
          | 0, h => cases h; exact hKA qa 0 na hqa hka
          | 1, h => cases h; exact hKA qd 0 nd hqd hkd
          | k + 2, h => simp at h
        have hwl : (mj_wl b base ca σ).set qd (mj_ad b base (qd + 1), .inl (ca (qd + 1), nd, .inl (va_cpy (fun j => if j < na then σ.2.1 (qa + 1) (nI j) else 0) (fun j => if j < nd then σ.2.1 (qd + 1) (nI j) else 0) sp.toNatClampNeg dp.toNatClampNeg x.toNatClampNeg))) = mj_wl b base ca (σ.1, mj_cpy σ.2.1 (qa + 1) (qd + 1) sp dp x, σ.2.2) := by
          rw [← mj_wl_set (σ' := (σ.1, mj_cpy σ.2.1 (qa + 1) (qd + 1) sp dp x, σ.2.2)) hqd rfl (fun j hj => mj_ce_congr rfl (mj_rwI_ne hj) rfl rfl)]
          rw [mj_ce_A (K := σ.1.2.1) (k := qd + 1) hkd, mj_cpy_ok o1 o2 o3 o4 o5 o6 o7]
        have e1 := mj_cl2 o1
        have e2 := mj_cl2 o2
        have e3 := mj_cl2 o3
        simp only [mj_cs_cons] at w2
        have g0 : ∀ (H1 : Heap) (locs1 : List Loc), H1.size = H.size → va_P D vwCl ((mj_wl b base ca σ).set qd (mj_ad b base (qd + 1), .inl (ca (qd + 1), nd, .inl (va_cpy (fun j => if j < na then σ.2.1 (qa + 1) (nI j) else 0) (fun j => if j < nd then σ.2.1 (qd + 1) (nI j) else 0) sp.toNatClampNeg dp.toNatClampNeg x.toNatClampNeg)))) H1 → va_S (mj_A base) s.heap H1 locs1 → W p l e R s m args below meth c H1 locs1 σ.1.2.2.1.1 σ.1.2.2.1.2 Qf (F0 m (pc + 3) ls (st'.map (mj_cv b base))) := by
          intro H1 locs1 zz hP1 hS1
          rw [hwl] at hP1
          refine k H1 locs1 ls ca c1 c2 b1 b2 ⟨by rw [zz, hz], hP1, hKA, hS1, hX.1, ?_⟩ hL
          show mj_cpy σ.2.1 (qa + 1) (qd + 1) sp dp x 0 = z.2
          unfold mj_cpy
          rw [mj_rwI_ne (by omega)]
          exact hX.2
        refine mj_copy hx hb (hml.trans hL.1.1.symm) hown (hts _ (mj_pa_ok hpa)) (hts _ (mj_w_in mj_f_cpyn)) (hts _ (mj_w_in mj_f_cpys)) (hts _ (mj_w_in mj_f_cpyi)) (cl := vwCl) hK2 hP mj_wl_D hS qa qd 0 1 hea hed rfl rfl rfl (mj_nneg o1) (mj_nneg o2) (mj_nneg o3) o4 o5 (by omega) (fun _ => rfl) (by omega) (by
          rw [mj_cs_cv]
          show mj_cs st' + (7 + 11) ≤ R.locals
          omega) hd g0
      · cases h
    · cases h
  | false =>
    rw [hpa, cond_false] at h
    cases e1 : Nat.beq (mj_pq M.1 idx) 1 with
    | true =>
      rw [e1, cond_true] at h
      have hk := mj_pq_ok (mid := 158) (Nat.eq_of_beq_eq_true e1) (Or.inl ⟨rfl, rfl⟩)
      unfold mj_mt1 at h
      split at h
      · next x rest =>
        have hg := mj_g_spec h
        obtain ⟨rfl, h4⟩ := hg
        cases h4
        simp only [mj_cs_cons] at w2
        intro H locs ls ca c1 c2 b1 b2 hW hL
        exact va_mabs hx hb (hml.trans hL.1.1.symm) hown (hts _ hk) (hts _ (mj_w_in mj_f_abss)) (hts _ (mj_w_in mj_f_mathi)) (hts _ (mj_w_in mj_f_absc)) (by omega) (by rw [mj_cs_cv]; omega) (by omega) (by omega) hd (k H locs ls ca c1 c2 b1 b2 hW hL)
      · cases h
    | false =>
    rw [e1, cond_false] at h
    cases e2 : Nat.beq (mj_pq M.1 idx) 2 with
    | true =>
      rw [e2, cond_true] at h
      have hk := mj_pq_ok (mid := 159) (Nat.eq_of_beq_eq_true e2) (Or.inr (Or.inl ⟨rfl, rfl⟩))
      unfold mj_mt2 at h
      split at h
      · next y x rest =>
        have hg := mj_g_spec h
        obtain ⟨rfl, h4⟩ := hg
        cases h4
        simp only [mj_cs_cons] at w2
        intro H locs ls ca c1 c2 b1 b2 hW hL
        exact va_mmax hx hb (hml.trans hL.1.1.symm) hown (hts _ hk) (hts _ (mj_w_in mj_f_maxs)) (hts _ (mj_w_in mj_f_mathi)) (hts _ (mj_w_in mj_f_maxc)) (by omega) (by rw [mj_cs_cv]; omega) (by omega) (by omega) hd (k H locs ls ca c1 c2 b1 b2 hW hL)
      · cases h
    | false =>
    rw [e2, cond_false] at h
    cases e3 : Nat.beq (mj_pq M.1 idx) 3 with
    | true =>
      rw [e3, cond_true] at h
      have hk := mj_pq_ok (mid := 160) (Nat.eq_of_beq_eq_true e3) (Or.inr (Or.inr ⟨rfl, rfl⟩))
      unfold mj_mt2 at h
      split at h
      · next y x rest =>
        have hg := mj_g_spec h
        obtain ⟨rfl, h4⟩ := hg
        cases h4
        simp only [mj_cs_cons] at w2
        intro H locs ls ca c1 c2 b1 b2 hW hL
        exact va_mmin hx hb (hml.trans hL.1.1.symm) hown (hts _ hk) (hts _ (mj_w_in mj_f_mins)) (hts _ (mj_w_in mj_f_mathi)) (hts _ (mj_w_in mj_f_minc)) (by omega) (by rw [mj_cs_cv]; omega) (by omega) (by omega) hd (k H locs ls ca c1 c2 b1 b2 hW hL)
      · cases h
    | false =>
    rw [e3, cond_false] at h
    cases h
end STEP7
