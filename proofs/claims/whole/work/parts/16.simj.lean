/-! calls -/
def mj_fr (M : mj_Md) : Nat := M.2.2.2.2.2.1.1
def mj_lo (M : mj_Md) : Nat := M.2.2.2.2.2.1.2.1
def mj_bc (M : mj_Md) : Nat := M.2.2.2.2.2.1.2.2.1
def mj_bs (M : mj_Md) : Nat := M.2.2.2.2.2.1.2.2.2
def mj_cchk (M M' : mj_Md) (np kind : Nat) (As rest : List Value) (σ : mj_S) : Bool :=
  (Nat.ble (mj_fr M' + 1) (mj_fr M) && (Nat.ble (8 + (M'.2.2.2.1 + 11) + mj_lo M') (mj_lo M) && (Nat.ble (mj_cs rest) 8 && (Nat.ble (mj_e1 As).length M'.2.2.2.1 && (Nat.ble (σ.1.2.2.1.1 + mj_bc M') σ.1.2.2.2.1 && Nat.ble (σ.1.2.2.1.2 + mj_bs M') σ.1.2.2.2.2))))) &&
  (match kind, As with
    | 1, As => Nat.beq As.length np
    | 0, .ref a :: As => Nat.beq As.length np && (mj_isO σ a M'.1 && Nat.blt M'.1 7)
    | 3, .ref a :: As => Nat.beq As.length np && (mj_isO σ a M'.1 && Nat.blt M'.1 7)
    | 2, .ref _ :: As => Nat.beq As.length np
    | 5, .ref _ :: As => Nat.beq As.length np
    | _, _ => false)
def mj_ins (kind idx : Nat) : Instr := match kind with
  | 0 => .invokevirtual idx
  | 1 => .invokestatic idx
  | 3 => .invokevirtual idx
  | _ => .invokespecial idx
def mj_sub (σ : mj_S) (M' : mj_Md) : mj_S := ((σ.1.1, σ.1.2.1, (0, 0), (mj_bc M', mj_bs M')), σ.2)
def mj_back (σ σ1 : mj_S) (M' : mj_Md) : mj_S := ((σ1.1.1, σ1.1.2.1, (σ.1.2.2.1.1 + mj_bc M', σ.1.2.2.1.2 + mj_bs M'), σ.1.2.2.2), σ1.2)
def mj_Qc (b base : Nat) (D : va_G) (z : mj_K × (Int32 → Int32)) (Q : Option Value → mj_S → Prop) : Array Value → State → Outcome → State → Prop := fun _ st o t =>
  (∃ (r : Option Value) (σ1 : mj_S) (ca : Nat → ClassId), o = .returned (r.map (mj_cv b base)) ∧ Q r σ1 ∧ t.heap.size = base + σ1.1.1 ∧ va_P D vwCl (mj_wl b base ca σ1) t.heap ∧ mj_KA ca σ1 t ∧ σ1.1.2.1 0 = z.1 ∧ σ1.2.1 0 = z.2) ∧ va_F (mj_A base) st t
def mj_B (b base : Nat) (D : va_G) (z : mj_K × (Int32 → Int32)) (ca : Nat → ClassId) (σ : mj_S) : State → Prop := fun U =>
  U.heap.size = base + σ.1.1 ∧ va_P D vwCl (mj_wl b base ca σ) U.heap ∧ mj_KA ca σ U ∧ va_K D vwCl [] U ∧ (∀ w ∈ mj_NW, va_Nw w U) ∧ mj_AO U ∧ b < base ∧ (∀ n, z.1 = .inr (9, n) → va_X b n (fun j => z.2 (nI j)) U U.heap) ∧ σ.1.2.1 0 = z.1 ∧ σ.2.1 0 = z.2
theorem mj_AO2_moved {u U : State} (hvm : u.vm.Alike U.vm) (h : va_Nw (.arrayOver (.array .int)) u) : va_Nw (.arrayOver (.array .int)) U := by
  exact over_moved hvm h
theorem mj_NW_warm {s U : State} (hW : s.WarmedH U.vm) (h : ∀ w ∈ mj_NW, va_Nw w s) : ∀ w ∈ mj_NW, va_Nw w U := by
  intro w hw
  have h1 := h w hw
  have h2 := (List.mem_filter.mp hw).2
  cases w with
  | fieldLinkNest a i bb nn d hh => exact va_Nw.warmF hW h1
  | methodLinkNest a i x hh => exact va_Nw.warmM hW h1
  | _ => cases h2
theorem mj_NW_same {u U : State} (hvm : u.vm = U.vm) (h : ∀ w ∈ mj_NW, va_Nw w u) : ∀ w ∈ mj_NW, va_Nw w U := by
  intro w hw
  have h1 := h w hw
  have h2 := (List.mem_filter.mp hw).2
  cases w with
  | fieldLinkNest a i bb nn d hh => exact va_Nw.same rfl hvm h1
  | methodLinkNest a i x hh => exact va_Nw.same rfl hvm h1
  | _ => cases h2
theorem mj_KA_moved {ca : Nat → ClassId} {σ : mj_S} {u U : State} (hvm : u.vm.Alike U.vm) (h : mj_KA ca σ u) : mj_KA ca σ U := fun k t n hk hkk => ⟨arrOfT_moved hvm (h k t n hk hkk).1, (h k t n hk hkk).2.moved hvm⟩
theorem mj_B_blind {b base : Nat} {D : va_G} {z : mj_K × (Int32 → Int32)} {ca : Nat → ClassId} {σ : mj_S} {av : List Value} : FrameBlind (va_Pc av (mj_B b base D z ca σ)) := by
  intro a U g mk q
  obtain ⟨q0, q1, q2, q3, q4, q5, q6, q7, q8, q9, q10⟩ := q
  have hvm : U.vm.Alike (U.calling g mk a).vm := Vm.Alike.refl U.vm
  refine ⟨q0, q1, q2, mj_KA_moved hvm q3, va_K.moved hvm q4, mj_NW_same (u := U) (U := U.calling g mk a) rfl q5, ⟨q6.1.moved hvm, mj_AO2_moved hvm q6.2⟩, q7, fun n hn => ?_, q9, q10⟩
  exact (q8 n hn).moved hvm
/-- a method's words: its code, then all -/
def mj_ws (M : mj_Md) : List Cond := .code M.2.1 M.2.2.1 M.2.2.2.1 M.2.2.2.2.1 :: mj_ALL
theorem mj_mc_ok {mid : Nat} (h : mj_mc mid = true) : Cond.code (mj_M mid).2.1 (mj_M mid).2.2.1 (mj_M mid).2.2.2.1 (mj_M mid).2.2.2.2.1 ∈ mj_ALL ∧ Cond.initialized (mj_M mid).2.1.cls ∈ mj_ALL ∧ (mj_M mid).2.1.cls = mj_R (mj_M mid).1 ∧
    ((mj_M mid).2.1.cls ≠ "java/lang/invoke/MethodHandle" ∧ (mj_M mid).2.1.cls ≠ "java/lang/invoke/VarHandle" ∧ (parseMethodDescriptor (mj_M mid).2.1.desc).map (fun d => d.parameters.length) = some (mj_Mn mid)) ∧ plainName (mj_M mid).2.1.cls = true := by
  unfold mj_mc at h
  rcases e : mj_M mid with ⟨cn, y, bytes, maxL, ret, rm, sz, tb⟩
  rw [e] at h
  simp only [Bool.and_eq_true, decide_eq_true_eq] at h
  obtain ⟨h1, h2, ⟨h3, h4⟩, h5, h6⟩ := h
  exact ⟨mj_w_in h1, mj_w_in h2, h3, h4, h6⟩
theorem mj_goodIn {M : mj_Md} (h : Cond.code M.2.1 M.2.2.1 M.2.2.2.1 M.2.2.2.2.1 ∈ mj_ALL) : GoodIn mj_ALL (mj_ws M) := by
  intro w hw
  rcases List.mem_cons.mp hw with rfl | hw
  · exact ⟨h, mj_good_all _ h⟩
  · exact ⟨hw, mj_good_all _ hw⟩
def mj_rm (M : mj_Md) : Room := { frames := mj_fr M, cells := mj_bc M, slots := mj_bs M, locals := mj_lo M }
section MET
variable {l : Launch} {b base : Nat} {D : va_G} {z : mj_K × (Int32 → Int32)}
set_option maxHeartbeats 1000000 in
/-- a method's contract, out of what it does -/
theorem mj_met {mid : Nat} {As : List Value} {σ : mj_S} {Q : Option Value → mj_S → Prop} (ca : Nat → ClassId) (hmc : mj_mc mid = true) (hdec : mj_Dec (mj_M mid)) (hlen : (mj_e1 As).length ≤ (mj_M mid).2.2.2.1) (h0 : σ.1.2.2.1 = (0, 0)) (hbu : σ.1.2.2.2 = (mj_bc (mj_M mid), mj_bs (mj_M mid)))
    (hQ : ∀ r σ1, Q r σ1 → σ1.1.2.2.2 = (mj_bc (mj_M mid), mj_bs (mj_M mid)) ∧ σ1.1.2.2.1.1 ≤ mj_bc (mj_M mid) ∧ σ1.1.2.2.1.2 ≤ mj_bs (mj_M mid))
    (hc : mj_Rn l b base D z (mj_M mid) 0 (mj_ent As (mj_M mid).2.2.2.1) [] σ Q) :
    Met l (mj_M mid).2.1 (mj_ws (mj_M mid)) (mj_rm (mj_M mid)) (va_Pc (As.map (mj_cv b base)) (mj_B b base D z ca σ)) (mj_Qc b base D z Q) (mj_bc (mj_M mid)) (mj_bs (mj_M mid)) (mj_A base) := by
  obtain ⟨m1, m2, m3, m4, m5⟩ := mj_mc_ok hmc
  refine Met.ofW (cc := (mj_M mid).2.2.1) (maxL := (mj_M mid).2.2.2.1) (ret := (mj_M mid).2.2.2.2.1) m5 rfl ?_
  intro p e s m args below meth c s₁ B hml hv
  obtain ⟨rfl, q1, q2, q3, q4, q5, q6, q7, q8, q9, q10⟩ := hv
  have hts : ∀ w ∈ mj_ws (mj_M mid), w.before (As.map (mj_cv b base)).toArray s = true := atoms_spec (ws := mj_ws (mj_M mid)) B.pre
  have hown := findClass_of_methodNamed B.named
  have hin := (name_of_methodNamed B.named B.method).1
  have A : mj_At b base D z (mj_M mid) p (mj_rm (mj_M mid)) s m (As.map (mj_cv b base)).toArray meth c :=
    ⟨B.exec, B.bytes, hml, B.returns, by rw [← m3]; exact hown, fun w hw => hts w (List.mem_cons_of_mem _ hw), B.notSynchronized, fun h9 => hin.trans h9, Nat.le_refl _, Nat.le_refl _, q4, q5, q6, q7, by omega, hdec, q8⟩
  have hgo := hc p e (mj_rm (mj_M mid)) s m (As.map (mj_cv b base)).toArray below meth c (MQ below (mj_Qc b base D z Q) (As.map (mj_cv b base)).toArray s (mj_bc (mj_M mid)) (mj_bs (mj_M mid)) (mj_A base)) A ?_
  · rw [lg_entry_eq]
    have kk := hgo s.heap [] _ ca (by rw [h0]; exact Nat.zero_le _) (by rw [h0]; exact Nat.zero_le _) (by rw [hbu]; exact Nat.le_refl _) (by rw [hbu]; exact Nat.le_refl _) ⟨q1, q2, q3, va_S.rf, q9, q10⟩ (mj_ent_LR hlen)
    rw [h0] at kk
    exact kk
  · intro r σ1 pc1 L1 hq he H locs ls ca1 c1 c2 b1 b2 hW hL
    obtain ⟨hz, hP, hKA, hS, hX⟩ := hW
    obtain ⟨u1, u2, u3⟩ := hQ r σ1 hq
    refine W.widen (k := mj_bc (mj_M mid)) (n := mj_bs (mj_M mid)) u2 u3 ?_
    have hx := B.exec
    have hb := B.bytes
    have hlocks := B.notSynchronized
    have post : ∀ t : State, t.heap = H → s.WarmedH t.vm → mj_Qc b base D z Q (As.map (mj_cv b base)).toArray s (.returned (r.map (mj_cv b base))) t := by
      intro t ht hWm
      exact ⟨⟨r, σ1, ca1, rfl, hq, by rw [ht]; exact hz, by rw [ht]; exact hP, mj_KA_moved hWm.alike hKA, hX⟩, hS.F ht⟩
    have hret := B.returns
    cases r with
    | none =>
      obtain ⟨e1, e2⟩ := he
      exact W.vret hx hb (hret.trans e2) post hS.2.2 (hdec _ _ e1)
    | some v =>
      cases v with
      | int x =>
        obtain ⟨e1, e2 | ⟨e2, e3⟩⟩ := he
        · exact W.iret hx hb (hret.trans e2) post hS.2.2 (hdec _ _ e1)
        · exact W.zret (ty := .boolean) hx hb (hret.trans e2) (by rcases e3 with rfl | rfl <;> rfl) post hS.2.2 (hdec _ _ e1)
      | long x =>
        obtain ⟨e1, e2⟩ := he
        exact W.lret hx hb (hret.trans e2) post hS.2.2 (hdec _ _ e1)
      | _ => exact he.elim
end MET
section CALL
variable {l : Launch} {b base : Nat} {D : va_G} {z : mj_K × (Int32 → Int32)} {M : mj_Md} {p : Program} {e : Env} {R : Room} {s : State} {m : MethodId} {args : Array Value} {below : List Frame} {meth : Method} {c : Code} {Qf : State → Prop} {pc : Nat} {L st : List Value} {σ : mj_S}
theorem mj_goRun {H : Heap} {locs : List Loc} {cells slots mc ms : Nat} {ls : Array Slot} {st0 rest : List Value} {a : Array Value} {Q' : Option Value → mj_S → Prop}
    (hr : va_Run p l e R s m args below meth c H locs cells slots mc ms (F0 m pc ls st0) (rest.map (mj_cv b base)) (mj_Qc b base D z Q' a) (mj_A base)) (hS : va_S (mj_A base) s.heap H locs)
    (kk : ∀ (r : Option Value) (σ1 : mj_S) (ca1 : Nat → ClassId) (H1 : Heap) (locs1 : List Loc), Q' r σ1 → mj_Wd b base D z ca1 σ1 s H1 locs1 → W p l e R s m args below meth c H1 locs1 (cells + mc) (slots + ms) Qf (F0 m (pc + 3) ls ((r.toList ++ rest).map (mj_cv b base)))) : W p l e R s m args below meth c H locs cells slots Qf (F0 m pc ls st0) := by
  intro T hT X
  obtain ⟨v, st₀, t, T', L9, h0, X', hL9, e1, e2, ⟨⟨r, σ1, ca1, hv, hq, hz, hP, hKA, hzz⟩, hk1, hk2⟩, step⟩ := hr T hT X
  cases hv
  rw [h0] at hk1 hk2
  have hal : s.vm.Alike t.vm := by rw [← e2]; exact X'.warmed.alike
  have k2 := kk r σ1 ca1 T'.heap (locs ++ L9) hq ⟨by rw [e1]; exact hz, by rw [e1]; exact hP, mj_KA_moved hal.symm hKA, ⟨Nat.le_trans hS.1 (by rw [e1]; exact hk1), fun q h1 h2 => by rw [e1, hk2 q (Nat.lt_of_lt_of_le h1 hS.1) h2]; exact hS.2.1 q h1 h2, fun q hq9 => by
      rcases List.mem_append.mp hq9 with h | h
      · exact hS.2.2 q h
      · exact hL9 q h⟩, hzz⟩
  have e3 : (r.map (mj_cv b base)).toList ++ rest.map (mj_cv b base) = (r.toList ++ rest).map (mj_cv b base) := by
    rw [List.map_append]
    cases r <;> rfl
  rw [← e3] at k2
  obtain ⟨t2, a1, b1⟩ := k2 T' rfl X'
  exact ⟨t2, step t2 a1, b1⟩
end CALL
