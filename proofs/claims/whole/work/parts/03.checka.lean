def mj_w (pl : Nat) (w : Cond) : Bool := decide (lw_tbl[pl]? = some w) && goodWord w
def mj_wn (pl : Nat) (w : Cond) : Bool := decide (lw_tbl[pl]? = some w)
/-! the tables hold: every entry is a word of the statement's tables, every row decodes -/
def mj_fld (ci f : Nat) : String × String × String × Bool := mj_T ci f
def mj_pfc (cn i : Nat) : Bool := match mj_pf cn i with
  | none => true
  | some (ci, f) => Nat.blt ci 7 && (Nat.blt f (mj_nf ci) && (match mj_pfw cn i with
    | (pl, none) => mj_w (pl) (.fieldLink (mj_R cn) i (mj_R ci) (mj_T ci f).2.1 (mj_T ci f).2.2.1)
    | (pl, some host) => mj_wn pl (.fieldLinkNest (mj_R cn) i (mj_R ci) (mj_T ci f).2.1 (mj_T ci f).2.2.1 host)))
def mj_pmc (cn i : Nat) : Bool := match mj_pm cn i with
  | none => true
  | some (mid, k) => Nat.blt mid 162 && (match mj_pmw cn i with
    | (pl, none) => Nat.blt k 3 && mj_w (pl) (.methodLink (mj_R cn) i (mj_M mid).2.1)
    | (pl, some host) => Nat.ble 3 k && Nat.blt k 6 && mj_wn pl (.methodLinkNest (mj_R cn) i (mj_M mid).2.1 host)) &&
    (match k % 3 with
    | 0 => mj_w ((mj_Mw mid).2.2.1) (.instanceMethod (mj_M mid).2.1) && mj_w ((mj_Mw mid).2.2.2) (.selects (mj_M mid).2.1.cls (mj_M mid).2.1 (mj_M mid).2.1)
    | 1 => mj_w ((mj_Mw mid).2.2.1) (.static (mj_M mid).2.1)
    | _ => mj_w ((mj_Mw mid).2.2.1) (.instanceMethod (mj_M mid).2.1) && (decide ((mj_M mid).2.1.name = "<init>") && decide ((mj_M mid).2.2.2.2.1 = none)))
def mj_pnc (cn i : Nat) : Bool := match mj_pn cn i with
  | none => true
  | some ci => Nat.blt ci 7 && mj_w (mj_pnw cn i) (.classLink (mj_R cn) i (mj_R ci))
def mj_pkc (cn i : Nat) : Bool := (match mj_pl cn i with
  | none => true
  | some v => mj_w (mj_pkw cn i) (.constantLong (mj_R cn) i v)) && (match mj_pi cn i with
  | none => true
  | some v => mj_w (mj_pkw cn i) (.constant (mj_R cn) i v))
def mj_poc (cn i : Nat) : Bool := (bif mj_po cn i then mj_w (mj_pow cn i) (.methodLink (mj_R cn) i Lib.objectInit) else true) &&
  (bif mj_pa cn i then mj_w (mj_paw cn i) (.methodLink (mj_R cn) i arraycopyName) else true)
def mj_allc (cn i : Nat) : Bool := mj_pfc cn i && (mj_pmc cn i && (mj_pnc cn i && (mj_pkc cn i && mj_poc cn i)))
def mj_mc (mid : Nat) : Bool := match mj_M mid with
  | (cn, y, bytes, maxL, ret, _, sz, tab) => mj_w ((mj_Mw mid).1) (.code y bytes maxL ret) && (mj_w ((mj_Mw mid).2.1) (.initialized y.cls) &&
    (decide (y.cls = mj_R cn ∧ y.cls ≠ "java/lang/invoke/MethodHandle" ∧ y.cls ≠ "java/lang/invoke/VarHandle" ∧ (parseMethodDescriptor y.desc).map (fun d => d.parameters.length) = some (mj_Mn mid)) && (Nat.blt cn 12 && plainName y.cls)))

theorem mj_all0 : (List.range 277).all (fun i => mj_allc 0 i) = true := by decide +kernel
theorem mj_all1 : (List.range 277).all (fun i => mj_allc 1 i) = true := by decide +kernel
theorem mj_all2 : (List.range 277).all (fun i => mj_allc 2 i) = true := by decide +kernel
theorem mj_all3 : (List.range 277).all (fun i => mj_allc 3 i) = true := by decide +kernel
theorem mj_all4 : (List.range 277).all (fun i => mj_allc 4 i) = true := by decide +kernel
theorem mj_all5 : (List.range 277).all (fun i => mj_allc 5 i) = true := by decide +kernel
theorem mj_all6 : (List.range 277).all (fun i => mj_allc 6 i) = true := by decide +kernel
theorem mj_all7 : (List.range 277).all (fun i => mj_allc 7 i) = true := by decide +kernel
theorem mj_all8 : (List.range 277).all (fun i => mj_allc 8 i) = true := by decide +kernel
theorem mj_all9 : (List.range 277).all (fun i => mj_allc 9 i) = true := by decide +kernel
theorem mj_all10 : (List.range 277).all (fun i => mj_allc 10 i) = true := by decide +kernel
theorem mj_all11 : (List.range 277).all (fun i => mj_allc 11 i) = true := by decide +kernel
