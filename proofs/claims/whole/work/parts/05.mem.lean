/-! Rows of the memory, of switches, of calls; contracts. -/
section RM
variable {p : Program} {l : Launch} {e : Env} {R : Room} {s : State} {m : MethodId} {args : Array Value} {below : List Frame} {meth : Method} {c : Code} {cells slots nL : Nat} {Qf : Int32 × Mem → State → Prop} {D : va_G} {ad : Nat → Nat} {cs : Cs} {A : Nat → Prop}
variable {cc : ByteArray} {Ts : List Cond} {own : String} {M : Mem} {pc : Nat} {lv : List (Nat × Value)} {st : List Value} {o o1 o2 : Option (Int32 × Mem)} {ka : Mem → Option (Int32 × Mem)}
theorem g_get (F : Fx p m c cc nL s args Ts own D ad cs A) {k ci index : Nat} {fs : (Nat → Int32) → List Value} {C ref : String} {T : u_T} {N : Nat} (hk : k < NN) (hsh : ∀ f, clf ad cs k f = .inr (ci, fs f)) (hc : vwCl[ci]? = some (C, T, N)) (hin : ∀ w ∈ u_ws C T N, w ∈ Ts) (j : Nat) (hj : j < N) (hlink : Cond.fieldLink own index ref (T j).2.1 (T j).2.2.1 ∈ Ts) (hsame : ref = (T j).1) {v : Value} (hv : (fs (M k))[j]? = some v) (hdg : decode cc pc = .ok (.getfield index, 3))
    (kk : GoX p l e R s m args below meth c cells slots nL Qf D ad cs A M (pc + 3) lv (v :: st) o) : GoX p l e R s m args below meth c cells slots nL Qf D ad cs A M pc lv (.ref (ad k) :: st) o :=
  fun rM ho H locs ls hP hS hl => va_get F.1.1 F.1.2.1 F.1.2.2.2.2 hin F.1.2.2.2.1 F.2.1.1 hP k (wd_at hk (hsh (M k))) hc j hj (F.1.2.2.2.2 _ hlink) (fun x hx => by rw [hsame]; exact hx) hv hdg (kk rM ho H locs ls hP hS hl)
theorem g_put (F : Fx p m c cc nL s args Ts own D ad cs A) {k ci index : Nat} {fs : (Nat → Int32) → List Value} {C ref : String} {T : u_T} {N : Nat} (hk : k < NN) (hsh : ∀ f, clf ad cs k f = .inr (ci, fs f)) (hc : vwCl[ci]? = some (C, T, N)) (hin : ∀ w ∈ u_ws C T N, w ∈ Ts) (ty0 : Nat → FieldType) (hty : ∀ k, k < N → parseFieldDescriptor (T k).2.2.1 = some (ty0 k)) (hnm : ∀ a, a < N → ∀ b, b < N → a ≠ b → (T a).2.1 ≠ (T b).2.1) (j : Nat) (hj : j < N) (hlink : Cond.fieldLink own index ref (T j).2.1 (T j).2.2.1 ∈ Ts) (hsame : ref = (T j).1) (hfin : (T j).2.2.2 = false) {v : Int32} (hn : narrow (ty0 j) (.int v) = .int v) (hfit : fits (ty0 j) (.int v) = true) (hset : ∀ f : Nat → Int32, (fs f).set j (.int v) = fs (upd f j v)) (hlen : j < (fs (M k)).length) (hdg : decode cc pc = .ok (.putfield index, 3))
    (kk : ∀ M1, GoX p l e R s m args below meth c cells slots nL Qf D ad cs A M1 (pc + 3) lv st (ka M1)) : GoX p l e R s m args below meth c cells slots nL Qf D ad cs A M pc lv (.int v :: .ref (ad k) :: st) (wr M k j v ka) := by
  intro rM ho H locs ls hP hS hl
  refine va_put F.1.1 F.1.2.1 F.1.2.2.2.2 hin ty0 hty hnm F.1.2.2.2.1 F.2.1.1 hP (wd_D F.2.2.1 F.2.2.2) hS k (wd_at hk (hsh (M k))) hc j hj (F.1.2.2.2.2 _ hlink) (fun x hx => by rw [hsame]; exact hx) hfin (hty j hj) hn hfit hlen hdg (fun H1 locs1 hP1 _ hS1 => ?_)
  have he : clf ad cs k (upd (M k) j v) = .inr (ci, (fs (M k)).set j (.int v)) := by rw [hsh, hset]
  rw [wd_set he, setM_up] at hP1
  exact kk _ rM ho H1 locs1 ls hP1 hS1 hl
theorem g_iald (F : Fx p m c cc nL s args Ts own D ad cs A) {k n : Nat} (hk : k < NN) (hsh : ∀ f, clf ad cs k f = rI cs n f) {i : Int32} (hdg : decode cc pc = .ok (.iaload, 1)) (kk : GoX p l e R s m args below meth c cells slots nL Qf D ad cs A M (pc + 1) lv (.int (M k i.toNatClampNeg) :: st) o) : GoX p l e R s m args below meth c cells slots nL Qf D ad cs A M pc lv (.int i :: .ref (ad k) :: st) (if ix i n then o else none) := by
  intro rM ho H locs ls hP hS hl
  split at ho
  · rename_i h
    exact va_iald F.1.1 F.1.2.1 F.2.1.1 hP k 0 (wd_at hk (hsh (M k))) rfl (ix_in h) hdg (kk rM ho H locs ls hP hS hl)
  · cases ho
theorem g_bald (F : Fx p m c cc nL s args Ts own D ad cs A) {k n : Nat} (hk : k < NN) (hsh : ∀ f, clf ad cs k f = rB cs n f) {i : Int32} (hdg : decode cc pc = .ok (.baload, 1)) (kk : GoX p l e R s m args below meth c cells slots nL Qf D ad cs A M (pc + 1) lv (.int (M k i.toNatClampNeg) :: st) o) : GoX p l e R s m args below meth c cells slots nL Qf D ad cs A M pc lv (.int i :: .ref (ad k) :: st) (if ix i n then o else none) := by
  intro rM ho H locs ls hP hS hl
  split at ho
  · rename_i h
    exact va_bald F.1.1 F.1.2.1 F.2.1.1 hP k 1 (wd_at hk (hsh (M k))) rfl (ix_in h) hdg (kk rM ho H locs ls hP hS hl)
  · cases ho
theorem g_zald (F : Fx p m c cc nL s args Ts own D ad cs A) {k n : Nat} (hk : k < NN) (hsh : ∀ f, clf ad cs k f = rZ cs n f) {i : Int32} (hdg : decode cc pc = .ok (.baload, 1)) (kk : GoX p l e R s m args below meth c cells slots nL Qf D ad cs A M (pc + 1) lv (.int (M k i.toNatClampNeg) :: st) o) : GoX p l e R s m args below meth c cells slots nL Qf D ad cs A M pc lv (.int i :: .ref (ad k) :: st) (if ix i n then o else none) := by
  intro rM ho H locs ls hP hS hl
  split at ho
  · rename_i h
    exact va_zald F.1.1 F.1.2.1 F.2.1.1 hP k 2 (wd_at hk (hsh (M k))) rfl (ix_in h) hdg (kk rM ho H locs ls hP hS hl)
  · cases ho
theorem g_iast (F : Fx p m c cc nL s args Ts own D ad cs A) {k n : Nat} (hk : k < NN) (hsh : ∀ f, clf ad cs k f = rI cs n f) {i x : Int32} (hdg : decode cc pc = .ok (.iastore, 1)) (kk : ∀ M1, GoX p l e R s m args below meth c cells slots nL Qf D ad cs A M1 (pc + 1) lv st (ka M1)) : GoX p l e R s m args below meth c cells slots nL Qf D ad cs A M pc lv (.int x :: .int i :: .ref (ad k) :: st) (if ix i n then wr M k i.toNatClampNeg x ka else none) := by
  intro rM ho H locs ls hP hS hl
  split at ho
  · rename_i h
    refine va_iast F.1.1 F.1.2.1 F.2.1.1 hP (wd_D F.2.2.1 F.2.2.2) hS k 0 (wd_at hk (hsh (M k))) rfl (ix_in h) hdg (fun H1 locs1 hP1 _ hS1 => ?_)
    rw [wd_set (hsh _), setM_up] at hP1
    exact kk _ rM ho H1 locs1 ls hP1 hS1 hl
  · cases ho
theorem g_bast (F : Fx p m c cc nL s args Ts own D ad cs A) {k n : Nat} (hk : k < NN) (hsh : ∀ f, clf ad cs k f = rB cs n f) {i x : Int32} (hdg : decode cc pc = .ok (.bastore, 1)) (kk : ∀ M1, GoX p l e R s m args below meth c cells slots nL Qf D ad cs A M1 (pc + 1) lv st (ka M1)) : GoX p l e R s m args below meth c cells slots nL Qf D ad cs A M pc lv (.int x :: .int i :: .ref (ad k) :: st) (if ix i n then wr M k i.toNatClampNeg (vp_nar .byte x) ka else none) := by
  intro rM ho H locs ls hP hS hl
  split at ho
  · rename_i h
    refine va_bast F.1.1 F.1.2.1 F.2.1.1 hP (wd_D F.2.2.1 F.2.2.2) hS k 1 (wd_at hk (hsh (M k))) rfl (ix_in h) hdg (fun H1 locs1 hP1 _ hS1 => ?_)
    rw [wd_set (hsh _), setM_up] at hP1
    exact kk _ rM ho H1 locs1 ls hP1 hS1 hl
  · cases ho
theorem g_zast (F : Fx p m c cc nL s args Ts own D ad cs A) {k n : Nat} (hk : k < NN) (hsh : ∀ f, clf ad cs k f = rZ cs n f) {i x : Int32} (hdg : decode cc pc = .ok (.bastore, 1)) (kk : ∀ M1, GoX p l e R s m args below meth c cells slots nL Qf D ad cs A M1 (pc + 1) lv st (ka M1)) : GoX p l e R s m args below meth c cells slots nL Qf D ad cs A M pc lv (.int x :: .int i :: .ref (ad k) :: st) (if ix i n then wr M k i.toNatClampNeg (vp_nar .boolean x) ka else none) := by
  intro rM ho H locs ls hP hS hl
  split at ho
  · rename_i h
    refine va_zast F.1.1 F.1.2.1 F.2.1.1 hP (wd_D F.2.2.1 F.2.2.2) hS k 2 (wd_at hk (hsh (M k))) rfl (ix_in h) hdg (fun H1 locs1 hP1 _ hS1 => ?_)
    rw [wd_set (hsh _), setM_up] at hP1
    exact kk _ rM ho H1 locs1 ls hP1 hS1 hl
  · cases ho
theorem g_alen (F : Fx p m c cc nL s args Ts own D ad cs A) {k n : Nat} (hk : k < NN) (hsh : ∀ f, clf ad cs k f = rI cs n f) {v : Int32} (hv : Int32.ofNat n = v) (hdg : decode cc pc = .ok (.arraylength, 1)) (kk : GoX p l e R s m args below meth c cells slots nL Qf D ad cs A M (pc + 1) lv (.int v :: st) o) : GoX p l e R s m args below meth c cells slots nL Qf D ad cs A M pc lv (.ref (ad k) :: st) o :=
  fun rM ho H locs ls hP hS hl => va_alen F.1.1 F.1.2.1 F.2.1.1 hP k 0 (wd_at hk (hsh (M k))) rfl hv hdg (kk rM ho H locs ls hP hS hl)
/-- programs[i] -/
theorem g_aald (F : Fx p m c cc nL s args Ts own D ad cs A) {i : Int32} (hdg : decode cc pc = .ok (.aaload, 1)) (kk : i.toNatClampNeg < 4 → GoX p l e R s m args below meth c cells slots nL Qf D ad cs A M (pc + 1) lv (.ref (ad (13 * i.toNatClampNeg + 2)) :: st) o) : GoX p l e R s m args below meth c cells slots nL Qf D ad cs A M pc lv (.int i :: .ref (ad 1) :: st) (if ix i 4 then o else none) := by
  intro rM ho H locs ls hP hS hl
  split at ho
  · rename_i h
    exact va_aldq F.1.1 F.1.2.1 F.2.1.1 hP 1 3 (wd_at (k := 1) (by decide) rfl) rfl (ix_in h) hdg (kk (ix_lt h) rM ho H locs ls hP hS hl)
  · cases ho
/-- a switch: one value after another -/
theorem g_case {x v : Int32} (kt : x = v → GoX p l e R s m args below meth c cells slots nL Qf D ad cs A M pc lv (.int v :: st) o1) (kf : ¬ x = v → GoX p l e R s m args below meth c cells slots nL Qf D ad cs A M pc lv (.int x :: st) o2) : GoX p l e R s m args below meth c cells slots nL Qf D ad cs A M pc lv (.int x :: st) (if x = v then o1 else o2) := by
  intro rM ho
  split at ho
  · rename_i h
    have := kt h rM ho
    rw [← h] at this
    exact this
  · rename_i h
    exact kf h rM ho
theorem g_tab (F : Fx p m c cc nL s args Ts own D ad cs A) {dflt lo hi : Int} {offs : Array Int} {len : Nat} {x : Int32} {off : Int} (tgt : Nat) (hdg : decode cc pc = .ok (.tableswitch dflt lo hi offs, len)) (h1 : ¬ x.toInt < lo) (h2 : ¬ hi < x.toInt) (ho : offs[(x.toInt - lo).toNat]? = some off) (ht : (pc : Int) + off = (tgt : Int)) (kk : GoX p l e R s m args below meth c cells slots nL Qf D ad cs A M tgt lv st o) : GoX p l e R s m args below meth c cells slots nL Qf D ad cs A M pc lv (.int x :: st) o :=
  fun rM ho' H locs ls hP hS hl => lv_tableIn F.1.1 F.1.2.1 hdg h1 h2 ho ht (kk rM ho' H locs ls hP hS hl)
theorem g_tabd (F : Fx p m c cc nL s args Ts own D ad cs A) {dflt lo hi : Int} {offs : Array Int} {len : Nat} {x : Int32} (tgt : Nat) (hdg : decode cc pc = .ok (.tableswitch dflt lo hi offs, len)) (h : x.toInt < lo ∨ hi < x.toInt) (ht : (pc : Int) + dflt = (tgt : Int)) (kk : GoX p l e R s m args below meth c cells slots nL Qf D ad cs A M tgt lv st o) : GoX p l e R s m args below meth c cells slots nL Qf D ad cs A M pc lv (.int x :: st) o :=
  fun rM ho' H locs ls hP hS hl => lv_tableOut F.1.1 F.1.2.1 hdg h ht (kk rM ho' H locs ls hP hS hl)
theorem g_look (F : Fx p m c cc nL s args Ts own D ad cs A) {dflt : Int} {ps : Array (Int × Int)} {len : Nat} {x : Int32} {off : Int} (tgt : Nat) (hdg : decode cc pc = .ok (.lookupswitch dflt ps, len)) (hp : (ps.toList.zip (ps.toList.drop 1)).all (fun (a, next) => a.1 < next.1) = true) (ho : Op.lookupswitch.offset ps.toList dflt x.toInt = off) (ht : (pc : Int) + off = (tgt : Int)) (kk : GoX p l e R s m args below meth c cells slots nL Qf D ad cs A M tgt lv st o) : GoX p l e R s m args below meth c cells slots nL Qf D ad cs A M pc lv (.int x :: st) o :=
  fun rM ho' H locs ls hP hS hl => lv_lookup F.1.1 F.1.2.1 hdg hp ho ht (kk rM ho' H locs ls hP hS hl)
/-- a name for the top of the stack -/
theorem g_nm {x : Int32} {kn : Int32 → Option (Int32 × Mem)} (kk : ∀ z, GoX p l e R s m args below meth c cells slots nL Qf D ad cs A M pc lv (.int z :: st) (kn z)) : GoX p l e R s m args below meth c cells slots nL Qf D ad cs A M pc lv (.int x :: st) (nm x kn) := kk x
/-- fewer locals are listed -/
theorem g_sub (ks : List Nat) (lv' : List (Nat × Value)) (hl' : lv_pick lv ks = lv') (kk : GoX p l e R s m args below meth c cells slots nL Qf D ad cs A M pc lv' st o) : GoX p l e R s m args below meth c cells slots nL Qf D ad cs A M pc lv st o :=
  fun rM ho H locs ls hP hS hl => kk rM ho H locs ls hP hS (lv_sub hl ks hl')
theorem g_copy (F : Fx p m c cc nL s args Ts own D ad cs A) {k0 k1 index : Nat} (hk0 : k0 < NN) (hsh0 : ∀ f, clf ad cs k0 f = rI cs 32 f) (hk1 : k1 < NN) (hsh1 : ∀ f, clf ad cs k1 f = rI cs 32 f) (hlink : Cond.methodLink own index arraycopyName ∈ Ts) (hnat : Cond.native arraycopyName ∈ Ts) (hstat : Cond.static arraycopyName ∈ Ts) (hini : Cond.initialized "java/lang/System" ∈ Ts) (hfr : 1 ≤ R.frames) (hlo : (st.map fun v => v.category).sum + (nativeFrameWords "java/lang/System" "arraycopy" 5 + 11) ≤ R.locals) (hdg : decode cc pc = .ok (.invokestatic index, 3))
    (kk : ∀ M1, GoX p l e R s m args below meth c cells slots nL Qf D ad cs A M1 (pc + 3) lv st (ka M1)) : GoX p l e R s m args below meth c cells slots nL Qf D ad cs A M pc lv (.int 32 :: .int 0 :: .ref (ad k1) :: .int 0 :: .ref (ad k0) :: st) (wrA M k1 (va_cpy (M k0) (M k1) 0 0 32) ka) := by
  intro rM ho H locs ls hP hS hl
  refine va_copyi F.1.1 F.1.2.1 (F.1.2.2.1.trans hl.1.symm) F.1.2.2.2.1 (F.1.2.2.2.2 _ hlink) (F.1.2.2.2.2 _ hnat) (F.1.2.2.2.2 _ hstat) (F.1.2.2.2.2 _ hini) F.2.1.1 hP (wd_D F.2.2.1 F.2.2.2) hS k0 k1 0 0 (wd_at hk0 (hsh0 (M k0))) (wd_at hk1 (hsh1 (M k1))) rfl rfl rfl (by decide) (by decide) (by decide) (by decide) (by decide) (fun _ _ => rfl) hfr hlo hdg (fun H1 locs1 hP1 _ hS1 => ?_)
  rw [wd_set (hsh1 _)] at hP1
  exact kk _ rM ho H1 locs1 ls hP1 hS1 hl
theorem g_mmin (F : Fx p m c cc nL s args Ts own D ad cs A) {x y : Int32} {index : Nat} (hlink : Cond.methodLink own index Lib.Math.min.name ∈ Ts) (hstat : Cond.static Lib.Math.min.name ∈ Ts) (hini : Cond.initialized "java/lang/Math" ∈ Ts) (hcode : Cond.code Lib.Math.min.name Lib.Math.min.code 2 (some .int) ∈ Ts) (hfr : 1 ≤ R.frames) (hlo : (st.map fun v => v.category).sum + 13 ≤ R.locals) (hf : cells ≤ R.cells ∧ slots ≤ R.slots) (hdg : decode cc pc = .ok (.invokestatic index, 3)) (kk : GoX p l e R s m args below meth c cells slots nL Qf D ad cs A M (pc + 3) lv (.int (if y < x then y else x) :: st) o) : GoX p l e R s m args below meth c cells slots nL Qf D ad cs A M pc lv (.int y :: .int x :: st) o :=
  fun rM ho H locs ls hP hS hl => va_mmin F.1.1 F.1.2.1 (F.1.2.2.1.trans hl.1.symm) F.1.2.2.2.1 (F.1.2.2.2.2 _ hlink) (F.1.2.2.2.2 _ hstat) (F.1.2.2.2.2 _ hini) (F.1.2.2.2.2 _ hcode) hfr hlo hf.1 hf.2 hdg (kk rM ho H locs ls hP hS hl)
theorem g_mmax (F : Fx p m c cc nL s args Ts own D ad cs A) {x y : Int32} {index : Nat} (hlink : Cond.methodLink own index Lib.Math.max.name ∈ Ts) (hstat : Cond.static Lib.Math.max.name ∈ Ts) (hini : Cond.initialized "java/lang/Math" ∈ Ts) (hcode : Cond.code Lib.Math.max.name Lib.Math.max.code 2 (some .int) ∈ Ts) (hfr : 1 ≤ R.frames) (hlo : (st.map fun v => v.category).sum + 13 ≤ R.locals) (hf : cells ≤ R.cells ∧ slots ≤ R.slots) (hdg : decode cc pc = .ok (.invokestatic index, 3)) (kk : GoX p l e R s m args below meth c cells slots nL Qf D ad cs A M (pc + 3) lv (.int (if x < y then y else x) :: st) o) : GoX p l e R s m args below meth c cells slots nL Qf D ad cs A M pc lv (.int y :: .int x :: st) o :=
  fun rM ho H locs ls hP hS hl => va_mmax F.1.1 F.1.2.1 (F.1.2.2.1.trans hl.1.symm) F.1.2.2.2.1 (F.1.2.2.2.2 _ hlink) (F.1.2.2.2.2 _ hstat) (F.1.2.2.2.2 _ hini) (F.1.2.2.2.2 _ hcode) hfr hlo hf.1 hf.2 hdg (kk rM ho H locs ls hP hS hl)
theorem ne_lit {x v : Int32} {n : Int} (hv : v.toInt = n) (h : ¬ x = v) : x.toInt ≠ n := fun e => h (Int32.toInt_inj.mp (e.trans hv.symm))
end RM
/-! contracts -/
def cPre (D : va_G) (ad : Nat → Nat) (cs : Cs) (avs : List Value) (M : Mem) : Array Value → State → Prop := va_Pc avs (fun U => va_P D vwCl (wd ad cs M) U.heap ∧ Kn D cs U)
def cQi (D : va_G) (ad : Nat → Nat) (cs : Cs) (rM : Int32 × Mem) : Array Value → State → Outcome → State → Prop := va_Qi (S := Mem) (fun r M' => r = rM.1 ∧ M' = rM.2) (fun M' t => va_P D vwCl (wd ad cs M') t.heap) (Ad ad)
def cQv (D : va_G) (ad : Nat → Nat) (cs : Cs) (rM : Int32 × Mem) : Array Value → State → Outcome → State → Prop := va_Qv (S := Mem) (fun M' => M' = rM.2) (fun M' t => va_P D vwCl (wd ad cs M') t.heap) (Ad ad)
def cQr (D : va_G) (ad : Nat → Nat) (cs : Cs) (k : Nat) (rM : Int32 × Mem) : Array Value → State → Outcome → State → Prop := va_Qr (S := Mem) (fun M' => M' = rM.2) (fun M' a t => a = ad k ∧ va_P D vwCl (wd ad cs M') t.heap) (Ad ad)
def MI (l : Launch) (y : MethodName) (ws : List Cond) (rm : Room) (D : va_G) (ad : Nat → Nat) (cs : Cs) (avs : List Value) (M : Mem) (fo : Option (Int32 × Mem)) : Prop := ∀ rM, fo = some rM → Met l y ws rm (cPre D ad cs avs M) (cQi D ad cs rM) 0 0 (Ad ad)
def MV (l : Launch) (y : MethodName) (ws : List Cond) (rm : Room) (D : va_G) (ad : Nat → Nat) (cs : Cs) (avs : List Value) (M : Mem) (fo : Option (Int32 × Mem)) : Prop := ∀ rM, fo = some rM → Met l y ws rm (cPre D ad cs avs M) (cQv D ad cs rM) 0 0 (Ad ad)
def MR (l : Launch) (y : MethodName) (ws : List Cond) (rm : Room) (D : va_G) (ad : Nat → Nat) (cs : Cs) (k : Nat) (avs : List Value) (M : Mem) (fo : Option (Int32 × Mem)) : Prop := ∀ rM, fo = some rM → Met l y ws rm (cPre D ad cs avs M) (cQr D ad cs k rM) 0 0 (Ad ad)
theorem cPre_blind (D : va_G) (ad : Nat → Nat) (cs : Cs) (avs : List Value) (M : Mem) : FrameBlind (cPre D ad cs avs M) := by
  intro a U g mk h
  exact ⟨h.1, h.2.1, h.2.2.same rfl⟩
section CT
variable {l : Launch} {y : MethodName} {ws ws' : List Cond} {rm : Room} {D : va_G} {ad : Nat → Nat} {cs : Cs} {avs : List Value} {M : Mem} {fo : Option (Int32 × Mem)} {cc : ByteArray} {maxL : Nat} {ret : Option FieldType} {lv : List (Nat × Value)} {own : String} {Qc : Int32 × Mem → Array Value → State → Outcome → State → Prop}
theorem Mx.of (hy : plainName y.cls = true) (hw : ws = Cond.code y cc maxL ret :: ws') (ho : y.cls = own) (hlen : (lg_sl avs).length ≤ maxL) (hlv : lv_args 0 avs = lv) (hi : Inj ad)
    (body : ∀ (p : Program) (e : Env) (s : State) (m : MethodId) (below : List Frame) (meth : Method) (c : Code), Fx p m c cc maxL s avs.toArray ws own D ad cs (Ad ad) → meth.sig.returnType = ret → meth.locks = false →
      GoX p l e rm s m avs.toArray below meth c 0 0 maxL (fun rM => MQ below (Qc rM) avs.toArray s 0 0 (Ad ad)) D ad cs (Ad ad) M 0 lv [] fo) : ∀ rM, fo = some rM → Met l y ws rm (cPre D ad cs avs M) (Qc rM) 0 0 (Ad ad) := by
  intro rM hf
  refine Met.ofW (cc := cc) (maxL := maxL) (ret := ret) hy hw ?_
  intro p e s m args below meth c s₁ B hml hv
  obtain ⟨rfl, hP, hK⟩ := hv
  have hts := atoms_spec (ws := ws) B.pre
  have hown : s.vm.findClass own = some m.cls := ho ▸ findClass_of_methodNamed B.named
  have hl := lv_entry avs (n := maxL) hlen
  rw [lg_entry_eq]
  generalize (lg_sl avs ++ List.replicate (maxL - (lg_sl avs).length) Slot.unset).toArray = ls at hl ⊢
  exact body p e s m below meth c ⟨⟨B.exec, B.bytes, hml, hown, hts⟩, hK, hi, fun k hk => ⟨k, hk, rfl⟩⟩ B.returns B.notSynchronized rM hf s.heap [] ls hP va_S.rf (hlv ▸ hl)
end CT
section RT
variable {p : Program} {l : Launch} {e : Env} {R : Room} {s : State} {m : MethodId} {args : Array Value} {below : List Frame} {meth : Method} {c : Code} {nL : Nat} {D : va_G} {ad : Nat → Nat} {cs : Cs}
variable {cc : ByteArray} {Ts : List Cond} {own : String} {M : Mem} {pc : Nat} {lv : List (Nat × Value)}
theorem g_iret (F : Fx p m c cc nL s args Ts own D ad cs (Ad ad)) (hr : meth.sig.returnType = some .int) (hk : meth.locks = false) {v : Int32} (hdg : decode cc pc = .ok (.ireturn, 1)) : GoX p l e R s m args below meth c 0 0 nL (fun rM => MQ below (cQi D ad cs rM) args s 0 0 (Ad ad)) D ad cs (Ad ad) M pc lv [.int v] (some (v, M)) := by
  intro rM ho H locs ls hP hS hl
  cases ho
  exact W.iret F.1.1 F.1.2.1 hr (fun t ht hW => ⟨⟨v, M, rfl, ⟨rfl, rfl⟩, (ht ▸ hP : va_P D vwCl (wd ad cs M) t.heap)⟩, hS.F ht⟩) hS.2.2 hdg
theorem g_zret (F : Fx p m c cc nL s args Ts own D ad cs (Ad ad)) (hr : meth.sig.returnType = some .boolean) (hk : meth.locks = false) {v : Int32} (hv : narrow .boolean (.int v) = .int v) (hdg : decode cc pc = .ok (.ireturn, 1)) : GoX p l e R s m args below meth c 0 0 nL (fun rM => MQ below (cQi D ad cs rM) args s 0 0 (Ad ad)) D ad cs (Ad ad) M pc lv [.int v] (some (v, M)) := by
  intro rM ho H locs ls hP hS hl
  cases ho
  exact W.zret F.1.1 F.1.2.1 hr hv (fun t ht hW => ⟨⟨v, M, rfl, ⟨rfl, rfl⟩, (ht ▸ hP : va_P D vwCl (wd ad cs M) t.heap)⟩, hS.F ht⟩) hS.2.2 hdg
/-- an answer that another method made -/
theorem g_zretx (F : Fx p m c cc nL s args Ts own D ad cs (Ad ad)) (hr : meth.sig.returnType = some .boolean) (hk : meth.locks = false) {v : Int32} (hdg : decode cc pc = .ok (.ireturn, 1)) : GoX p l e R s m args below meth c 0 0 nL (fun rM => MQ below (cQi D ad cs rM) args s 0 0 (Ad ad)) D ad cs (Ad ad) M pc lv [.int v] (if vp_nar .boolean v = v then some (v, M) else none) := by
  intro rM ho
  split at ho
  · rename_i h
    have hv : narrow .boolean (.int v) = .int v := by
      have h2 : narrow .boolean (.int v) = .int (vp_nar .boolean v) := rfl
      rw [h2, h]
    exact g_zret F hr hk hv hdg rM ho
  · cases ho
theorem g_vret (F : Fx p m c cc nL s args Ts own D ad cs (Ad ad)) (hr : meth.sig.returnType = none) (hk : meth.locks = false) (hdg : decode cc pc = .ok (.return_, 1)) : GoX p l e R s m args below meth c 0 0 nL (fun rM => MQ below (cQv D ad cs rM) args s 0 0 (Ad ad)) D ad cs (Ad ad) M pc lv [] (some (0, M)) := by
  intro rM ho H locs ls hP hS hl
  cases ho
  exact W.vret F.1.1 F.1.2.1 hr (fun t ht hW => ⟨⟨M, rfl, rfl, (ht ▸ hP : va_P D vwCl (wd ad cs M) t.heap)⟩, hS.F ht⟩) hS.2.2 hdg
theorem g_aret (F : Fx p m c cc nL s args Ts own D ad cs (Ad ad)) {C : String} (hr : meth.sig.returnType = some (.object C)) (hk : meth.locks = false) {k : Nat} (hdg : decode cc pc = .ok (.areturn, 1)) : GoX p l e R s m args below meth c 0 0 nL (fun rM => MQ below (cQr D ad cs k rM) args s 0 0 (Ad ad)) D ad cs (Ad ad) M pc lv [.ref (ad k)] (some (0, M)) := by
  intro rM ho H locs ls hP hS hl
  cases ho
  exact W.aret F.1.1 F.1.2.1 hr (Or.inl ⟨_, rfl⟩) (Or.inr ⟨_, rfl⟩) (fun t ht hW => ⟨⟨M, ad k, rfl, rfl, rfl, (ht ▸ hP : va_P D vwCl (wd ad cs M) t.heap)⟩, hS.F ht⟩) hS.2.2 hdg
end RT
section RC
variable {p : Program} {l : Launch} {e : Env} {R : Room} {s : State} {m : MethodId} {args : Array Value} {below : List Frame} {meth : Method} {c : Code} {cells slots nL : Nat} {Qf : Int32 × Mem → State → Prop} {D : va_G} {ad : Nat → Nat} {cs : Cs} {A : Nat → Prop}
variable {cc : ByteArray} {Ts : List Cond} {own : String} {M : Mem} {pc : Nat} {lv : List (Nat × Value)} {st st0 : List Value}
variable {y : MethodName} {bytes : ByteArray} {maxL n index : Nat} {ret : Option FieldType} {ws : List Cond} {rm : Room} {As : List Value} {fo : Option (Int32 × Mem)} {ko : Int32 → Mem → Option (Int32 × Mem)} {C : String}
theorem pre_V (F : Fx p m c cc nL s args Ts own D ad cs A) {k ci : Nat} {fs : (Nat → Int32) → List Value} {T : u_T} {N : Nat} (hk : k < NN) (hsh : ∀ f, clf ad cs k f = .inr (ci, fs f)) (hc : vwCl[ci]? = some (C, T, N)) {H : Heap} (hP : va_P D vwCl (wd ad cs M) H) : PreV s H C (ad k) (cPre D ad cs (.ref (ad k) :: As) M) As :=
  ⟨cPre_blind D ad cs _ M, va_recv F.2.1.1 hP hc (wd_at hk (hsh (M k))), fun U hU hW => ⟨rfl, by rw [hU]; exact hP, F.2.1.warm hW⟩⟩
theorem pre_S (F : Fx p m c cc nL s args Ts own D ad cs A) {H : Heap} (hP : va_P D vwCl (wd ad cs M) H) : PreS s H (cPre D ad cs As M) As :=
  ⟨cPre_blind D ad cs _ M, fun U hU hW => ⟨rfl, by rw [hU]; exact hP, F.2.1.warm hW⟩⟩
theorem ad_A (F : Fx p m c cc nL s args Ts own D ad cs A) : ∀ q, Ad ad q → A q := fun q ⟨k, h1, h2⟩ => by rw [h2]; exact F.2.2.2 k h1
theorem go_i (F : Fx p m c cc nL s args Ts own D ad cs A) (hr : ∀ rM, fo = some rM → ∀ (H : Heap) (locs : List Loc) (ls : Array Slot), va_P D vwCl (wd ad cs M) H → lv_has ls nL lv → va_Run p l e R s m args below meth c H locs cells slots 0 0 (F0 m pc ls st0) st (cQi D ad cs rM (As.toArray)) (Ad ad))
    (kk : ∀ r M1, GoX p l e R s m args below meth c cells slots nL Qf D ad cs A M1 (pc + 3) lv (.int r :: st) (ko r M1)) : GoX p l e R s m args below meth c cells slots nL Qf D ad cs A M pc lv st0 (bnd fo ko) := by
  intro rM ho H locs ls hP hS hl
  cases hf : fo with
  | none => rw [hf] at ho; cases ho
  | some q =>
    rw [hf] at ho
    refine va_calli (hr q hf H locs ls hP hl) hS (fun q _ h => ad_A F q h) (ad_A F) (fun r u t H1 locs1 ht hvm hw hB hz hk1 hS1 => ?_)
    obtain ⟨rfl, rfl⟩ := hw
    exact kk q.1 q.2 rM ho H1 locs1 ls (by rw [← ht]; exact hB) hS1 hl
theorem go_v (F : Fx p m c cc nL s args Ts own D ad cs A) (hr : ∀ rM, fo = some rM → ∀ (H : Heap) (locs : List Loc) (ls : Array Slot), va_P D vwCl (wd ad cs M) H → lv_has ls nL lv → va_Run p l e R s m args below meth c H locs cells slots 0 0 (F0 m pc ls st0) st (cQv D ad cs rM (As.toArray)) (Ad ad))
    (kk : ∀ r M1, GoX p l e R s m args below meth c cells slots nL Qf D ad cs A M1 (pc + 3) lv st (ko r M1)) : GoX p l e R s m args below meth c cells slots nL Qf D ad cs A M pc lv st0 (bnd fo ko) := by
  intro rM ho H locs ls hP hS hl
  cases hf : fo with
  | none => rw [hf] at ho; cases ho
  | some q =>
    rw [hf] at ho
    refine va_callv (hr q hf H locs ls hP hl) hS (fun q _ h => ad_A F q h) (ad_A F) (fun u t H1 locs1 ht hvm hw hB hz hk1 hS1 => ?_)
    obtain rfl := hw
    exact kk q.1 q.2 rM ho H1 locs1 ls (by rw [← ht]; exact hB) hS1 hl
theorem go_r (F : Fx p m c cc nL s args Ts own D ad cs A) {kr : Nat} (hr : ∀ rM, fo = some rM → ∀ (H : Heap) (locs : List Loc) (ls : Array Slot), va_P D vwCl (wd ad cs M) H → lv_has ls nL lv → va_Run p l e R s m args below meth c H locs cells slots 0 0 (F0 m pc ls st0) st (cQr D ad cs kr rM (As.toArray)) (Ad ad))
    (kk : ∀ r M1, GoX p l e R s m args below meth c cells slots nL Qf D ad cs A M1 (pc + 3) lv (.ref (ad kr) :: st) (ko r M1)) : GoX p l e R s m args below meth c cells slots nL Qf D ad cs A M pc lv st0 (bnd fo ko) := by
  intro rM ho H locs ls hP hS hl
  cases hf : fo with
  | none => rw [hf] at ho; cases ho
  | some q =>
    rw [hf] at ho
    refine va_callr (hr q hf H locs ls hP hl) hS (fun q _ h => ad_A F q h) (ad_A F) (fun u ra t H1 locs1 ht hvm hw hB hz hk1 hS1 => ?_)
    obtain rfl := hw
    obtain ⟨rfl, hB⟩ := hB
    exact kk q.1 q.2 rM ho H1 locs1 ls (by rw [← ht]; exact hB) hS1 hl
variable {k ci : Nat} {fs : (Nat → Int32) → List Value} {T : u_T} {N : Nat}
theorem g_vi (F : Fx p m c cc nL s args Ts own D ad cs A) (hM : MI l y ws rm D ad cs (.ref (ad k) :: As) M fo) (hk : k < NN) (hsh : ∀ f, clf ad cs k f = .inr (ci, fs f)) (hc : vwCl[ci]? = some (C, T, N)) (cw : CallW R s args own C index y bytes maxL ret ws rm 0 0 n) (hn : As.length = n) (hst : st0 = As.reverse ++ .ref (ad k) :: st) (hW : (st.map fun v => v.category).sum ≤ 8) (hdg : decode cc pc = .ok (.invokevirtual index, 3)) (hf : cells ≤ R.cells ∧ slots ≤ R.slots)
    (kk : ∀ r M1, GoX p l e R s m args below meth c cells slots nL Qf D ad cs A M1 (pc + 3) lv (.int r :: st) (ko r M1)) : GoX p l e R s m args below meth c cells slots nL Qf D ad cs A M pc lv st0 (bnd fo ko) :=
  go_i (As := .ref (ad k) :: As) F (fun rM hfo H locs ls hP hl => va_runV F.1 (hM rM hfo) cw (pre_V F hk hsh hc hP) rfl hn hl.1 hst (lv_room hW) hdg hf) kk
theorem g_vv (F : Fx p m c cc nL s args Ts own D ad cs A) (hM : MV l y ws rm D ad cs (.ref (ad k) :: As) M fo) (hk : k < NN) (hsh : ∀ f, clf ad cs k f = .inr (ci, fs f)) (hc : vwCl[ci]? = some (C, T, N)) (cw : CallW R s args own C index y bytes maxL ret ws rm 0 0 n) (hn : As.length = n) (hst : st0 = As.reverse ++ .ref (ad k) :: st) (hW : (st.map fun v => v.category).sum ≤ 8) (hdg : decode cc pc = .ok (.invokevirtual index, 3)) (hf : cells ≤ R.cells ∧ slots ≤ R.slots)
    (kk : ∀ r M1, GoX p l e R s m args below meth c cells slots nL Qf D ad cs A M1 (pc + 3) lv st (ko r M1)) : GoX p l e R s m args below meth c cells slots nL Qf D ad cs A M pc lv st0 (bnd fo ko) :=
  go_v (As := .ref (ad k) :: As) F (fun rM hfo H locs ls hP hl => va_runV F.1 (hM rM hfo) cw (pre_V F hk hsh hc hP) rfl hn hl.1 hst (lv_room hW) hdg hf) kk
theorem g_vr (F : Fx p m c cc nL s args Ts own D ad cs A) {kr : Nat} (hM : MR l y ws rm D ad cs kr (.ref (ad k) :: As) M fo) (hk : k < NN) (hsh : ∀ f, clf ad cs k f = .inr (ci, fs f)) (hc : vwCl[ci]? = some (C, T, N)) (cw : CallW R s args own C index y bytes maxL ret ws rm 0 0 n) (hn : As.length = n) (hst : st0 = As.reverse ++ .ref (ad k) :: st) (hW : (st.map fun v => v.category).sum ≤ 8) (hdg : decode cc pc = .ok (.invokevirtual index, 3)) (hf : cells ≤ R.cells ∧ slots ≤ R.slots)
    (kk : ∀ r M1, GoX p l e R s m args below meth c cells slots nL Qf D ad cs A M1 (pc + 3) lv (.ref (ad kr) :: st) (ko r M1)) : GoX p l e R s m args below meth c cells slots nL Qf D ad cs A M pc lv st0 (bnd fo ko) :=
  go_r (As := .ref (ad k) :: As) F (fun rM hfo H locs ls hP hl => va_runV F.1 (hM rM hfo) cw (pre_V F hk hsh hc hP) rfl hn hl.1 hst (lv_room hW) hdg hf) kk
theorem g_si (F : Fx p m c cc nL s args Ts own D ad cs A) (hM : MI l y ws rm D ad cs As M fo) (cw : CallB R s args own index y bytes maxL ret ws rm 0 0 n ∧ (Cond.static y).before args s = true) (hn : As.length = n) (hst : st0 = As.reverse ++ st) (hW : (st.map fun v => v.category).sum ≤ 8) (hdg : decode cc pc = .ok (.invokestatic index, 3)) (hf : cells ≤ R.cells ∧ slots ≤ R.slots)
    (kk : ∀ r M1, GoX p l e R s m args below meth c cells slots nL Qf D ad cs A M1 (pc + 3) lv (.int r :: st) (ko r M1)) : GoX p l e R s m args below meth c cells slots nL Qf D ad cs A M pc lv st0 (bnd fo ko) :=
  go_i (As := As) F (fun rM hfo H locs ls hP hl => va_runS F.1 (hM rM hfo) cw (pre_S F hP) rfl hn hl.1 hst (lv_room hW) hdg hf) kk
theorem g_sv (F : Fx p m c cc nL s args Ts own D ad cs A) (hM : MV l y ws rm D ad cs As M fo) (cw : CallB R s args own index y bytes maxL ret ws rm 0 0 n ∧ (Cond.static y).before args s = true) (hn : As.length = n) (hst : st0 = As.reverse ++ st) (hW : (st.map fun v => v.category).sum ≤ 8) (hdg : decode cc pc = .ok (.invokestatic index, 3)) (hf : cells ≤ R.cells ∧ slots ≤ R.slots)
    (kk : ∀ r M1, GoX p l e R s m args below meth c cells slots nL Qf D ad cs A M1 (pc + 3) lv st (ko r M1)) : GoX p l e R s m args below meth c cells slots nL Qf D ad cs A M pc lv st0 (bnd fo ko) :=
  go_v (As := As) F (fun rM hfo H locs ls hP hl => va_runS F.1 (hM rM hfo) cw (pre_S F hP) rfl hn hl.1 hst (lv_room hW) hdg hf) kk
/-- a static method of the nest -/
theorem g_ni (F : Fx p m c cc nL s args Ts own D ad cs A) {host : String} (hM : MI l y ws rm D ad cs As M fo) (cw : va_CN R s args own index y host bytes maxL ret ws rm 0 0 n ∧ (Cond.static y).before args s = true ∧ True) (hn : As.length = n) (hst : st0 = As.reverse ++ st) (hW : (st.map fun v => v.category).sum ≤ 8) (hdg : decode cc pc = .ok (.invokestatic index, 3)) (hf : cells ≤ R.cells ∧ slots ≤ R.slots)
    (kk : ∀ r M1, GoX p l e R s m args below meth c cells slots nL Qf D ad cs A M1 (pc + 3) lv (.int r :: st) (ko r M1)) : GoX p l e R s m args below meth c cells slots nL Qf D ad cs A M pc lv st0 (bnd fo ko) :=
  go_i (As := As) F (fun rM hfo H locs ls hP hl => va_runSN F.1 (hM rM hfo) cw (pre_S F hP) rfl hn hl.1 hst (lv_room hW) hdg hf) kk
end RC
