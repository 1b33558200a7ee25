/-! own rows: worlds of the class and of the reference, contracts, calls -/
abbrev classes : List vw_C := [(RX0, TX0, 3), (RX1, TX1, 6), (RX2, TX2, 7)]
def rmd (d : Nat) : Room := { frames := d, cells := 0, slots := 0, locals := 30 * d }
def bI (b : Bool) : Int32 := match b with
  | true => 1
  | false => 0
theorem bI_f {b : Bool} (h : bI b = 0) : b = false := by
  cases b
  · rfl
  · exact absurd h (by decide)
theorem bI_t {b : Bool} (h : ¬ bI b = 0) : b = true := by
  cases b
  · exact absurd rfl h
  · rfl
theorem bI_nar (b : Bool) : narrow .boolean (.int (bI b)) = .int (bI b) := by cases b <;> decide
theorem bI_fit (b : Bool) : fits .boolean (.int (bI b)) = true := by cases b <;> decide
theorem bI_d (q : Prop) [Decidable q] : bI (decide q) = if q then 1 else 0 := by
  by_cases h : q <;> simp [h, bI]
def NS (U : State) : Prop := va_Nw (.methodLinkNest RX1 15 yX0_init RX1) U ∧ va_Nw (.methodLinkNest RX1 34 yX0_removeAll RX1) U ∧ va_Nw (.methodLinkNest RX1 48 yX0_isFull RX1) U ∧ va_Nw (.methodLinkNest RX1 52 yX0_add RX1) U ∧ va_Nw (.methodLinkNest RX1 59 yX0_removeLast RX1) U ∧ va_Nw (.methodLinkNest RX1 91 yX0_allHold RX1) U ∧ va_Nw (.fieldLinkNest RX1 56 "ReachProver$ClauseList" "size" "I" RX1) U ∧ va_AO RX0 U
theorem NS.warm {s U : State} (hW : s.WarmedH U.vm) (h : NS s) : NS U := by
  obtain ⟨h1, h2, h3, h4, h5, h6, h7, h8⟩ := h
  exact ⟨va_Nw.warmM hW h1, va_Nw.warmM hW h2, va_Nw.warmM hW h3, va_Nw.warmM hW h4, va_Nw.warmM hW h5, va_Nw.warmM hW h6, va_Nw.warmF hW h7, va_AO.moved hW.alike h8⟩
theorem NS.call {U : State} {g : JFrame} {mk : MethodId} {a : Array Value} (h : NS U) : NS (U.calling g mk a) := by
  obtain ⟨h1, h2, h3, h4, h5, h6, h7, h8⟩ := h
  exact ⟨va_Nw.same rfl (rfl : U.vm = (U.calling g mk a).vm) h1, va_Nw.same rfl (rfl : U.vm = (U.calling g mk a).vm) h2, va_Nw.same rfl (rfl : U.vm = (U.calling g mk a).vm) h3, va_Nw.same rfl (rfl : U.vm = (U.calling g mk a).vm) h4, va_Nw.same rfl (rfl : U.vm = (U.calling g mk a).vm) h5, va_Nw.same rfl (rfl : U.vm = (U.calling g mk a).vm) h6, va_Nw.same rfl (rfl : U.vm = (U.calling g mk a).vm) h7, va_AO.moved (u := U) (U := U.calling g mk a) (Vm.Alike.refl U.vm) h8⟩
abbrev tyl (cI cL : ClassId) : List (ClassId × FieldType) := [(cI, .int), (cL, .object RX0)]
/-- which cells a world has -/
def adr (w : va_W) : Nat → Prop := fun q => ∃ (k : Nat) (e : va_E), w[k]? = some (q, e)
theorem adr_D {B : Nat → Prop} {w : va_W} (h : va_D B w) : va_D (adr w) w := ⟨h.1, fun k q hk => ⟨k, q.2, hk⟩⟩
theorem D_adr {B : Nat → Prop} {w : va_W} (h : va_D B w) : ∀ q, adr w q → B q := fun _ hq => by
  obtain ⟨k, e, hk⟩ := hq
  exact h.2 k _ hk
theorem D_same {B : Nat → Prop} {w w' : va_W} (h : va_D B w) (e : w.map Prod.fst = w'.map Prod.fst) : va_D B w' := by
  have key : ∀ (k : Nat) (q : Nat × va_E), w'[k]? = some q → ∃ q0, w[k]? = some q0 ∧ q0.1 = q.1 := by
    intro k q hk
    have h1 : (w'.map Prod.fst)[k]? = some q.1 := by rw [List.getElem?_map, hk]; rfl
    rw [← e, List.getElem?_map] at h1
    cases hw : w[k]? with
    | none => rw [hw] at h1; cases h1
    | some q0 => rw [hw] at h1; exact ⟨q0, rfl, Option.some.inj h1⟩
  refine ⟨fun i j x y hi hj hxy => ?_, fun k q hk => ?_⟩
  · obtain ⟨x0, a1, a2⟩ := key i x hi
    obtain ⟨y0, b1, b2⟩ := key j y hj
    exact h.1 i j x0 y0 a1 b1 (a2.trans (hxy.trans b2.symm))
  · obtain ⟨q0, a1, a2⟩ := key k q hk
    rw [← a2]
    exact h.2 k q0 a1
abbrev RI (D : va_G) (cI cL : ClassId) (w : va_W) (U : State) : Prop := va_P D classes w U.heap ∧ va_K D classes (tyl cI cL) U ∧ NS U
def QW (D : va_G) (rv : Option Value) (w' : va_W) (A : Nat → Prop) : Array Value → State → Outcome → State → Prop := fun _ st oc t => oc = .returned rv ∧ va_P D classes w' t.heap ∧ va_F A st t
abbrev MetR (l : Launch) (y : MethodName) (b : ByteArray) (n : Nat) (r : Option FieldType) (d : Nat) (as : List Value) (D : va_G) (cI cL : ClassId) (w : va_W) (v : Int32) : Prop :=
  Met l y (.code y b n r :: wt) (rmd d) (va_Pc as (RI D cI cL w)) (QcRead v) 0 0 (fun _ => False)
abbrev MetW (l : Launch) (y : MethodName) (b : ByteArray) (n : Nat) (r : Option FieldType) (d : Nat) (as : List Value) (D : va_G) (cI cL : ClassId) (w : va_W) (rv : Option Value) (w' : va_W) : Prop :=
  Met l y (.code y b n r :: wt) (rmd d) (va_Pc as (fun U => RI D cI cL w U ∧ va_D (fun _ => True) w)) (QW D rv w' (adr w)) 0 0 (adr w)
theorem MetR.mk {l : Launch} {y : MethodName} {b : ByteArray} {n : Nat} {r : Option FieldType} {d : Nat} {as : List Value} {D : va_G} {cI cL : ClassId} {w : va_W} {v : Int32} (hy : plainName y.cls = true) (hn : (lg_sl as).length ≤ n)
    (body : ∀ (p : Program) (e : Env) (s : State) (m : MethodId) (args : Array Value) (below : List Frame) (meth : Method) (c : Code) (Q : State → Prop), Q = MQ below (QcRead v) args s 0 0 (fun _ => False) → CallFix p m c b n s args wt y.cls → meth.sig.returnType = r → meth.locks = false → NS s → va_K D classes (tyl cI cL) s → va_P D classes w s.heap → ∀ ls : Array Slot, lv_has ls n (lv_args 0 as) →
      W p l e (rmd d) s m args below meth c s.heap [] 0 0 Q (F0 m 0 ls [])) : MetR l y b n r d as D cI cL w v := by
  refine Met.ofW (cc := b) (maxL := n) (ret := r) hy rfl ?_
  intro p e s m args below meth c s₁ B hml hv
  obtain ⟨rfl, hP, hK, hN⟩ := hv
  have hts := atoms_spec (ws := .code y b n r :: wt) B.pre
  have hown : s.vm.findClass y.cls = some m.cls := findClass_of_methodNamed B.named
  have hl := lv_entry as (n := n) hn
  rw [lg_entry_eq]
  exact body p e s m _ below meth c _ rfl ⟨B.exec, B.bytes, hml, hown, fun w h => hts w (List.mem_cons_of_mem _ h)⟩ B.returns B.notSynchronized hN hK hP _ hl
theorem MetW.mk {l : Launch} {y : MethodName} {b : ByteArray} {n : Nat} {r : Option FieldType} {d : Nat} {as : List Value} {D : va_G} {cI cL : ClassId} {w w' : va_W} {rv : Option Value} (hy : plainName y.cls = true) (hn : (lg_sl as).length ≤ n)
    (body : ∀ (p : Program) (e : Env) (s : State) (m : MethodId) (args : Array Value) (below : List Frame) (meth : Method) (c : Code) (Q : State → Prop) (A : Nat → Prop), Q = MQ below (QW D rv w' A) args s 0 0 A → CallFix p m c b n s args wt y.cls → meth.sig.returnType = r → meth.locks = false → NS s → va_K D classes (tyl cI cL) s → va_P D classes w s.heap → va_D A w → va_S A s.heap s.heap [] → ∀ ls : Array Slot, lv_has ls n (lv_args 0 as) →
      W p l e (rmd d) s m args below meth c s.heap [] 0 0 Q (F0 m 0 ls [])) : MetW l y b n r d as D cI cL w rv w' := by
  refine Met.ofW (cc := b) (maxL := n) (ret := r) hy rfl ?_
  intro p e s m args below meth c s₁ B hml hv
  obtain ⟨rfl, ⟨hP, hK, hN⟩, hD⟩ := hv
  have hts := atoms_spec (ws := .code y b n r :: wt) B.pre
  have hown : s.vm.findClass y.cls = some m.cls := findClass_of_methodNamed B.named
  have hl := lv_entry as (n := n) hn
  rw [lg_entry_eq]
  exact body p e s m _ below meth c _ _ rfl ⟨B.exec, B.bytes, hml, hown, fun w h => hts w (List.mem_cons_of_mem _ h)⟩ B.returns B.notSynchronized hN hK hP (adr_D hD) va_S.rf _ hl
/-- what the tables say of a call -/
def CV (own : String) (index : Nat) (y : MethodName) (b : ByteArray) (n : Nat) (r : Option FieldType) (na : Nat) : Prop := Cond.code y b n r ∈ wt ∧ Cond.initialized y.cls ∈ wt ∧ Cond.methodLink own index y ∈ wt ∧ Cond.instanceMethod y ∈ wt ∧ Cond.selects y.cls y y ∈ wt ∧ (y.cls ≠ "java/lang/invoke/MethodHandle" ∧ y.cls ≠ "java/lang/invoke/VarHandle" ∧ (parseMethodDescriptor y.desc).map (fun d => d.parameters.length) = some na)
def CT (own : String) (index : Nat) (y : MethodName) (b : ByteArray) (n : Nat) (r : Option FieldType) (na : Nat) : Prop := Cond.code y b n r ∈ wt ∧ Cond.initialized y.cls ∈ wt ∧ Cond.methodLink own index y ∈ wt ∧ Cond.static y ∈ wt ∧ (y.cls ≠ "java/lang/invoke/MethodHandle" ∧ y.cls ≠ "java/lang/invoke/VarHandle" ∧ (parseMethodDescriptor y.desc).map (fun d => d.parameters.length) = some na)
def CM (y : MethodName) (b : ByteArray) (n : Nat) (r : Option FieldType) (na : Nat) : Prop := Cond.code y b n r ∈ wt ∧ Cond.initialized y.cls ∈ wt ∧ Cond.instanceMethod y ∈ wt ∧ Cond.selects y.cls y y ∈ wt ∧ (y.cls ≠ "java/lang/invoke/MethodHandle" ∧ y.cls ≠ "java/lang/invoke/VarHandle" ∧ (parseMethodDescriptor y.desc).map (fun d => d.parameters.length) = some na)
section ZC
variable {p : Program} {l : Launch} {e : Env} {R : Room} {s : State} {m : MethodId} {args : Array Value} {below : List Frame} {meth : Method} {c : Code} {H H0 : Heap} {locs : List Loc} {cells slots : Nat} {Q : State → Prop} {cc : ByteArray} {nL pc : Nat} {ls : Array Slot} {rest st0 : List Value} {D : va_G} {cI cL : ClassId} {A : Nat → Prop}
variable {own : String} {index : Nat} {y : MethodName} {b : ByteArray} {n na d : Nat} {r : Option FieldType} {As : List Value} {w w' : va_W} {v : Int32} {b0 : Nat}
theorem rd_go {a : Array Value} (hr : va_Run p l e R s m args below meth c H locs cells slots 0 0 (F0 m pc ls st0) rest (QcRead v a) (fun _ => False))
    (kk : W p l e R s m args below meth c H locs cells slots Q (F0 m (pc + 3) ls (.int v :: rest))) : W p l e R s m args below meth c H locs cells slots Q (F0 m pc ls st0) := by
  intro T hT X
  obtain ⟨v, st₀, t, T', L, h0, X', hL, e1, -, ⟨hv, hh⟩, st⟩ := hr T hT X
  cases hv
  obtain ⟨t2, a1, b1⟩ := kk T' (by rw [e1, hh, h0]) (Stand.forget X' (fun q h => (hL q h).elim))
  exact ⟨t2, st t2 a1, b1⟩
theorem wr_go {a : Array Value} {rv : Option Value} (hr : va_Run p l e R s m args below meth c H locs cells slots 0 0 (F0 m pc ls st0) rest (QW D rv w' (adr w) a) (adr w)) (hD : va_D A w) (hS : va_S A H0 H locs)
    (kk : ∀ (H1 : Heap) (locs1 : List Loc), va_P D classes w' H1 → va_S A H0 H1 locs1 → (∀ q : Nat, q < H.size → ¬ adr w q → H1[q]? = H[q]?) → W p l e R s m args below meth c H1 locs1 cells slots Q (F0 m (pc + 3) ls (rv.toList ++ rest))) : W p l e R s m args below meth c H locs cells slots Q (F0 m pc ls st0) := by
  intro T hT X
  obtain ⟨v, st₀, t, T', L, h0, X', hL, e1, e2, ⟨hv, hp, hz, hk⟩, st⟩ := hr T hT X
  cases hv
  rw [h0] at hz hk
  have hf := D_adr hD
  obtain ⟨t2, a1, b1⟩ := kk T'.heap (locs ++ L) (by rw [e1]; exact hp)
    ⟨Nat.le_trans hS.1 (by rw [e1]; exact hz), fun q h1 h2 => by rw [e1, hk q (Nat.lt_of_lt_of_le h1 hS.1) (fun z => h2 (hf q z))]; exact hS.2.1 q h1 h2, fun q hq => by
      rcases List.mem_append.mp hq with h | h
      · exact hS.2.2 q h
      · exact hf _ (hL q h)⟩ (fun q h1 h2 => by rw [e1]; exact hk q h1 h2) T' rfl X'
  exact ⟨t2, st t2 a1, b1⟩
theorem cv_W (hw : ∀ w ∈ wt, w.before args s = true) (h : CV own index y b n r na) (hR : d + 1 ≤ R.frames ∧ 8 + (n + 11) + 30 * d ≤ R.locals) : CallW R s args own y.cls index y b n r (.code y b n r :: wt) (rmd d) 0 0 na :=
  ⟨callB_of na hw (wt_gd h.1) rfl rfl rfl (hw _ h.2.1) (hw _ h.2.2.1) h.2.2.2.2.2 hR, hw _ h.2.2.2.1, hw _ h.2.2.2.2.1⟩
theorem ct_W (hw : ∀ w ∈ wt, w.before args s = true) (h : CT own index y b n r na) (hR : d + 1 ≤ R.frames ∧ 8 + (n + 11) + 30 * d ≤ R.locals) : CallB R s args own index y b n r (.code y b n r :: wt) (rmd d) 0 0 na ∧ (Cond.static y).before args s = true :=
  ⟨callB_of na hw (wt_gd h.1) rfl rfl rfl (hw _ h.2.1) (hw _ h.2.2.1) h.2.2.2.2 hR, hw _ h.2.2.2.1⟩
theorem cm_W {host : String} (hw : ∀ w ∈ wt, w.before args s = true) (h : CM y b n r na) (hl : va_Nw (.methodLinkNest own index y host) s) (hR : d + 1 ≤ R.frames ∧ 8 + (n + 11) + 30 * d ≤ R.locals) : va_CN R s args own index y host b n r (.code y b n r :: wt) (rmd d) 0 0 na ∧ (Cond.instanceMethod y).before args s = true ∧ (Cond.selects y.cls y y).before args s = true :=
  ⟨va_cnB na hw (wt_gd h.1) rfl rfl rfl hl (hw _ h.2.1) h.2.2.2.2 hR, hw _ h.2.2.1, hw _ h.2.2.2.1⟩
theorem bl_R {as : List Value} : FrameBlind (va_Pc as (RI D cI cL w)) := fun a U g mk q => ⟨q.1, q.2.1, va_K.moved (u := U) (U := U.calling g mk a) (Vm.Alike.refl U.vm) q.2.2.1, q.2.2.2.call⟩
theorem bl_W {as : List Value} : FrameBlind (va_Pc as (fun U => RI D cI cL w U ∧ va_D (fun _ => True) w)) := fun a U g mk q => ⟨q.1, ⟨q.2.1.1, va_K.moved (u := U) (U := U.calling g mk a) (Vm.Alike.refl U.vm) q.2.1.2.1, q.2.1.2.2.call⟩, q.2.2⟩
theorem at_R {as : List Value} (hP : va_P D classes w H) (hK : va_K D classes (tyl cI cL) s) (hN : NS s) : ∀ U : State, U.heap = H → s.WarmedH U.vm → va_Pc as (RI D cI cL w) as.toArray U := fun U hU hW => ⟨rfl, by rw [hU]; exact hP, va_K.moved hW.alike hK, hN.warm hW⟩
theorem at_W {as : List Value} (hP : va_P D classes w H) (hK : va_K D classes (tyl cI cL) s) (hN : NS s) (hD : va_D A w) : ∀ U : State, U.heap = H → s.WarmedH U.vm → va_Pc as (fun U => RI D cI cL w U ∧ va_D (fun _ => True) w) as.toArray U := fun U hU hW => ⟨rfl, ⟨by rw [hU]; exact hP, va_K.moved hW.alike hK, hN.warm hW⟩, hD.weaken (fun _ _ _ _ => trivial)⟩
/-- a call of a method that writes nothing -/
theorem rdV (S : CallFix p m c cc nL s args wt own) (hv : CV own index y b n r na) (hM : MetR l y b n r d (.ref b0 :: As) D cI cL w v) (hK : va_K D classes (tyl cI cL) s) (hN : NS s) (hP : va_P D classes w H) (hrv : ∃ cell : Cell, H[b0]? = some cell ∧ cell.vm.isStatics = false ∧ s.vm.findClass y.cls = some cell.cls) (hR : d + 1 ≤ R.frames ∧ 8 + (n + 11) + 30 * d ≤ R.locals) (hc : cells ≤ R.cells ∧ slots ≤ R.slots) (hna : As.length = na) (hls : ls.size = nL) (hst : st0 = As.reverse ++ .ref b0 :: rest) (hre : (rest.map fun v => v.category).sum ≤ 8) (hdg : decode cc pc = .ok (.invokevirtual index, 3))
    (kk : W p l e R s m args below meth c H locs cells slots Q (F0 m (pc + 3) ls (.int v :: rest))) : W p l e R s m args below meth c H locs cells slots Q (F0 m pc ls st0) :=
  rd_go (va_runV (g := F0 m pc ls st0) S hM (cv_W S.2.2.2.2 hv hR) ⟨bl_R, hrv, at_R hP hK hN⟩ rfl hna hls hst (lv_room hre) hdg hc) kk
theorem rdS (S : CallFix p m c cc nL s args wt own) (hv : CT own index y b n r na) (hM : MetR l y b n r d As D cI cL w v) (hK : va_K D classes (tyl cI cL) s) (hN : NS s) (hP : va_P D classes w H) (hR : d + 1 ≤ R.frames ∧ 8 + (n + 11) + 30 * d ≤ R.locals) (hc : cells ≤ R.cells ∧ slots ≤ R.slots) (hna : As.length = na) (hls : ls.size = nL) (hst : st0 = As.reverse ++ rest) (hre : (rest.map fun v => v.category).sum ≤ 8) (hdg : decode cc pc = .ok (.invokestatic index, 3))
    (kk : W p l e R s m args below meth c H locs cells slots Q (F0 m (pc + 3) ls (.int v :: rest))) : W p l e R s m args below meth c H locs cells slots Q (F0 m pc ls st0) :=
  rd_go (va_runS (g := F0 m pc ls st0) S hM (ct_W S.2.2.2.2 hv hR) ⟨bl_R, at_R hP hK hN⟩ rfl hna hls hst (lv_room hre) hdg hc) kk
theorem rdN {host : String} (S : CallFix p m c cc nL s args wt own) (hv : CM y b n r na) (hl : va_Nw (.methodLinkNest own index y host) s) (hM : MetR l y b n r d (.ref b0 :: As) D cI cL w v) (hK : va_K D classes (tyl cI cL) s) (hN : NS s) (hP : va_P D classes w H) (hrv : ∃ cell : Cell, H[b0]? = some cell ∧ cell.vm.isStatics = false ∧ s.vm.findClass y.cls = some cell.cls) (hR : d + 1 ≤ R.frames ∧ 8 + (n + 11) + 30 * d ≤ R.locals) (hc : cells ≤ R.cells ∧ slots ≤ R.slots) (hna : As.length = na) (hls : ls.size = nL) (hst : st0 = As.reverse ++ .ref b0 :: rest) (hre : (rest.map fun v => v.category).sum ≤ 8) (hdg : decode cc pc = .ok (.invokevirtual index, 3))
    (kk : W p l e R s m args below meth c H locs cells slots Q (F0 m (pc + 3) ls (.int v :: rest))) : W p l e R s m args below meth c H locs cells slots Q (F0 m pc ls st0) :=
  rd_go (va_runVN (g := F0 m pc ls st0) S hM (cm_W S.2.2.2.2 hv hl hR) ⟨bl_R, hrv, at_R hP hK hN⟩ rfl hna hls hst (lv_room hre) hdg hc) kk
/-- a call of a method that writes in its world, and makes nothing -/
theorem wrV {rv : Option Value} (S : CallFix p m c cc nL s args wt own) (hv : CV own index y b n r na) (hM : MetW l y b n r d (.ref b0 :: As) D cI cL w rv w') (hK : va_K D classes (tyl cI cL) s) (hN : NS s) (hP : va_P D classes w H) (hD : va_D A w) (hS : va_S A H0 H locs) (hrv : ∃ cell : Cell, H[b0]? = some cell ∧ cell.vm.isStatics = false ∧ s.vm.findClass y.cls = some cell.cls) (hR : d + 1 ≤ R.frames ∧ 8 + (n + 11) + 30 * d ≤ R.locals) (hc : cells ≤ R.cells ∧ slots ≤ R.slots) (hna : As.length = na) (hls : ls.size = nL) (hst : st0 = As.reverse ++ .ref b0 :: rest) (hre : (rest.map fun v => v.category).sum ≤ 8) (hdg : decode cc pc = .ok (.invokevirtual index, 3))
    (kk : ∀ (H1 : Heap) (locs1 : List Loc), va_P D classes w' H1 → va_S A H0 H1 locs1 → (∀ q : Nat, q < H.size → ¬ adr w q → H1[q]? = H[q]?) → W p l e R s m args below meth c H1 locs1 cells slots Q (F0 m (pc + 3) ls (rv.toList ++ rest))) : W p l e R s m args below meth c H locs cells slots Q (F0 m pc ls st0) :=
  wr_go (va_runV (g := F0 m pc ls st0) S hM (cv_W S.2.2.2.2 hv hR) ⟨bl_W, hrv, at_W hP hK hN hD⟩ rfl hna hls hst (lv_room hre) hdg hc) hD hS kk
theorem wrN {rv : Option Value} {host : String} (S : CallFix p m c cc nL s args wt own) (hv : CM y b n r na) (hl : va_Nw (.methodLinkNest own index y host) s) (hM : MetW l y b n r d (.ref b0 :: As) D cI cL w rv w') (hK : va_K D classes (tyl cI cL) s) (hN : NS s) (hP : va_P D classes w H) (hD : va_D A w) (hS : va_S A H0 H locs) (hrv : ∃ cell : Cell, H[b0]? = some cell ∧ cell.vm.isStatics = false ∧ s.vm.findClass y.cls = some cell.cls) (hR : d + 1 ≤ R.frames ∧ 8 + (n + 11) + 30 * d ≤ R.locals) (hc : cells ≤ R.cells ∧ slots ≤ R.slots) (hna : As.length = na) (hls : ls.size = nL) (hst : st0 = As.reverse ++ .ref b0 :: rest) (hre : (rest.map fun v => v.category).sum ≤ 8) (hdg : decode cc pc = .ok (.invokevirtual index, 3))
    (kk : ∀ (H1 : Heap) (locs1 : List Loc), va_P D classes w' H1 → va_S A H0 H1 locs1 → (∀ q : Nat, q < H.size → ¬ adr w q → H1[q]? = H[q]?) → W p l e R s m args below meth c H1 locs1 cells slots Q (F0 m (pc + 3) ls (rv.toList ++ rest))) : W p l e R s m args below meth c H locs cells slots Q (F0 m pc ls st0) :=
  wr_go (va_runVN (g := F0 m pc ls st0) S hM (cm_W S.2.2.2.2 hv hl hR) ⟨bl_W, hrv, at_W hP hK hN hD⟩ rfl hna hls hst (lv_room hre) hdg hc) hD hS kk
theorem wrVv (S : CallFix p m c cc nL s args wt own) (hv : CV own index y b n r na) (hM : MetW l y b n r d (.ref b0 :: As) D cI cL w none w') (hK : va_K D classes (tyl cI cL) s) (hN : NS s) (hP : va_P D classes w H) (hD : va_D A w) (hS : va_S A H0 H locs) (hrv : ∃ cell : Cell, H[b0]? = some cell ∧ cell.vm.isStatics = false ∧ s.vm.findClass y.cls = some cell.cls) (hR : d + 1 ≤ R.frames ∧ 8 + (n + 11) + 30 * d ≤ R.locals) (hc : cells ≤ R.cells ∧ slots ≤ R.slots) (hna : As.length = na) (hls : ls.size = nL) (hst : st0 = As.reverse ++ .ref b0 :: rest) (hre : (rest.map fun v => v.category).sum ≤ 8) (hdg : decode cc pc = .ok (.invokevirtual index, 3))
    (kk : ∀ (H1 : Heap) (locs1 : List Loc), va_P D classes w' H1 → va_S A H0 H1 locs1 → (∀ q : Nat, q < H.size → ¬ adr w q → H1[q]? = H[q]?) → W p l e R s m args below meth c H1 locs1 cells slots Q (F0 m (pc + 3) ls rest)) : W p l e R s m args below meth c H locs cells slots Q (F0 m pc ls st0) :=
  wrV S hv hM hK hN hP hD hS hrv hR hc hna hls hst hre hdg kk
theorem wrVi (S : CallFix p m c cc nL s args wt own) (hv : CV own index y b n r na) (hM : MetW l y b n r d (.ref b0 :: As) D cI cL w (some (.int v)) w') (hK : va_K D classes (tyl cI cL) s) (hN : NS s) (hP : va_P D classes w H) (hD : va_D A w) (hS : va_S A H0 H locs) (hrv : ∃ cell : Cell, H[b0]? = some cell ∧ cell.vm.isStatics = false ∧ s.vm.findClass y.cls = some cell.cls) (hR : d + 1 ≤ R.frames ∧ 8 + (n + 11) + 30 * d ≤ R.locals) (hc : cells ≤ R.cells ∧ slots ≤ R.slots) (hna : As.length = na) (hls : ls.size = nL) (hst : st0 = As.reverse ++ .ref b0 :: rest) (hre : (rest.map fun v => v.category).sum ≤ 8) (hdg : decode cc pc = .ok (.invokevirtual index, 3))
    (kk : ∀ (H1 : Heap) (locs1 : List Loc), va_P D classes w' H1 → va_S A H0 H1 locs1 → (∀ q : Nat, q < H.size → ¬ adr w q → H1[q]? = H[q]?) → W p l e R s m args below meth c H1 locs1 cells slots Q (F0 m (pc + 3) ls (.int v :: rest))) : W p l e R s m args below meth c H locs cells slots Q (F0 m pc ls st0) :=
  wrV S hv hM hK hN hP hD hS hrv hR hc hna hls hst hre hdg kk
theorem wrNv {host : String} (S : CallFix p m c cc nL s args wt own) (hv : CM y b n r na) (hl : va_Nw (.methodLinkNest own index y host) s) (hM : MetW l y b n r d (.ref b0 :: As) D cI cL w none w') (hK : va_K D classes (tyl cI cL) s) (hN : NS s) (hP : va_P D classes w H) (hD : va_D A w) (hS : va_S A H0 H locs) (hrv : ∃ cell : Cell, H[b0]? = some cell ∧ cell.vm.isStatics = false ∧ s.vm.findClass y.cls = some cell.cls) (hR : d + 1 ≤ R.frames ∧ 8 + (n + 11) + 30 * d ≤ R.locals) (hc : cells ≤ R.cells ∧ slots ≤ R.slots) (hna : As.length = na) (hls : ls.size = nL) (hst : st0 = As.reverse ++ .ref b0 :: rest) (hre : (rest.map fun v => v.category).sum ≤ 8) (hdg : decode cc pc = .ok (.invokevirtual index, 3))
    (kk : ∀ (H1 : Heap) (locs1 : List Loc), va_P D classes w' H1 → va_S A H0 H1 locs1 → (∀ q : Nat, q < H.size → ¬ adr w q → H1[q]? = H[q]?) → W p l e R s m args below meth c H1 locs1 cells slots Q (F0 m (pc + 3) ls rest)) : W p l e R s m args below meth c H locs cells slots Q (F0 m pc ls st0) :=
  wrN S hv hl hM hK hN hP hD hS hrv hR hc hna hls hst hre hdg kk
/-- the ends of methods -/
theorem rd_ret {x : Int32} (hQ : Q = MQ below (QcRead v) args s 0 0 (fun _ => False)) (S : CallFix p m c cc nL s args wt own) (hr : meth.sig.returnType = some .int) (hlk : meth.locks = false) (hx : x = v) (hdg : decode cc pc = .ok (.ireturn, 1)) : W p l e R s m args below meth c s.heap [] 0 0 Q (F0 m pc ls [.int x]) := by
  subst hQ
  exact W.iret S.1 S.2.1 hr (fun t ht _ => ⟨by rw [hx], ht⟩) (fun q h => nomatch h) hdg hlk
theorem rd_retz {x : Int32} {z : Bool} (hQ : Q = MQ below (QcRead (bI z)) args s 0 0 (fun _ => False)) (S : CallFix p m c cc nL s args wt own) (hr : meth.sig.returnType = some .boolean) (hlk : meth.locks = false) (hx : x = bI z) (hdg : decode cc pc = .ok (.ireturn, 1)) : W p l e R s m args below meth c s.heap [] 0 0 Q (F0 m pc ls [.int x]) := by
  subst hQ
  exact W.zret S.1 S.2.1 hr (by rw [hx]; exact bI_nar z) (fun t ht _ => ⟨by rw [hx], ht⟩) (fun q h => nomatch h) hdg hlk
theorem wr_ret {x : Int32} (hQ : Q = MQ below (QW D (some (.int v)) w' A) args s 0 0 A) (S : CallFix p m c cc nL s args wt own) (hr : meth.sig.returnType = some .int) (hlk : meth.locks = false) (hP : va_P D classes w H) (hS : va_S A s.heap H locs) (hw : w = w') (hx : x = v) (hdg : decode cc pc = .ok (.ireturn, 1)) : W p l e R s m args below meth c H locs 0 0 Q (F0 m pc ls [.int x]) := by
  subst hQ
  subst hw
  exact W.iret S.1 S.2.1 hr (fun t ht _ => ⟨by rw [hx], by rw [ht]; exact hP, hS.F ht⟩) hS.2.2 hdg hlk
theorem wr_retz {x : Int32} {z : Bool} (hQ : Q = MQ below (QW D (some (.int (bI z))) w' A) args s 0 0 A) (S : CallFix p m c cc nL s args wt own) (hr : meth.sig.returnType = some .boolean) (hlk : meth.locks = false) (hP : va_P D classes w H) (hS : va_S A s.heap H locs) (hw : w = w') (hx : x = bI z) (hdg : decode cc pc = .ok (.ireturn, 1)) : W p l e R s m args below meth c H locs 0 0 Q (F0 m pc ls [.int x]) := by
  subst hQ
  subst hw
  exact W.zret S.1 S.2.1 hr (by rw [hx]; exact bI_nar z) (fun t ht _ => ⟨by rw [hx], by rw [ht]; exact hP, hS.F ht⟩) hS.2.2 hdg hlk
theorem wr_retv (hQ : Q = MQ below (QW D none w' A) args s 0 0 A) (S : CallFix p m c cc nL s args wt own) (hr : meth.sig.returnType = none) (hlk : meth.locks = false) (hP : va_P D classes w H) (hS : va_S A s.heap H locs) (hw : w = w') (hdg : decode cc pc = .ok (.return_, 1)) : W p l e R s m args below meth c H locs 0 0 Q (F0 m pc ls []) := by
  subst hQ
  subst hw
  exact W.vret S.1 S.2.1 hr (fun t ht _ => ⟨rfl, by rw [ht]; exact hP, hS.F ht⟩) hS.2.2 hdg hlk
theorem tp {x y : Int32} (h : x = y) (k : W p l e R s m args below meth c H locs cells slots Q (F0 m pc ls (.int y :: rest))) : W p l e R s m args below meth c H locs cells slots Q (F0 m pc ls (.int x :: rest)) := by
  rw [h]
  exact k
end ZC
