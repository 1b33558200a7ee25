/-! the constructors -/
def rmC (f c s : Nat) : Room := { frames := f, cells := c, slots := s, locals := 30 * f }
theorem cA_eq {D : va_G} {cI cL cA : ClassId} {s : State} (h : va_K D classes (tyl cI cL ++ [(cA, .int)]) s) : cA = cI := by
  have h0 : s.vm.findClass ("[" ++ FieldType.int.toString) = some cI := (h.2 0 (cI, .int) rfl).2
  have h2 : s.vm.findClass ("[" ++ FieldType.int.toString) = some cA := (h.2 2 (cA, .int) rfl).2
  exact Option.some.inj (h2.symm.trans h0)
theorem cL_eq {D : va_G} {cI cL cA : ClassId} {s : State} (h : va_K D classes (tyl cI cL ++ [(cA, .object RX0)]) s) : cA = cL := by
  obtain ⟨_, _, _, _, _, h0⟩ := (h.2 1 (cL, .object RX0) rfl).2
  obtain ⟨_, _, _, _, _, h2⟩ := (h.2 2 (cA, .object RX0) rfl).2
  exact Option.some.inj (h2.symm.trans h0)
theorem arrV_cg {c : ClassId} {n : Nat} {f g : Nat → Value} (h : ∀ j, j < n → f j = g j) : arrV c n f = arrV c n g := by
  unfold arrV
  congr 1
  congr 1
  funext j
  exact h j.val j.isLt
/-- an array of references: only its own places matter -/
theorem P_refs {D : va_G} {w1 w2 : va_W} {q n : Nat} {c : ClassId} {f g : Nat → Option Nat} {H : Heap} (h : va_P D classes (w1 ++ (q, .inl (c, n, .inr (.inr (.inr (.inr f))))) :: w2) H) (e : ∀ j, j < n → f j = g j) : va_P D classes (w1 ++ (q, .inl (c, n, .inr (.inr (.inr (.inr g))))) :: w2) H := by
  intro k x hk
  by_cases hlt : k < w1.length
  · rw [List.getElem?_append_left hlt] at hk
    exact h k x (by rw [List.getElem?_append_left hlt]; exact hk)
  · rw [List.getElem?_append_right (by omega)] at hk
    cases hd : k - w1.length with
    | zero =>
      rw [hd] at hk
      cases hk
      have h1 := h k (q, .inl (c, n, .inr (.inr (.inr (.inr f))))) (by rw [List.getElem?_append_right (by omega), hd]; rfl)
      have h2 : H[q]? = some (arrV c n (fun j => va_rf (f j))) := h1
      show H[q]? = some (arrV c n (fun j => va_rf (g j)))
      rw [h2]
      exact congrArg some (arrV_cg fun j hj => by rw [e j hj])
    | succ i =>
      rw [hd] at hk
      exact h k x (by rw [List.getElem?_append_right (by omega), hd]; exact hk)
def w3 (cI : ClassId) (h0 q1 q2 : Nat) : va_W := [(h0, .inr (0, [.ref q1, .ref q2, .int 0])), (q1, .inl (cI, 24, .inl (fun _ => 0))), (q2, .inl (cI, 24, .inl (fun _ => 0)))]
abbrev PC (as : List Value) (D : va_G) (cI cL : ClassId) (w : va_W) (sz : Nat) : Array Value → State → Prop := va_Pc as (fun U => U.heap.size = sz ∧ RI D cI cL w U ∧ va_D (fun _ => True) w)
theorem PC_blind {as : List Value} {D : va_G} {cI cL : ClassId} {w : va_W} {sz : Nat} : FrameBlind (PC as D cI cL w sz) := fun a U g mk q => ⟨q.1, q.2.1, ⟨q.2.2.1.1, va_K.moved (u := U) (U := U.calling g mk a) (Vm.Alike.refl U.vm) q.2.2.1.2.1, q.2.2.1.2.2.call⟩, q.2.2.2⟩
theorem PC_at {as : List Value} {D : va_G} {cI cL : ClassId} {w : va_W} {s : State} {H : Heap} {B : Nat → Prop} (hP : va_P D classes w H) (hK : va_K D classes (tyl cI cL) s) (hN : NS s) (hD : va_D B w) : ∀ U : State, U.heap = H → s.WarmedH U.vm → PC as D cI cL w H.size as.toArray U := fun U hU hW => ⟨rfl, by rw [hU], ⟨by rw [hU]; exact hP, va_K.moved hW.alike hK, hN.warm hW⟩, hD.weaken (fun _ _ _ _ => trivial)⟩
set_option maxHeartbeats 4000000 in
set_option maxRecDepth 100000 in
theorem c_X0_init {l : Launch} {D : va_G} {cI cL : ClassId} (h0 sz : Nat) : Met l yX0_init (.code yX0_init cX0_init 1 none :: wt) (rmC 1 2 48) (PC [.ref h0] D cI cL [(h0, .inr (0, [.null, .null, .int 0]))] sz) (va_Qv (fun _ : Nat × Nat => True) (fun u t => va_P D classes (w3 cI h0 u.1 u.2) t.heap ∧ va_D (va_A [(h0, .inr (0, [.null, .null, .int 0]))] sz) (w3 cI h0 u.1 u.2)) (va_A [(h0, .inr (0, [.null, .null, .int 0]))] sz)) 2 48 (va_A [(h0, .inr (0, [.null, .null, .int 0]))] sz) := by
  refine Met.ofW (cc := cX0_init) (maxL := 1) (ret := none) (by decide) rfl ?_
  intro p e s m args below meth c s₁ B hml hv
  obtain ⟨rfl, hsz, ⟨hP, hK, hN⟩, hD0⟩ := hv
  have hts := atoms_spec (ws := .code yX0_init cX0_init 1 none :: wt) B.pre
  have S : CallFix p m c cX0_init 1 s _ wt RX0 := ⟨B.exec, B.bytes, hml, findClass_of_methodNamed B.named, fun w h => hts w (List.mem_cons_of_mem _ h)⟩
  have hr := B.returns
  have hlk := B.notSynchronized
  have hin : meth.name = "<init>" := (name_of_methodNamed B.named B.method).1
  subst hsz
  have hD := hD0.self (sz := s.heap.size)
  generalize hAe : va_A [(h0, .inr (0, [.null, .null, .int 0]))] s.heap.size = A at hD ⊢
  have hA : ∀ q : Nat, s.heap.size ≤ q → A q := fun q h => by rw [← hAe]; exact Or.inr h
  have hS : va_S A s.heap s.heap [] := va_S.rf
  have hl := lv_entry ([.ref h0]) (n := 1) (Nat.le_of_ble_eq_true rfl)
  rw [lg_entry_eq]
  generalize (lg_sl ([.ref h0]) ++ List.replicate (1 - (lg_sl ([.ref h0])).length) Slot.unset).toArray = ls at hl ⊢
  have hl : lv_has ls 1 [(0, .ref h0)] := hl
  show W p l e (rmC 1 2 48) s m _ below meth c s.heap [] 0 0 _ _
  refine lv_aload_n S.1 S.2.1 dX0_init_0 rfl (lv_at hl 0 rfl) ?_
  refine W.objInit S.1 S.2.1 S.2.2.2.1 (S.2.2.2.2 _ k_18) (S.2.2.2.2 _ k_10) (S.2.2.2.2 _ k_11) rfl (by rw [S.2.2.1]; exact hl.1) rfl dX0_init_1 (Nat.le_of_ble_eq_true rfl) (Nat.le_of_ble_eq_true rfl) ?_
  refine W.eq (g2 := F0 m 4 ls []) rfl ?_
  refine lv_aload_n S.1 S.2.1 dX0_init_4 rfl (lv_at hl 0 rfl) ?_
  refine lv_bipush (v := nI 24) S.1 S.2.1 dX0_init_5 (by decide) ?_
  refine va_newa (D := D) (atype := .int) (a0 := (24, .inl (fun _ => 0))) (ty := .int) (n := nI 24) (N' := 24) S.1 S.2.1 (S.2.2.2.2 _ k_30) rfl hK hP hD hS hA (fun _ => rfl) (by decide) (by decide) (by decide) (Nat.le_of_ble_eq_true rfl) (Nat.le_of_ble_eq_true rfl) dX0_init_7 (fun q1 cA H hK1 hP hD hS => ?_)
  obtain rfl := (cA_eq hK1).symm
  have hP : va_P D classes [(h0, .inr (0, [.null, .null, .int 0])), (q1, .inl (cI, 24, .inl (fun _ => 0)))] H := hP
  have hD : va_D A [(h0, .inr (0, [.null, .null, .int 0])), (q1, .inl (cI, 24, .inl (fun _ => 0)))] := hD
  refine W.widen (k := 1) (n := 24) (Nat.le_of_ble_eq_true rfl) (Nat.le_of_ble_eq_true rfl) ?_
  refine va_putF (D := D) (ci := 0) (v := .ref q1) (ty := (.array .int)) (C := RX0) (T := TX0) (N := 3) S.1 S.2.1 S.2.2.2.2 inX0 tyX0 tyX0_ok nmX0 S.2.2.2.1 hK hP hD hS 0 rfl rfl 0 (by decide) (S.2.2.2.2 _ k_19) (fun _ h9 => h9) rfl hin rfl (by decide +kernel) rfl rfl (Nat.le_of_ble_eq_true rfl) dX0_init_9 (fun H locs hP hD hS => ?_)
  have hP : va_P D classes [(h0, .inr (0, [.ref q1, .null, .int 0])), (q1, .inl (cI, 24, .inl (fun _ => 0)))] H := hP
  have hD : va_D A [(h0, .inr (0, [.ref q1, .null, .int 0])), (q1, .inl (cI, 24, .inl (fun _ => 0)))] := hD
  refine lv_aload_n S.1 S.2.1 dX0_init_12 rfl (lv_at hl 0 rfl) ?_
  refine lv_bipush (v := nI 24) S.1 S.2.1 dX0_init_13 (by decide) ?_
  refine va_newa (D := D) (atype := .int) (a0 := (24, .inl (fun _ => 0))) (ty := .int) (n := nI 24) (N' := 24) S.1 S.2.1 (S.2.2.2.2 _ k_30) rfl hK hP hD hS hA (fun _ => rfl) (by decide) (by decide) (by decide) (Nat.le_of_ble_eq_true rfl) (Nat.le_of_ble_eq_true rfl) dX0_init_15 (fun q2 cA H hK1 hP hD hS => ?_)
  obtain rfl := (cA_eq hK1).symm
  have hP : va_P D classes [(h0, .inr (0, [.ref q1, .null, .int 0])), (q1, .inl (cI, 24, .inl (fun _ => 0))), (q2, .inl (cI, 24, .inl (fun _ => 0)))] H := hP
  have hD : va_D A [(h0, .inr (0, [.ref q1, .null, .int 0])), (q1, .inl (cI, 24, .inl (fun _ => 0))), (q2, .inl (cI, 24, .inl (fun _ => 0)))] := hD
  refine W.widen (k := 2) (n := 48) (Nat.le_of_ble_eq_true rfl) (Nat.le_of_ble_eq_true rfl) ?_
  refine va_putF (D := D) (ci := 0) (v := .ref q2) (ty := (.array .int)) (C := RX0) (T := TX0) (N := 3) S.1 S.2.1 S.2.2.2.2 inX0 tyX0 tyX0_ok nmX0 S.2.2.2.1 hK hP hD hS 0 rfl rfl 1 (by decide) (S.2.2.2.2 _ k_20) (fun _ h9 => h9) rfl hin rfl (by decide +kernel) rfl rfl (Nat.le_of_ble_eq_true rfl) dX0_init_17 (fun H locs hP hD hS => ?_)
  have hP : va_P D classes [(h0, .inr (0, [.ref q1, .ref q2, .int 0])), (q1, .inl (cI, 24, .inl (fun _ => 0))), (q2, .inl (cI, 24, .inl (fun _ => 0)))] H := hP
  have hD : va_D A [(h0, .inr (0, [.ref q1, .ref q2, .int 0])), (q1, .inl (cI, 24, .inl (fun _ => 0))), (q2, .inl (cI, 24, .inl (fun _ => 0)))] := hD
  refine lv_aload_n S.1 S.2.1 dX0_init_20 rfl (lv_at hl 0 rfl) ?_
  refine lv_iconst (v := nI 0) S.1 S.2.1 dX0_init_21 (by decide) ?_
  refine tp (y := 0) (by decide) ?_
  refine va_put (D := D) (ci := 0) (v := .int 0) (ty := .int) (C := RX0) (T := TX0) (N := 3) S.1 S.2.1 S.2.2.2.2 inX0 tyX0 tyX0_ok nmX0 S.2.2.2.1 hK hP hD hS 0 rfl rfl 2 (by decide) (S.2.2.2.2 _ k_21) (fun _ h9 => h9) rfl (by decide +kernel) rfl rfl (Nat.le_of_ble_eq_true rfl) dX0_init_22 (fun H locs hP hD hS => ?_)
  have hP : va_P D classes [(h0, .inr (0, [.ref q1, .ref q2, .int 0])), (q1, .inl (cI, 24, .inl (fun _ => 0))), (q2, .inl (cI, 24, .inl (fun _ => 0)))] H := hP
  have hD : va_D A [(h0, .inr (0, [.ref q1, .ref q2, .int 0])), (q1, .inl (cI, 24, .inl (fun _ => 0))), (q2, .inl (cI, 24, .inl (fun _ => 0)))] := hD
  exact W.vret S.1 S.2.1 hr (fun t ht hW => ⟨⟨(q1, q2), rfl, trivial, by rw [ht]; exact hP, hD⟩, hS.F ht⟩) hS.2.2 dX0_init_25
set_option maxHeartbeats 4000000 in
set_option maxRecDepth 100000 in
theorem c_X2_init {l : Launch} {D : va_G} {cI cL : ClassId} (h0 sz : Nat) : Met l yX2_init (.code yX2_init cX2_init 1 none :: wt) (rmC 1 5 324) (PC [.ref h0] D cI cL [(h0, .inr (2, [.int 0, .null, .null, .null, .null, .int 0, .null]))] sz) (va_Qv (fun _ : Nat → Nat => True) (fun u t => u 0 = h0 ∧ va_P D classes (MDw cI u 1 0 (fun _ => 0) (fun _ => 0) (fun _ => 0) (fun _ => 0) (fun _ => 0)) t.heap ∧ va_D (va_A [(h0, .inr (2, [.int 0, .null, .null, .null, .null, .int 0, .null]))] sz) (MDw cI u 1 0 (fun _ => 0) (fun _ => 0) (fun _ => 0) (fun _ => 0) (fun _ => 0))) (va_A [(h0, .inr (2, [.int 0, .null, .null, .null, .null, .int 0, .null]))] sz)) 5 324 (va_A [(h0, .inr (2, [.int 0, .null, .null, .null, .null, .int 0, .null]))] sz) := by
  refine Met.ofW (cc := cX2_init) (maxL := 1) (ret := none) (by decide) rfl ?_
  intro p e s m args below meth c s₁ B hml hv
  obtain ⟨rfl, hsz, ⟨hP, hK, hN⟩, hD0⟩ := hv
  have hts := atoms_spec (ws := .code yX2_init cX2_init 1 none :: wt) B.pre
  have S : CallFix p m c cX2_init 1 s _ wt RX2 := ⟨B.exec, B.bytes, hml, findClass_of_methodNamed B.named, fun w h => hts w (List.mem_cons_of_mem _ h)⟩
  have hr := B.returns
  have hlk := B.notSynchronized
  have hin : meth.name = "<init>" := (name_of_methodNamed B.named B.method).1
  subst hsz
  have hD := hD0.self (sz := s.heap.size)
  generalize hAe : va_A [(h0, .inr (2, [.int 0, .null, .null, .null, .null, .int 0, .null]))] s.heap.size = A at hD ⊢
  have hA : ∀ q : Nat, s.heap.size ≤ q → A q := fun q h => by rw [← hAe]; exact Or.inr h
  have hS : va_S A s.heap s.heap [] := va_S.rf
  have hl := lv_entry ([.ref h0]) (n := 1) (Nat.le_of_ble_eq_true rfl)
  rw [lg_entry_eq]
  generalize (lg_sl ([.ref h0]) ++ List.replicate (1 - (lg_sl ([.ref h0])).length) Slot.unset).toArray = ls at hl ⊢
  have hl : lv_has ls 1 [(0, .ref h0)] := hl
  show W p l e (rmC 1 5 324) s m _ below meth c s.heap [] 0 0 _ _
  refine lv_aload_n S.1 S.2.1 dX2_init_0 rfl (lv_at hl 0 rfl) ?_
  refine W.objInit S.1 S.2.1 S.2.2.2.1 (S.2.2.2.2 _ k_193) (S.2.2.2.2 _ k_10) (S.2.2.2.2 _ k_11) rfl (by rw [S.2.2.1]; exact hl.1) rfl dX2_init_1 (Nat.le_of_ble_eq_true rfl) (Nat.le_of_ble_eq_true rfl) ?_
  refine W.eq (g2 := F0 m 4 ls []) rfl ?_
  refine lv_aload_n S.1 S.2.1 dX2_init_4 rfl (lv_at hl 0 rfl) ?_
  refine lv_iconst (v := nI 1) S.1 S.2.1 dX2_init_5 (by decide) ?_
  refine va_put (D := D) (ci := 2) (v := .int (nI 1)) (ty := .int) (C := RX2) (T := TX2) (N := 7) S.1 S.2.1 S.2.2.2.2 inX2 tyX2 tyX2_ok nmX2 S.2.2.2.1 hK hP hD hS 0 rfl rfl 0 (by decide) (S.2.2.2.2 _ k_194) (fun _ h9 => h9) rfl (by decide +kernel) rfl rfl (Nat.le_of_ble_eq_true rfl) dX2_init_6 (fun H locs hP hD hS => ?_)
  have hP : va_P D classes [(h0, .inr (2, [.int (nI 1), .null, .null, .null, .null, .int 0, .null]))] H := hP
  have hD : va_D A [(h0, .inr (2, [.int (nI 1), .null, .null, .null, .null, .int 0, .null]))] := hD
  refine lv_aload_n S.1 S.2.1 dX2_init_9 rfl (lv_at hl 0 rfl) ?_
  refine lv_iconst (v := nI 4) S.1 S.2.1 dX2_init_10 (by decide) ?_
  refine va_newa (D := D) (atype := .int) (a0 := (4, .inl (fun _ => 0))) (ty := .int) (n := nI 4) (N' := 4) S.1 S.2.1 (S.2.2.2.2 _ k_30) rfl hK hP hD hS hA (fun _ => rfl) (by decide) (by decide) (by decide) (Nat.le_of_ble_eq_true rfl) (Nat.le_of_ble_eq_true rfl) dX2_init_11 (fun q1 cA H hK1 hP hD hS => ?_)
  obtain rfl := (cA_eq hK1).symm
  have hP : va_P D classes [(h0, .inr (2, [.int (nI 1), .null, .null, .null, .null, .int 0, .null])), (q1, .inl (cI, 4, .inl (fun _ => 0)))] H := hP
  have hD : va_D A [(h0, .inr (2, [.int (nI 1), .null, .null, .null, .null, .int 0, .null])), (q1, .inl (cI, 4, .inl (fun _ => 0)))] := hD
  refine W.widen (k := 1) (n := 4) (Nat.le_of_ble_eq_true rfl) (Nat.le_of_ble_eq_true rfl) ?_
  refine va_putF (D := D) (ci := 2) (v := .ref q1) (ty := (.array .int)) (C := RX2) (T := TX2) (N := 7) S.1 S.2.1 S.2.2.2.2 inX2 tyX2 tyX2_ok nmX2 S.2.2.2.1 hK hP hD hS 0 rfl rfl 1 (by decide) (S.2.2.2.2 _ k_195) (fun _ h9 => h9) rfl hin rfl (by decide +kernel) rfl rfl (Nat.le_of_ble_eq_true rfl) dX2_init_13 (fun H locs hP hD hS => ?_)
  have hP : va_P D classes [(h0, .inr (2, [.int (nI 1), .ref q1, .null, .null, .null, .int 0, .null])), (q1, .inl (cI, 4, .inl (fun _ => 0)))] H := hP
  have hD : va_D A [(h0, .inr (2, [.int (nI 1), .ref q1, .null, .null, .null, .int 0, .null])), (q1, .inl (cI, 4, .inl (fun _ => 0)))] := hD
  refine lv_aload_n S.1 S.2.1 dX2_init_16 rfl (lv_at hl 0 rfl) ?_
  refine lv_bipush (v := nI 96) S.1 S.2.1 dX2_init_17 (by decide) ?_
  refine va_newa (D := D) (atype := .int) (a0 := (96, .inl (fun _ => 0))) (ty := .int) (n := nI 96) (N' := 96) S.1 S.2.1 (S.2.2.2.2 _ k_30) rfl hK hP hD hS hA (fun _ => rfl) (by decide) (by decide) (by decide) (Nat.le_of_ble_eq_true rfl) (Nat.le_of_ble_eq_true rfl) dX2_init_19 (fun q2 cA H hK1 hP hD hS => ?_)
  obtain rfl := (cA_eq hK1).symm
  have hP : va_P D classes [(h0, .inr (2, [.int (nI 1), .ref q1, .null, .null, .null, .int 0, .null])), (q1, .inl (cI, 4, .inl (fun _ => 0))), (q2, .inl (cI, 96, .inl (fun _ => 0)))] H := hP
  have hD : va_D A [(h0, .inr (2, [.int (nI 1), .ref q1, .null, .null, .null, .int 0, .null])), (q1, .inl (cI, 4, .inl (fun _ => 0))), (q2, .inl (cI, 96, .inl (fun _ => 0)))] := hD
  refine W.widen (k := 2) (n := 100) (Nat.le_of_ble_eq_true rfl) (Nat.le_of_ble_eq_true rfl) ?_
  refine va_putF (D := D) (ci := 2) (v := .ref q2) (ty := (.array .int)) (C := RX2) (T := TX2) (N := 7) S.1 S.2.1 S.2.2.2.2 inX2 tyX2 tyX2_ok nmX2 S.2.2.2.1 hK hP hD hS 0 rfl rfl 2 (by decide) (S.2.2.2.2 _ k_196) (fun _ h9 => h9) rfl hin rfl (by decide +kernel) rfl rfl (Nat.le_of_ble_eq_true rfl) dX2_init_21 (fun H locs hP hD hS => ?_)
  have hP : va_P D classes [(h0, .inr (2, [.int (nI 1), .ref q1, .ref q2, .null, .null, .int 0, .null])), (q1, .inl (cI, 4, .inl (fun _ => 0))), (q2, .inl (cI, 96, .inl (fun _ => 0)))] H := hP
  have hD : va_D A [(h0, .inr (2, [.int (nI 1), .ref q1, .ref q2, .null, .null, .int 0, .null])), (q1, .inl (cI, 4, .inl (fun _ => 0))), (q2, .inl (cI, 96, .inl (fun _ => 0)))] := hD
  refine lv_aload_n S.1 S.2.1 dX2_init_24 rfl (lv_at hl 0 rfl) ?_
  refine lv_bipush (v := nI 96) S.1 S.2.1 dX2_init_25 (by decide) ?_
  refine va_newa (D := D) (atype := .int) (a0 := (96, .inl (fun _ => 0))) (ty := .int) (n := nI 96) (N' := 96) S.1 S.2.1 (S.2.2.2.2 _ k_30) rfl hK hP hD hS hA (fun _ => rfl) (by decide) (by decide) (by decide) (Nat.le_of_ble_eq_true rfl) (Nat.le_of_ble_eq_true rfl) dX2_init_27 (fun q3 cA H hK1 hP hD hS => ?_)
  obtain rfl := (cA_eq hK1).symm
  have hP : va_P D classes [(h0, .inr (2, [.int (nI 1), .ref q1, .ref q2, .null, .null, .int 0, .null])), (q1, .inl (cI, 4, .inl (fun _ => 0))), (q2, .inl (cI, 96, .inl (fun _ => 0))), (q3, .inl (cI, 96, .inl (fun _ => 0)))] H := hP
  have hD : va_D A [(h0, .inr (2, [.int (nI 1), .ref q1, .ref q2, .null, .null, .int 0, .null])), (q1, .inl (cI, 4, .inl (fun _ => 0))), (q2, .inl (cI, 96, .inl (fun _ => 0))), (q3, .inl (cI, 96, .inl (fun _ => 0)))] := hD
  refine W.widen (k := 3) (n := 196) (Nat.le_of_ble_eq_true rfl) (Nat.le_of_ble_eq_true rfl) ?_
  refine va_putF (D := D) (ci := 2) (v := .ref q3) (ty := (.array .int)) (C := RX2) (T := TX2) (N := 7) S.1 S.2.1 S.2.2.2.2 inX2 tyX2 tyX2_ok nmX2 S.2.2.2.1 hK hP hD hS 0 rfl rfl 3 (by decide) (S.2.2.2.2 _ k_197) (fun _ h9 => h9) rfl hin rfl (by decide +kernel) rfl rfl (Nat.le_of_ble_eq_true rfl) dX2_init_29 (fun H locs hP hD hS => ?_)
  have hP : va_P D classes [(h0, .inr (2, [.int (nI 1), .ref q1, .ref q2, .ref q3, .null, .int 0, .null])), (q1, .inl (cI, 4, .inl (fun _ => 0))), (q2, .inl (cI, 96, .inl (fun _ => 0))), (q3, .inl (cI, 96, .inl (fun _ => 0)))] H := hP
  have hD : va_D A [(h0, .inr (2, [.int (nI 1), .ref q1, .ref q2, .ref q3, .null, .int 0, .null])), (q1, .inl (cI, 4, .inl (fun _ => 0))), (q2, .inl (cI, 96, .inl (fun _ => 0))), (q3, .inl (cI, 96, .inl (fun _ => 0)))] := hD
  refine lv_aload_n S.1 S.2.1 dX2_init_32 rfl (lv_at hl 0 rfl) ?_
  refine lv_bipush (v := nI 64) S.1 S.2.1 dX2_init_33 (by decide) ?_
  refine va_newa (D := D) (atype := .int) (a0 := (64, .inl (fun _ => 0))) (ty := .int) (n := nI 64) (N' := 64) S.1 S.2.1 (S.2.2.2.2 _ k_30) rfl hK hP hD hS hA (fun _ => rfl) (by decide) (by decide) (by decide) (Nat.le_of_ble_eq_true rfl) (Nat.le_of_ble_eq_true rfl) dX2_init_35 (fun q4 cA H hK1 hP hD hS => ?_)
  obtain rfl := (cA_eq hK1).symm
  have hP : va_P D classes [(h0, .inr (2, [.int (nI 1), .ref q1, .ref q2, .ref q3, .null, .int 0, .null])), (q1, .inl (cI, 4, .inl (fun _ => 0))), (q2, .inl (cI, 96, .inl (fun _ => 0))), (q3, .inl (cI, 96, .inl (fun _ => 0))), (q4, .inl (cI, 64, .inl (fun _ => 0)))] H := hP
  have hD : va_D A [(h0, .inr (2, [.int (nI 1), .ref q1, .ref q2, .ref q3, .null, .int 0, .null])), (q1, .inl (cI, 4, .inl (fun _ => 0))), (q2, .inl (cI, 96, .inl (fun _ => 0))), (q3, .inl (cI, 96, .inl (fun _ => 0))), (q4, .inl (cI, 64, .inl (fun _ => 0)))] := hD
  refine W.widen (k := 4) (n := 260) (Nat.le_of_ble_eq_true rfl) (Nat.le_of_ble_eq_true rfl) ?_
  refine va_putF (D := D) (ci := 2) (v := .ref q4) (ty := (.array .int)) (C := RX2) (T := TX2) (N := 7) S.1 S.2.1 S.2.2.2.2 inX2 tyX2 tyX2_ok nmX2 S.2.2.2.1 hK hP hD hS 0 rfl rfl 4 (by decide) (S.2.2.2.2 _ k_198) (fun _ h9 => h9) rfl hin rfl (by decide +kernel) rfl rfl (Nat.le_of_ble_eq_true rfl) dX2_init_37 (fun H locs hP hD hS => ?_)
  have hP : va_P D classes [(h0, .inr (2, [.int (nI 1), .ref q1, .ref q2, .ref q3, .ref q4, .int 0, .null])), (q1, .inl (cI, 4, .inl (fun _ => 0))), (q2, .inl (cI, 96, .inl (fun _ => 0))), (q3, .inl (cI, 96, .inl (fun _ => 0))), (q4, .inl (cI, 64, .inl (fun _ => 0)))] H := hP
  have hD : va_D A [(h0, .inr (2, [.int (nI 1), .ref q1, .ref q2, .ref q3, .ref q4, .int 0, .null])), (q1, .inl (cI, 4, .inl (fun _ => 0))), (q2, .inl (cI, 96, .inl (fun _ => 0))), (q3, .inl (cI, 96, .inl (fun _ => 0))), (q4, .inl (cI, 64, .inl (fun _ => 0)))] := hD
  refine lv_aload_n S.1 S.2.1 dX2_init_40 rfl (lv_at hl 0 rfl) ?_
  refine lv_bipush (v := nI 64) S.1 S.2.1 dX2_init_41 (by decide) ?_
  refine va_newa (D := D) (atype := .int) (a0 := (64, .inl (fun _ => 0))) (ty := .int) (n := nI 64) (N' := 64) S.1 S.2.1 (S.2.2.2.2 _ k_30) rfl hK hP hD hS hA (fun _ => rfl) (by decide) (by decide) (by decide) (Nat.le_of_ble_eq_true rfl) (Nat.le_of_ble_eq_true rfl) dX2_init_43 (fun q5 cA H hK1 hP hD hS => ?_)
  obtain rfl := (cA_eq hK1).symm
  have hP : va_P D classes [(h0, .inr (2, [.int (nI 1), .ref q1, .ref q2, .ref q3, .ref q4, .int 0, .null])), (q1, .inl (cI, 4, .inl (fun _ => 0))), (q2, .inl (cI, 96, .inl (fun _ => 0))), (q3, .inl (cI, 96, .inl (fun _ => 0))), (q4, .inl (cI, 64, .inl (fun _ => 0))), (q5, .inl (cI, 64, .inl (fun _ => 0)))] H := hP
  have hD : va_D A [(h0, .inr (2, [.int (nI 1), .ref q1, .ref q2, .ref q3, .ref q4, .int 0, .null])), (q1, .inl (cI, 4, .inl (fun _ => 0))), (q2, .inl (cI, 96, .inl (fun _ => 0))), (q3, .inl (cI, 96, .inl (fun _ => 0))), (q4, .inl (cI, 64, .inl (fun _ => 0))), (q5, .inl (cI, 64, .inl (fun _ => 0)))] := hD
  refine W.widen (k := 5) (n := 324) (Nat.le_of_ble_eq_true rfl) (Nat.le_of_ble_eq_true rfl) ?_
  refine va_putF (D := D) (ci := 2) (v := .ref q5) (ty := (.array .int)) (C := RX2) (T := TX2) (N := 7) S.1 S.2.1 S.2.2.2.2 inX2 tyX2 tyX2_ok nmX2 S.2.2.2.1 hK hP hD hS 0 rfl rfl 6 (by decide) (S.2.2.2.2 _ k_200) (fun _ h9 => h9) rfl hin rfl (by decide +kernel) rfl rfl (Nat.le_of_ble_eq_true rfl) dX2_init_45 (fun H locs hP hD hS => ?_)
  have hP : va_P D classes [(h0, .inr (2, [.int (nI 1), .ref q1, .ref q2, .ref q3, .ref q4, .int 0, .ref q5])), (q1, .inl (cI, 4, .inl (fun _ => 0))), (q2, .inl (cI, 96, .inl (fun _ => 0))), (q3, .inl (cI, 96, .inl (fun _ => 0))), (q4, .inl (cI, 64, .inl (fun _ => 0))), (q5, .inl (cI, 64, .inl (fun _ => 0)))] H := hP
  have hD : va_D A [(h0, .inr (2, [.int (nI 1), .ref q1, .ref q2, .ref q3, .ref q4, .int 0, .ref q5])), (q1, .inl (cI, 4, .inl (fun _ => 0))), (q2, .inl (cI, 96, .inl (fun _ => 0))), (q3, .inl (cI, 96, .inl (fun _ => 0))), (q4, .inl (cI, 64, .inl (fun _ => 0))), (q5, .inl (cI, 64, .inl (fun _ => 0)))] := hD
  exact W.vret S.1 S.2.1 hr (fun t ht hW => ⟨⟨(fun k => [h0, q1, q2, q3, q4, q5].getD k 0), rfl, trivial, rfl, by rw [ht]; exact hP, hD⟩, hS.F ht⟩) hS.2.2 dX2_init_48
set_option maxHeartbeats 4000000 in
set_option maxRecDepth 100000 in
theorem c_X1_init {l : Launch} {D : va_G} {cI cL : ClassId} (h0 sz : Nat) : Met l yX1_init (.code yX1_init cX1_init 2 none :: wt) (rmC 2 14 272) (PC [.ref h0] D cI cL [(h0, .inr (1, [.null, .null, .int 0, .int 0, .int 0, .int 0]))] sz) (va_Qv (fun _ : Nat → Nat => True) (fun u t => u 0 = h0 ∧ va_P D classes (RPw cI cL u (fun _ => 0) false 1 0 0 (fun _ => 0) (fun _ _ => 0) (fun _ _ => 0)) t.heap ∧ va_D (va_A [(h0, .inr (1, [.null, .null, .int 0, .int 0, .int 0, .int 0]))] sz) (RPw cI cL u (fun _ => 0) false 1 0 0 (fun _ => 0) (fun _ _ => 0) (fun _ _ => 0))) (va_A [(h0, .inr (1, [.null, .null, .int 0, .int 0, .int 0, .int 0]))] sz)) 14 272 (va_A [(h0, .inr (1, [.null, .null, .int 0, .int 0, .int 0, .int 0]))] sz) := by
  refine Met.ofW (cc := cX1_init) (maxL := 2) (ret := none) (by decide) rfl ?_
  intro p e s m args below meth c s₁ B hml hv
  obtain ⟨rfl, hsz, ⟨hP, hK, hN⟩, hD0⟩ := hv
  have hts := atoms_spec (ws := .code yX1_init cX1_init 2 none :: wt) B.pre
  have S : CallFix p m c cX1_init 2 s _ wt RX1 := ⟨B.exec, B.bytes, hml, findClass_of_methodNamed B.named, fun w h => hts w (List.mem_cons_of_mem _ h)⟩
  have hr := B.returns
  have hlk := B.notSynchronized
  have hin : meth.name = "<init>" := (name_of_methodNamed B.named B.method).1
  subst hsz
  have hD := hD0.self (sz := s.heap.size)
  generalize hAe : va_A [(h0, .inr (1, [.null, .null, .int 0, .int 0, .int 0, .int 0]))] s.heap.size = A at hD ⊢
  have hA : ∀ q : Nat, s.heap.size ≤ q → A q := fun q h => by rw [← hAe]; exact Or.inr h
  have hS : va_S A s.heap s.heap [] := va_S.rf
  have hl := lv_entry ([.ref h0]) (n := 2) (Nat.le_of_ble_eq_true rfl)
  rw [lg_entry_eq]
  generalize (lg_sl ([.ref h0]) ++ List.replicate (2 - (lg_sl ([.ref h0])).length) Slot.unset).toArray = ls at hl ⊢
  have hl : lv_has ls 2 [(0, .ref h0)] := hl
  show W p l e (rmC 2 14 272) s m _ below meth c s.heap [] 0 0 _ _
  refine lv_aload_n S.1 S.2.1 dX1_init_0 rfl (lv_at hl 0 rfl) ?_
  refine W.objInit S.1 S.2.1 S.2.2.2.1 (S.2.2.2.2 _ k_9) (S.2.2.2.2 _ k_10) (S.2.2.2.2 _ k_11) rfl (by rw [S.2.2.1]; exact hl.1) rfl dX1_init_1 (Nat.le_of_ble_eq_true rfl) (Nat.le_of_ble_eq_true rfl) ?_
  refine W.eq (g2 := F0 m 4 ls []) rfl ?_
  refine lv_aload_n S.1 S.2.1 dX1_init_4 rfl (lv_at hl 0 rfl) ?_
  refine lv_iconst (v := nI 4) S.1 S.2.1 dX1_init_5 (by decide) ?_
  refine va_newq (D := D) (n := nI 4) (N' := 4) (C := RX0) S.1 S.2.1 S.2.2.2.1 (S.2.2.2.2 _ k_12) hN.2.2.2.2.2.2.2 hK hP hD hS hA (by decide) (by decide) (by decide) (Nat.le_of_ble_eq_true rfl) (Nat.le_of_ble_eq_true rfl) dX1_init_6 (fun qa cA H hK1 hP hD hS => ?_)
  obtain rfl := (cL_eq hK1).symm
  have hP : va_P D classes [(h0, .inr (1, [.null, .null, .int 0, .int 0, .int 0, .int 0])), (qa, .inl (cL, 4, .inr (.inr (.inr (.inr (fun _ => none))))))] H := hP
  have hD : va_D A [(h0, .inr (1, [.null, .null, .int 0, .int 0, .int 0, .int 0])), (qa, .inl (cL, 4, .inr (.inr (.inr (.inr (fun _ => none))))))] := hD
  refine W.widen (k := 1) (n := 4) (Nat.le_of_ble_eq_true rfl) (Nat.le_of_ble_eq_true rfl) ?_
  refine va_putF (D := D) (ci := 1) (v := .ref qa) (ty := (.array (.object "ReachProver$ClauseList"))) (C := RX1) (T := TX1) (N := 6) S.1 S.2.1 S.2.2.2.2 inX1 tyX1 tyX1_ok nmX1 S.2.2.2.1 hK hP hD hS 0 rfl rfl 0 (by decide) (S.2.2.2.2 _ k_31) (fun _ h9 => h9) rfl hin rfl (by decide +kernel) rfl rfl (Nat.le_of_ble_eq_true rfl) dX1_init_9 (fun H locs hP hD hS => ?_)
  have hP : va_P D classes [(h0, .inr (1, [.ref qa, .null, .int 0, .int 0, .int 0, .int 0])), (qa, .inl (cL, 4, .inr (.inr (.inr (.inr (fun _ => none))))))] H := hP
  have hD : va_D A [(h0, .inr (1, [.ref qa, .null, .int 0, .int 0, .int 0, .int 0])), (qa, .inl (cL, 4, .inr (.inr (.inr (.inr (fun _ => none))))))] := hD
  refine lv_iconst (v := nI 0) S.1 S.2.1 dX1_init_12 (by decide) ?_
  refine lv_istore_n (lv' := [(1, .int (nI 0)), (0, .ref h0)]) S.1 S.2.1 dX1_init_13 rfl hl (by decide) rfl (fun ls hl => ?_)
  refine lv_iload_n S.1 S.2.1 dX1_init_14 rfl (lv_at hl 0 rfl) ?_
  refine lv_iconst (v := nI 4) S.1 S.2.1 dX1_init_15 (by decide) ?_
  refine lv_icmp_ge (tgt := 38) S.1 S.2.1 dX1_init_16 (by decide) (fun hh => absurd hh (by decide)) (fun _ => ?_)
  refine lv_aload_n S.1 S.2.1 dX1_init_19 rfl (lv_at hl 1 rfl) ?_
  refine va_get (D := D) (ci := 1) (v := .ref qa) (C := RX1) (T := TX1) (N := 6) S.1 S.2.1 S.2.2.2.2 inX1 S.2.2.2.1 hK hP 0 rfl rfl 0 (by decide) (S.2.2.2.2 _ k_31) (fun _ h9 => h9) rfl dX1_init_20 ?_
  refine lv_iload_n S.1 S.2.1 dX1_init_23 rfl (lv_at hl 0 rfl) ?_
  refine va_new (D := D) (ci := 0) (fs := [.null, .null, .int 0]) (C := RX0) (T := TX0) (N := 3) S.1 S.2.1 S.2.2.2.2 inX0 tyX0 tyX0_ok S.2.2.2.1 (S.2.2.2.2 _ k_12) (S.2.2.2.2 _ k_14) (S.2.2.2.2 _ k_2) hK hP hD hS hA rfl (fun j hj => by rcases (show j = 0 ∨ j = 1 ∨ j = 2 by omega) with rfl | rfl | rfl <;> rfl) (Nat.le_of_ble_eq_true rfl) (Nat.le_of_ble_eq_true rfl) dX1_init_24 (fun c0 H hP hD hS => ?_)
  have hP : va_P D classes [(h0, .inr (1, [.ref qa, .null, .int 0, .int 0, .int 0, .int 0])), (qa, .inl (cL, 4, .inr (.inr (.inr (.inr (fun _ => none)))))), (c0, .inr (0, [.null, .null, .int 0]))] H := hP
  have hD : va_D A [(h0, .inr (1, [.ref qa, .null, .int 0, .int 0, .int 0, .int 0])), (qa, .inl (cL, 4, .inr (.inr (.inr (.inr (fun _ => none)))))), (c0, .inr (0, [.null, .null, .int 0]))] := hD
  refine W.widen (k := 2) (n := 7) (Nat.le_of_ble_eq_true rfl) (Nat.le_of_ble_eq_true rfl) ?_
  refine lv_dup S.1 S.2.1 dX1_init_27 rfl ?_
  have hPc := hP.sub (ws' := [(c0, .inr (0, [.null, .null, .int 0]))]) [2] rfl
  have hDc := hD.sub (ws' := [(c0, .inr (0, [.null, .null, .int 0]))]) [2] (by decide) rfl
  have hFc := va_free (wc := [(c0, .inr (0, [.null, .null, .int 0]))]) hD hS hA [2] rfl
  refine va_callv (va_runIN (As := []) (b := c0) (rest := [.ref c0, .int (nI 0), .ref qa]) (g := F0 m 28 ls [.ref c0, .ref c0, .int (nI 0), .ref qa]) S (c_X0_init (l := l) (D := D) (cI := cI) (cL := cL) c0 H.size) ⟨va_cnB 0 S.2.2.2.2 (wt_gd k_17) rfl rfl rfl hN.1 (S.2.2.2.2 _ k_2) (by decide +kernel) ⟨Nat.le_of_ble_eq_true rfl, Nat.le_of_ble_eq_true rfl⟩, rfl, S.2.2.2.2 _ k_16⟩ ⟨PC_blind, PC_at hPc hK hN hDc⟩ rfl rfl hl.1 rfl (lv_room (Nat.le_of_ble_eq_true rfl)) dX1_init_28 ⟨Nat.le_of_ble_eq_true rfl, Nat.le_of_ble_eq_true rfl⟩) hS (fun q _ h => hFc q h) hFc (fun u t H1 locs ht hvm hw hB hz1 hk1 hS => ?_)
  obtain ⟨p0, m0⟩ := u
  obtain ⟨hP1, hD1⟩ := hB
  rw [ht] at hP1
  obtain ⟨hP, hD⟩ := va_join (wr := [(h0, .inr (1, [.ref qa, .null, .int 0, .int 0, .int 0, .int 0])), (qa, .inl (cL, 4, .inr (.inr (.inr (.inr (fun _ => none))))))]) (w1 := (w3 cI c0 p0 m0)) hP hD [2] [0, 1] rfl rfl (by decide) (by decide) hk1 hFc hP1 hD1
  generalize H1 = H at hP hS ⊢
  have hP : va_P D classes [(h0, .inr (1, [.ref qa, .null, .int 0, .int 0, .int 0, .int 0])), (qa, .inl (cL, 4, .inr (.inr (.inr (.inr (fun _ => none)))))), (c0, .inr (0, [.ref p0, .ref m0, .int 0])), (p0, .inl (cI, 24, .inl (fun _ => 0))), (m0, .inl (cI, 24, .inl (fun _ => 0)))] H := hP
  have hD : va_D A [(h0, .inr (1, [.ref qa, .null, .int 0, .int 0, .int 0, .int 0])), (qa, .inl (cL, 4, .inr (.inr (.inr (.inr (fun _ => none)))))), (c0, .inr (0, [.ref p0, .ref m0, .int 0])), (p0, .inl (cI, 24, .inl (fun _ => 0))), (m0, .inl (cI, 24, .inl (fun _ => 0)))] := hD
  refine W.widen (k := 4) (n := 55) (Nat.le_of_ble_eq_true rfl) (Nat.le_of_ble_eq_true rfl) ?_
  refine va_astq (D := D) S.1 S.2.1 hK hP hD hS 1 1 2 0 (r := (RX0, TX0, 3)) rfl rfl rfl rfl (i := nI 0) (vp_in_nI (n := 0) (by decide) (by decide)) dX1_init_31 (fun H locs hP hD hS => ?_)
  have hP : va_P D classes [(h0, .inr (1, [.ref qa, .null, .int 0, .int 0, .int 0, .int 0])), (qa, .inl (cL, 4, .inr (.inr (.inr (.inr (va_up (fun _ => none) 0 (some c0))))))), (c0, .inr (0, [.ref p0, .ref m0, .int 0])), (p0, .inl (cI, 24, .inl (fun _ => 0))), (m0, .inl (cI, 24, .inl (fun _ => 0)))] H := hP
  have hD : va_D A [(h0, .inr (1, [.ref qa, .null, .int 0, .int 0, .int 0, .int 0])), (qa, .inl (cL, 4, .inr (.inr (.inr (.inr (va_up (fun _ => none) 0 (some c0))))))), (c0, .inr (0, [.ref p0, .ref m0, .int 0])), (p0, .inl (cI, 24, .inl (fun _ => 0))), (m0, .inl (cI, 24, .inl (fun _ => 0)))] := hD
  refine lv_iinc (v := nI 1) (lv' := [(1, .int (nI 1)), (0, .ref h0)]) S.1 S.2.1 dX1_init_32 hl (k := 0) rfl (by decide) (by decide) rfl (fun ls hl => ?_)
  refine lv_goto (tgt := 14) S.1 S.2.1 dX1_init_35 (by decide) ?_
  refine lv_iload_n S.1 S.2.1 dX1_init_14 rfl (lv_at hl 0 rfl) ?_
  refine lv_iconst (v := nI 4) S.1 S.2.1 dX1_init_15 (by decide) ?_
  refine lv_icmp_ge (tgt := 38) S.1 S.2.1 dX1_init_16 (by decide) (fun hh => absurd hh (by decide)) (fun _ => ?_)
  refine lv_aload_n S.1 S.2.1 dX1_init_19 rfl (lv_at hl 1 rfl) ?_
  refine va_get (D := D) (ci := 1) (v := .ref qa) (C := RX1) (T := TX1) (N := 6) S.1 S.2.1 S.2.2.2.2 inX1 S.2.2.2.1 hK hP 0 rfl rfl 0 (by decide) (S.2.2.2.2 _ k_31) (fun _ h9 => h9) rfl dX1_init_20 ?_
  refine lv_iload_n S.1 S.2.1 dX1_init_23 rfl (lv_at hl 0 rfl) ?_
  refine va_new (D := D) (ci := 0) (fs := [.null, .null, .int 0]) (C := RX0) (T := TX0) (N := 3) S.1 S.2.1 S.2.2.2.2 inX0 tyX0 tyX0_ok S.2.2.2.1 (S.2.2.2.2 _ k_12) (S.2.2.2.2 _ k_14) (S.2.2.2.2 _ k_2) hK hP hD hS hA rfl (fun j hj => by rcases (show j = 0 ∨ j = 1 ∨ j = 2 by omega) with rfl | rfl | rfl <;> rfl) (Nat.le_of_ble_eq_true rfl) (Nat.le_of_ble_eq_true rfl) dX1_init_24 (fun c1 H hP hD hS => ?_)
  have hP : va_P D classes [(h0, .inr (1, [.ref qa, .null, .int 0, .int 0, .int 0, .int 0])), (qa, .inl (cL, 4, .inr (.inr (.inr (.inr (va_up (fun _ => none) 0 (some c0))))))), (c0, .inr (0, [.ref p0, .ref m0, .int 0])), (p0, .inl (cI, 24, .inl (fun _ => 0))), (m0, .inl (cI, 24, .inl (fun _ => 0))), (c1, .inr (0, [.null, .null, .int 0]))] H := hP
  have hD : va_D A [(h0, .inr (1, [.ref qa, .null, .int 0, .int 0, .int 0, .int 0])), (qa, .inl (cL, 4, .inr (.inr (.inr (.inr (va_up (fun _ => none) 0 (some c0))))))), (c0, .inr (0, [.ref p0, .ref m0, .int 0])), (p0, .inl (cI, 24, .inl (fun _ => 0))), (m0, .inl (cI, 24, .inl (fun _ => 0))), (c1, .inr (0, [.null, .null, .int 0]))] := hD
  refine W.widen (k := 5) (n := 58) (Nat.le_of_ble_eq_true rfl) (Nat.le_of_ble_eq_true rfl) ?_
  refine lv_dup S.1 S.2.1 dX1_init_27 rfl ?_
  have hPc := hP.sub (ws' := [(c1, .inr (0, [.null, .null, .int 0]))]) [5] rfl
  have hDc := hD.sub (ws' := [(c1, .inr (0, [.null, .null, .int 0]))]) [5] (by decide) rfl
  have hFc := va_free (wc := [(c1, .inr (0, [.null, .null, .int 0]))]) hD hS hA [5] rfl
  refine va_callv (va_runIN (As := []) (b := c1) (rest := [.ref c1, .int (nI 1), .ref qa]) (g := F0 m 28 ls [.ref c1, .ref c1, .int (nI 1), .ref qa]) S (c_X0_init (l := l) (D := D) (cI := cI) (cL := cL) c1 H.size) ⟨va_cnB 0 S.2.2.2.2 (wt_gd k_17) rfl rfl rfl hN.1 (S.2.2.2.2 _ k_2) (by decide +kernel) ⟨Nat.le_of_ble_eq_true rfl, Nat.le_of_ble_eq_true rfl⟩, rfl, S.2.2.2.2 _ k_16⟩ ⟨PC_blind, PC_at hPc hK hN hDc⟩ rfl rfl hl.1 rfl (lv_room (Nat.le_of_ble_eq_true rfl)) dX1_init_28 ⟨Nat.le_of_ble_eq_true rfl, Nat.le_of_ble_eq_true rfl⟩) hS (fun q _ h => hFc q h) hFc (fun u t H1 locs ht hvm hw hB hz1 hk1 hS => ?_)
  obtain ⟨p1, m1⟩ := u
  obtain ⟨hP1, hD1⟩ := hB
  rw [ht] at hP1
  obtain ⟨hP, hD⟩ := va_join (wr := [(h0, .inr (1, [.ref qa, .null, .int 0, .int 0, .int 0, .int 0])), (qa, .inl (cL, 4, .inr (.inr (.inr (.inr (va_up (fun _ => none) 0 (some c0))))))), (c0, .inr (0, [.ref p0, .ref m0, .int 0])), (p0, .inl (cI, 24, .inl (fun _ => 0))), (m0, .inl (cI, 24, .inl (fun _ => 0)))]) (w1 := (w3 cI c1 p1 m1)) hP hD [5] [0, 1, 2, 3, 4] rfl rfl (by decide) (by decide) hk1 hFc hP1 hD1
  generalize H1 = H at hP hS ⊢
  have hP : va_P D classes [(h0, .inr (1, [.ref qa, .null, .int 0, .int 0, .int 0, .int 0])), (qa, .inl (cL, 4, .inr (.inr (.inr (.inr (va_up (fun _ => none) 0 (some c0))))))), (c0, .inr (0, [.ref p0, .ref m0, .int 0])), (p0, .inl (cI, 24, .inl (fun _ => 0))), (m0, .inl (cI, 24, .inl (fun _ => 0))), (c1, .inr (0, [.ref p1, .ref m1, .int 0])), (p1, .inl (cI, 24, .inl (fun _ => 0))), (m1, .inl (cI, 24, .inl (fun _ => 0)))] H := hP
  have hD : va_D A [(h0, .inr (1, [.ref qa, .null, .int 0, .int 0, .int 0, .int 0])), (qa, .inl (cL, 4, .inr (.inr (.inr (.inr (va_up (fun _ => none) 0 (some c0))))))), (c0, .inr (0, [.ref p0, .ref m0, .int 0])), (p0, .inl (cI, 24, .inl (fun _ => 0))), (m0, .inl (cI, 24, .inl (fun _ => 0))), (c1, .inr (0, [.ref p1, .ref m1, .int 0])), (p1, .inl (cI, 24, .inl (fun _ => 0))), (m1, .inl (cI, 24, .inl (fun _ => 0)))] := hD
  refine W.widen (k := 7) (n := 106) (Nat.le_of_ble_eq_true rfl) (Nat.le_of_ble_eq_true rfl) ?_
  refine va_astq (D := D) S.1 S.2.1 hK hP hD hS 1 1 5 0 (r := (RX0, TX0, 3)) rfl rfl rfl rfl (i := nI 1) (vp_in_nI (n := 1) (by decide) (by decide)) dX1_init_31 (fun H locs hP hD hS => ?_)
  have hP : va_P D classes [(h0, .inr (1, [.ref qa, .null, .int 0, .int 0, .int 0, .int 0])), (qa, .inl (cL, 4, .inr (.inr (.inr (.inr (va_up (va_up (fun _ => none) 0 (some c0)) 1 (some c1))))))), (c0, .inr (0, [.ref p0, .ref m0, .int 0])), (p0, .inl (cI, 24, .inl (fun _ => 0))), (m0, .inl (cI, 24, .inl (fun _ => 0))), (c1, .inr (0, [.ref p1, .ref m1, .int 0])), (p1, .inl (cI, 24, .inl (fun _ => 0))), (m1, .inl (cI, 24, .inl (fun _ => 0)))] H := hP
  have hD : va_D A [(h0, .inr (1, [.ref qa, .null, .int 0, .int 0, .int 0, .int 0])), (qa, .inl (cL, 4, .inr (.inr (.inr (.inr (va_up (va_up (fun _ => none) 0 (some c0)) 1 (some c1))))))), (c0, .inr (0, [.ref p0, .ref m0, .int 0])), (p0, .inl (cI, 24, .inl (fun _ => 0))), (m0, .inl (cI, 24, .inl (fun _ => 0))), (c1, .inr (0, [.ref p1, .ref m1, .int 0])), (p1, .inl (cI, 24, .inl (fun _ => 0))), (m1, .inl (cI, 24, .inl (fun _ => 0)))] := hD
  refine lv_iinc (v := nI 2) (lv' := [(1, .int (nI 2)), (0, .ref h0)]) S.1 S.2.1 dX1_init_32 hl (k := 0) rfl (by decide) (by decide) rfl (fun ls hl => ?_)
  refine lv_goto (tgt := 14) S.1 S.2.1 dX1_init_35 (by decide) ?_
  refine lv_iload_n S.1 S.2.1 dX1_init_14 rfl (lv_at hl 0 rfl) ?_
  refine lv_iconst (v := nI 4) S.1 S.2.1 dX1_init_15 (by decide) ?_
  refine lv_icmp_ge (tgt := 38) S.1 S.2.1 dX1_init_16 (by decide) (fun hh => absurd hh (by decide)) (fun _ => ?_)
  refine lv_aload_n S.1 S.2.1 dX1_init_19 rfl (lv_at hl 1 rfl) ?_
  refine va_get (D := D) (ci := 1) (v := .ref qa) (C := RX1) (T := TX1) (N := 6) S.1 S.2.1 S.2.2.2.2 inX1 S.2.2.2.1 hK hP 0 rfl rfl 0 (by decide) (S.2.2.2.2 _ k_31) (fun _ h9 => h9) rfl dX1_init_20 ?_
  refine lv_iload_n S.1 S.2.1 dX1_init_23 rfl (lv_at hl 0 rfl) ?_
  refine va_new (D := D) (ci := 0) (fs := [.null, .null, .int 0]) (C := RX0) (T := TX0) (N := 3) S.1 S.2.1 S.2.2.2.2 inX0 tyX0 tyX0_ok S.2.2.2.1 (S.2.2.2.2 _ k_12) (S.2.2.2.2 _ k_14) (S.2.2.2.2 _ k_2) hK hP hD hS hA rfl (fun j hj => by rcases (show j = 0 ∨ j = 1 ∨ j = 2 by omega) with rfl | rfl | rfl <;> rfl) (Nat.le_of_ble_eq_true rfl) (Nat.le_of_ble_eq_true rfl) dX1_init_24 (fun c2 H hP hD hS => ?_)
  have hP : va_P D classes [(h0, .inr (1, [.ref qa, .null, .int 0, .int 0, .int 0, .int 0])), (qa, .inl (cL, 4, .inr (.inr (.inr (.inr (va_up (va_up (fun _ => none) 0 (some c0)) 1 (some c1))))))), (c0, .inr (0, [.ref p0, .ref m0, .int 0])), (p0, .inl (cI, 24, .inl (fun _ => 0))), (m0, .inl (cI, 24, .inl (fun _ => 0))), (c1, .inr (0, [.ref p1, .ref m1, .int 0])), (p1, .inl (cI, 24, .inl (fun _ => 0))), (m1, .inl (cI, 24, .inl (fun _ => 0))), (c2, .inr (0, [.null, .null, .int 0]))] H := hP
  have hD : va_D A [(h0, .inr (1, [.ref qa, .null, .int 0, .int 0, .int 0, .int 0])), (qa, .inl (cL, 4, .inr (.inr (.inr (.inr (va_up (va_up (fun _ => none) 0 (some c0)) 1 (some c1))))))), (c0, .inr (0, [.ref p0, .ref m0, .int 0])), (p0, .inl (cI, 24, .inl (fun _ => 0))), (m0, .inl (cI, 24, .inl (fun _ => 0))), (c1, .inr (0, [.ref p1, .ref m1, .int 0])), (p1, .inl (cI, 24, .inl (fun _ => 0))), (m1, .inl (cI, 24, .inl (fun _ => 0))), (c2, .inr (0, [.null, .null, .int 0]))] := hD
  refine W.widen (k := 8) (n := 109) (Nat.le_of_ble_eq_true rfl) (Nat.le_of_ble_eq_true rfl) ?_
  refine lv_dup S.1 S.2.1 dX1_init_27 rfl ?_
  have hPc := hP.sub (ws' := [(c2, .inr (0, [.null, .null, .int 0]))]) [8] rfl
  have hDc := hD.sub (ws' := [(c2, .inr (0, [.null, .null, .int 0]))]) [8] (by decide) rfl
  have hFc := va_free (wc := [(c2, .inr (0, [.null, .null, .int 0]))]) hD hS hA [8] rfl
  refine va_callv (va_runIN (As := []) (b := c2) (rest := [.ref c2, .int (nI 2), .ref qa]) (g := F0 m 28 ls [.ref c2, .ref c2, .int (nI 2), .ref qa]) S (c_X0_init (l := l) (D := D) (cI := cI) (cL := cL) c2 H.size) ⟨va_cnB 0 S.2.2.2.2 (wt_gd k_17) rfl rfl rfl hN.1 (S.2.2.2.2 _ k_2) (by decide +kernel) ⟨Nat.le_of_ble_eq_true rfl, Nat.le_of_ble_eq_true rfl⟩, rfl, S.2.2.2.2 _ k_16⟩ ⟨PC_blind, PC_at hPc hK hN hDc⟩ rfl rfl hl.1 rfl (lv_room (Nat.le_of_ble_eq_true rfl)) dX1_init_28 ⟨Nat.le_of_ble_eq_true rfl, Nat.le_of_ble_eq_true rfl⟩) hS (fun q _ h => hFc q h) hFc (fun u t H1 locs ht hvm hw hB hz1 hk1 hS => ?_)
  obtain ⟨p2, m2⟩ := u
  obtain ⟨hP1, hD1⟩ := hB
  rw [ht] at hP1
  obtain ⟨hP, hD⟩ := va_join (wr := [(h0, .inr (1, [.ref qa, .null, .int 0, .int 0, .int 0, .int 0])), (qa, .inl (cL, 4, .inr (.inr (.inr (.inr (va_up (va_up (fun _ => none) 0 (some c0)) 1 (some c1))))))), (c0, .inr (0, [.ref p0, .ref m0, .int 0])), (p0, .inl (cI, 24, .inl (fun _ => 0))), (m0, .inl (cI, 24, .inl (fun _ => 0))), (c1, .inr (0, [.ref p1, .ref m1, .int 0])), (p1, .inl (cI, 24, .inl (fun _ => 0))), (m1, .inl (cI, 24, .inl (fun _ => 0)))]) (w1 := (w3 cI c2 p2 m2)) hP hD [8] [0, 1, 2, 3, 4, 5, 6, 7] rfl rfl (by decide) (by decide) hk1 hFc hP1 hD1
  generalize H1 = H at hP hS ⊢
  have hP : va_P D classes [(h0, .inr (1, [.ref qa, .null, .int 0, .int 0, .int 0, .int 0])), (qa, .inl (cL, 4, .inr (.inr (.inr (.inr (va_up (va_up (fun _ => none) 0 (some c0)) 1 (some c1))))))), (c0, .inr (0, [.ref p0, .ref m0, .int 0])), (p0, .inl (cI, 24, .inl (fun _ => 0))), (m0, .inl (cI, 24, .inl (fun _ => 0))), (c1, .inr (0, [.ref p1, .ref m1, .int 0])), (p1, .inl (cI, 24, .inl (fun _ => 0))), (m1, .inl (cI, 24, .inl (fun _ => 0))), (c2, .inr (0, [.ref p2, .ref m2, .int 0])), (p2, .inl (cI, 24, .inl (fun _ => 0))), (m2, .inl (cI, 24, .inl (fun _ => 0)))] H := hP
  have hD : va_D A [(h0, .inr (1, [.ref qa, .null, .int 0, .int 0, .int 0, .int 0])), (qa, .inl (cL, 4, .inr (.inr (.inr (.inr (va_up (va_up (fun _ => none) 0 (some c0)) 1 (some c1))))))), (c0, .inr (0, [.ref p0, .ref m0, .int 0])), (p0, .inl (cI, 24, .inl (fun _ => 0))), (m0, .inl (cI, 24, .inl (fun _ => 0))), (c1, .inr (0, [.ref p1, .ref m1, .int 0])), (p1, .inl (cI, 24, .inl (fun _ => 0))), (m1, .inl (cI, 24, .inl (fun _ => 0))), (c2, .inr (0, [.ref p2, .ref m2, .int 0])), (p2, .inl (cI, 24, .inl (fun _ => 0))), (m2, .inl (cI, 24, .inl (fun _ => 0)))] := hD
  refine W.widen (k := 10) (n := 157) (Nat.le_of_ble_eq_true rfl) (Nat.le_of_ble_eq_true rfl) ?_
  refine va_astq (D := D) S.1 S.2.1 hK hP hD hS 1 1 8 0 (r := (RX0, TX0, 3)) rfl rfl rfl rfl (i := nI 2) (vp_in_nI (n := 2) (by decide) (by decide)) dX1_init_31 (fun H locs hP hD hS => ?_)
  have hP : va_P D classes [(h0, .inr (1, [.ref qa, .null, .int 0, .int 0, .int 0, .int 0])), (qa, .inl (cL, 4, .inr (.inr (.inr (.inr (va_up (va_up (va_up (fun _ => none) 0 (some c0)) 1 (some c1)) 2 (some c2))))))), (c0, .inr (0, [.ref p0, .ref m0, .int 0])), (p0, .inl (cI, 24, .inl (fun _ => 0))), (m0, .inl (cI, 24, .inl (fun _ => 0))), (c1, .inr (0, [.ref p1, .ref m1, .int 0])), (p1, .inl (cI, 24, .inl (fun _ => 0))), (m1, .inl (cI, 24, .inl (fun _ => 0))), (c2, .inr (0, [.ref p2, .ref m2, .int 0])), (p2, .inl (cI, 24, .inl (fun _ => 0))), (m2, .inl (cI, 24, .inl (fun _ => 0)))] H := hP
  have hD : va_D A [(h0, .inr (1, [.ref qa, .null, .int 0, .int 0, .int 0, .int 0])), (qa, .inl (cL, 4, .inr (.inr (.inr (.inr (va_up (va_up (va_up (fun _ => none) 0 (some c0)) 1 (some c1)) 2 (some c2))))))), (c0, .inr (0, [.ref p0, .ref m0, .int 0])), (p0, .inl (cI, 24, .inl (fun _ => 0))), (m0, .inl (cI, 24, .inl (fun _ => 0))), (c1, .inr (0, [.ref p1, .ref m1, .int 0])), (p1, .inl (cI, 24, .inl (fun _ => 0))), (m1, .inl (cI, 24, .inl (fun _ => 0))), (c2, .inr (0, [.ref p2, .ref m2, .int 0])), (p2, .inl (cI, 24, .inl (fun _ => 0))), (m2, .inl (cI, 24, .inl (fun _ => 0)))] := hD
  refine lv_iinc (v := nI 3) (lv' := [(1, .int (nI 3)), (0, .ref h0)]) S.1 S.2.1 dX1_init_32 hl (k := 0) rfl (by decide) (by decide) rfl (fun ls hl => ?_)
  refine lv_goto (tgt := 14) S.1 S.2.1 dX1_init_35 (by decide) ?_
  refine lv_iload_n S.1 S.2.1 dX1_init_14 rfl (lv_at hl 0 rfl) ?_
  refine lv_iconst (v := nI 4) S.1 S.2.1 dX1_init_15 (by decide) ?_
  refine lv_icmp_ge (tgt := 38) S.1 S.2.1 dX1_init_16 (by decide) (fun hh => absurd hh (by decide)) (fun _ => ?_)
  refine lv_aload_n S.1 S.2.1 dX1_init_19 rfl (lv_at hl 1 rfl) ?_
  refine va_get (D := D) (ci := 1) (v := .ref qa) (C := RX1) (T := TX1) (N := 6) S.1 S.2.1 S.2.2.2.2 inX1 S.2.2.2.1 hK hP 0 rfl rfl 0 (by decide) (S.2.2.2.2 _ k_31) (fun _ h9 => h9) rfl dX1_init_20 ?_
  refine lv_iload_n S.1 S.2.1 dX1_init_23 rfl (lv_at hl 0 rfl) ?_
  refine va_new (D := D) (ci := 0) (fs := [.null, .null, .int 0]) (C := RX0) (T := TX0) (N := 3) S.1 S.2.1 S.2.2.2.2 inX0 tyX0 tyX0_ok S.2.2.2.1 (S.2.2.2.2 _ k_12) (S.2.2.2.2 _ k_14) (S.2.2.2.2 _ k_2) hK hP hD hS hA rfl (fun j hj => by rcases (show j = 0 ∨ j = 1 ∨ j = 2 by omega) with rfl | rfl | rfl <;> rfl) (Nat.le_of_ble_eq_true rfl) (Nat.le_of_ble_eq_true rfl) dX1_init_24 (fun c3 H hP hD hS => ?_)
  have hP : va_P D classes [(h0, .inr (1, [.ref qa, .null, .int 0, .int 0, .int 0, .int 0])), (qa, .inl (cL, 4, .inr (.inr (.inr (.inr (va_up (va_up (va_up (fun _ => none) 0 (some c0)) 1 (some c1)) 2 (some c2))))))), (c0, .inr (0, [.ref p0, .ref m0, .int 0])), (p0, .inl (cI, 24, .inl (fun _ => 0))), (m0, .inl (cI, 24, .inl (fun _ => 0))), (c1, .inr (0, [.ref p1, .ref m1, .int 0])), (p1, .inl (cI, 24, .inl (fun _ => 0))), (m1, .inl (cI, 24, .inl (fun _ => 0))), (c2, .inr (0, [.ref p2, .ref m2, .int 0])), (p2, .inl (cI, 24, .inl (fun _ => 0))), (m2, .inl (cI, 24, .inl (fun _ => 0))), (c3, .inr (0, [.null, .null, .int 0]))] H := hP
  have hD : va_D A [(h0, .inr (1, [.ref qa, .null, .int 0, .int 0, .int 0, .int 0])), (qa, .inl (cL, 4, .inr (.inr (.inr (.inr (va_up (va_up (va_up (fun _ => none) 0 (some c0)) 1 (some c1)) 2 (some c2))))))), (c0, .inr (0, [.ref p0, .ref m0, .int 0])), (p0, .inl (cI, 24, .inl (fun _ => 0))), (m0, .inl (cI, 24, .inl (fun _ => 0))), (c1, .inr (0, [.ref p1, .ref m1, .int 0])), (p1, .inl (cI, 24, .inl (fun _ => 0))), (m1, .inl (cI, 24, .inl (fun _ => 0))), (c2, .inr (0, [.ref p2, .ref m2, .int 0])), (p2, .inl (cI, 24, .inl (fun _ => 0))), (m2, .inl (cI, 24, .inl (fun _ => 0))), (c3, .inr (0, [.null, .null, .int 0]))] := hD
  refine W.widen (k := 11) (n := 160) (Nat.le_of_ble_eq_true rfl) (Nat.le_of_ble_eq_true rfl) ?_
  refine lv_dup S.1 S.2.1 dX1_init_27 rfl ?_
  have hPc := hP.sub (ws' := [(c3, .inr (0, [.null, .null, .int 0]))]) [11] rfl
  have hDc := hD.sub (ws' := [(c3, .inr (0, [.null, .null, .int 0]))]) [11] (by decide) rfl
  have hFc := va_free (wc := [(c3, .inr (0, [.null, .null, .int 0]))]) hD hS hA [11] rfl
  refine va_callv (va_runIN (As := []) (b := c3) (rest := [.ref c3, .int (nI 3), .ref qa]) (g := F0 m 28 ls [.ref c3, .ref c3, .int (nI 3), .ref qa]) S (c_X0_init (l := l) (D := D) (cI := cI) (cL := cL) c3 H.size) ⟨va_cnB 0 S.2.2.2.2 (wt_gd k_17) rfl rfl rfl hN.1 (S.2.2.2.2 _ k_2) (by decide +kernel) ⟨Nat.le_of_ble_eq_true rfl, Nat.le_of_ble_eq_true rfl⟩, rfl, S.2.2.2.2 _ k_16⟩ ⟨PC_blind, PC_at hPc hK hN hDc⟩ rfl rfl hl.1 rfl (lv_room (Nat.le_of_ble_eq_true rfl)) dX1_init_28 ⟨Nat.le_of_ble_eq_true rfl, Nat.le_of_ble_eq_true rfl⟩) hS (fun q _ h => hFc q h) hFc (fun u t H1 locs ht hvm hw hB hz1 hk1 hS => ?_)
  obtain ⟨p3, m3⟩ := u
  obtain ⟨hP1, hD1⟩ := hB
  rw [ht] at hP1
  obtain ⟨hP, hD⟩ := va_join (wr := [(h0, .inr (1, [.ref qa, .null, .int 0, .int 0, .int 0, .int 0])), (qa, .inl (cL, 4, .inr (.inr (.inr (.inr (va_up (va_up (va_up (fun _ => none) 0 (some c0)) 1 (some c1)) 2 (some c2))))))), (c0, .inr (0, [.ref p0, .ref m0, .int 0])), (p0, .inl (cI, 24, .inl (fun _ => 0))), (m0, .inl (cI, 24, .inl (fun _ => 0))), (c1, .inr (0, [.ref p1, .ref m1, .int 0])), (p1, .inl (cI, 24, .inl (fun _ => 0))), (m1, .inl (cI, 24, .inl (fun _ => 0))), (c2, .inr (0, [.ref p2, .ref m2, .int 0])), (p2, .inl (cI, 24, .inl (fun _ => 0))), (m2, .inl (cI, 24, .inl (fun _ => 0)))]) (w1 := (w3 cI c3 p3 m3)) hP hD [11] [0, 1, 2, 3, 4, 5, 6, 7, 8, 9, 10] rfl rfl (by decide) (by decide) hk1 hFc hP1 hD1
  generalize H1 = H at hP hS ⊢
  have hP : va_P D classes [(h0, .inr (1, [.ref qa, .null, .int 0, .int 0, .int 0, .int 0])), (qa, .inl (cL, 4, .inr (.inr (.inr (.inr (va_up (va_up (va_up (fun _ => none) 0 (some c0)) 1 (some c1)) 2 (some c2))))))), (c0, .inr (0, [.ref p0, .ref m0, .int 0])), (p0, .inl (cI, 24, .inl (fun _ => 0))), (m0, .inl (cI, 24, .inl (fun _ => 0))), (c1, .inr (0, [.ref p1, .ref m1, .int 0])), (p1, .inl (cI, 24, .inl (fun _ => 0))), (m1, .inl (cI, 24, .inl (fun _ => 0))), (c2, .inr (0, [.ref p2, .ref m2, .int 0])), (p2, .inl (cI, 24, .inl (fun _ => 0))), (m2, .inl (cI, 24, .inl (fun _ => 0))), (c3, .inr (0, [.ref p3, .ref m3, .int 0])), (p3, .inl (cI, 24, .inl (fun _ => 0))), (m3, .inl (cI, 24, .inl (fun _ => 0)))] H := hP
  have hD : va_D A [(h0, .inr (1, [.ref qa, .null, .int 0, .int 0, .int 0, .int 0])), (qa, .inl (cL, 4, .inr (.inr (.inr (.inr (va_up (va_up (va_up (fun _ => none) 0 (some c0)) 1 (some c1)) 2 (some c2))))))), (c0, .inr (0, [.ref p0, .ref m0, .int 0])), (p0, .inl (cI, 24, .inl (fun _ => 0))), (m0, .inl (cI, 24, .inl (fun _ => 0))), (c1, .inr (0, [.ref p1, .ref m1, .int 0])), (p1, .inl (cI, 24, .inl (fun _ => 0))), (m1, .inl (cI, 24, .inl (fun _ => 0))), (c2, .inr (0, [.ref p2, .ref m2, .int 0])), (p2, .inl (cI, 24, .inl (fun _ => 0))), (m2, .inl (cI, 24, .inl (fun _ => 0))), (c3, .inr (0, [.ref p3, .ref m3, .int 0])), (p3, .inl (cI, 24, .inl (fun _ => 0))), (m3, .inl (cI, 24, .inl (fun _ => 0)))] := hD
  refine W.widen (k := 13) (n := 208) (Nat.le_of_ble_eq_true rfl) (Nat.le_of_ble_eq_true rfl) ?_
  refine va_astq (D := D) S.1 S.2.1 hK hP hD hS 1 1 11 0 (r := (RX0, TX0, 3)) rfl rfl rfl rfl (i := nI 3) (vp_in_nI (n := 3) (by decide) (by decide)) dX1_init_31 (fun H locs hP hD hS => ?_)
  have hP : va_P D classes [(h0, .inr (1, [.ref qa, .null, .int 0, .int 0, .int 0, .int 0])), (qa, .inl (cL, 4, .inr (.inr (.inr (.inr (va_up (va_up (va_up (va_up (fun _ => none) 0 (some c0)) 1 (some c1)) 2 (some c2)) 3 (some c3))))))), (c0, .inr (0, [.ref p0, .ref m0, .int 0])), (p0, .inl (cI, 24, .inl (fun _ => 0))), (m0, .inl (cI, 24, .inl (fun _ => 0))), (c1, .inr (0, [.ref p1, .ref m1, .int 0])), (p1, .inl (cI, 24, .inl (fun _ => 0))), (m1, .inl (cI, 24, .inl (fun _ => 0))), (c2, .inr (0, [.ref p2, .ref m2, .int 0])), (p2, .inl (cI, 24, .inl (fun _ => 0))), (m2, .inl (cI, 24, .inl (fun _ => 0))), (c3, .inr (0, [.ref p3, .ref m3, .int 0])), (p3, .inl (cI, 24, .inl (fun _ => 0))), (m3, .inl (cI, 24, .inl (fun _ => 0)))] H := hP
  have hD : va_D A [(h0, .inr (1, [.ref qa, .null, .int 0, .int 0, .int 0, .int 0])), (qa, .inl (cL, 4, .inr (.inr (.inr (.inr (va_up (va_up (va_up (va_up (fun _ => none) 0 (some c0)) 1 (some c1)) 2 (some c2)) 3 (some c3))))))), (c0, .inr (0, [.ref p0, .ref m0, .int 0])), (p0, .inl (cI, 24, .inl (fun _ => 0))), (m0, .inl (cI, 24, .inl (fun _ => 0))), (c1, .inr (0, [.ref p1, .ref m1, .int 0])), (p1, .inl (cI, 24, .inl (fun _ => 0))), (m1, .inl (cI, 24, .inl (fun _ => 0))), (c2, .inr (0, [.ref p2, .ref m2, .int 0])), (p2, .inl (cI, 24, .inl (fun _ => 0))), (m2, .inl (cI, 24, .inl (fun _ => 0))), (c3, .inr (0, [.ref p3, .ref m3, .int 0])), (p3, .inl (cI, 24, .inl (fun _ => 0))), (m3, .inl (cI, 24, .inl (fun _ => 0)))] := hD
  refine lv_iinc (v := nI 4) (lv' := [(1, .int (nI 4)), (0, .ref h0)]) S.1 S.2.1 dX1_init_32 hl (k := 0) rfl (by decide) (by decide) rfl (fun ls hl => ?_)
  refine lv_goto (tgt := 14) S.1 S.2.1 dX1_init_35 (by decide) ?_
  refine lv_iload_n S.1 S.2.1 dX1_init_14 rfl (lv_at hl 0 rfl) ?_
  refine lv_iconst (v := nI 4) S.1 S.2.1 dX1_init_15 (by decide) ?_
  refine lv_icmp_ge (tgt := 38) S.1 S.2.1 dX1_init_16 (by decide) (fun _ => ?_) (fun hh => absurd (by decide) hh)
  refine lv_aload_n S.1 S.2.1 dX1_init_38 rfl (lv_at hl 1 rfl) ?_
  refine lv_bipush (v := nI 64) S.1 S.2.1 dX1_init_39 (by decide) ?_
  refine va_newa (D := D) (atype := .int) (a0 := (64, .inl (fun _ => 0))) (ty := .int) (n := nI 64) (N' := 64) S.1 S.2.1 (S.2.2.2.2 _ k_30) rfl hK hP hD hS hA (fun _ => rfl) (by decide) (by decide) (by decide) (Nat.le_of_ble_eq_true rfl) (Nat.le_of_ble_eq_true rfl) dX1_init_41 (fun qd cA H hK1 hP hD hS => ?_)
  obtain rfl := (cA_eq hK1).symm
  have hP : va_P D classes [(h0, .inr (1, [.ref qa, .null, .int 0, .int 0, .int 0, .int 0])), (qa, .inl (cL, 4, .inr (.inr (.inr (.inr (va_up (va_up (va_up (va_up (fun _ => none) 0 (some c0)) 1 (some c1)) 2 (some c2)) 3 (some c3))))))), (c0, .inr (0, [.ref p0, .ref m0, .int 0])), (p0, .inl (cI, 24, .inl (fun _ => 0))), (m0, .inl (cI, 24, .inl (fun _ => 0))), (c1, .inr (0, [.ref p1, .ref m1, .int 0])), (p1, .inl (cI, 24, .inl (fun _ => 0))), (m1, .inl (cI, 24, .inl (fun _ => 0))), (c2, .inr (0, [.ref p2, .ref m2, .int 0])), (p2, .inl (cI, 24, .inl (fun _ => 0))), (m2, .inl (cI, 24, .inl (fun _ => 0))), (c3, .inr (0, [.ref p3, .ref m3, .int 0])), (p3, .inl (cI, 24, .inl (fun _ => 0))), (m3, .inl (cI, 24, .inl (fun _ => 0))), (qd, .inl (cI, 64, .inl (fun _ => 0)))] H := hP
  have hD : va_D A [(h0, .inr (1, [.ref qa, .null, .int 0, .int 0, .int 0, .int 0])), (qa, .inl (cL, 4, .inr (.inr (.inr (.inr (va_up (va_up (va_up (va_up (fun _ => none) 0 (some c0)) 1 (some c1)) 2 (some c2)) 3 (some c3))))))), (c0, .inr (0, [.ref p0, .ref m0, .int 0])), (p0, .inl (cI, 24, .inl (fun _ => 0))), (m0, .inl (cI, 24, .inl (fun _ => 0))), (c1, .inr (0, [.ref p1, .ref m1, .int 0])), (p1, .inl (cI, 24, .inl (fun _ => 0))), (m1, .inl (cI, 24, .inl (fun _ => 0))), (c2, .inr (0, [.ref p2, .ref m2, .int 0])), (p2, .inl (cI, 24, .inl (fun _ => 0))), (m2, .inl (cI, 24, .inl (fun _ => 0))), (c3, .inr (0, [.ref p3, .ref m3, .int 0])), (p3, .inl (cI, 24, .inl (fun _ => 0))), (m3, .inl (cI, 24, .inl (fun _ => 0))), (qd, .inl (cI, 64, .inl (fun _ => 0)))] := hD
  refine W.widen (k := 14) (n := 272) (Nat.le_of_ble_eq_true rfl) (Nat.le_of_ble_eq_true rfl) ?_
  refine va_putF (D := D) (ci := 1) (v := .ref qd) (ty := (.array .int)) (C := RX1) (T := TX1) (N := 6) S.1 S.2.1 S.2.2.2.2 inX1 tyX1 tyX1_ok nmX1 S.2.2.2.1 hK hP hD hS 0 rfl rfl 1 (by decide) (S.2.2.2.2 _ k_32) (fun _ h9 => h9) rfl hin rfl (by decide +kernel) rfl rfl (Nat.le_of_ble_eq_true rfl) dX1_init_43 (fun H locs hP hD hS => ?_)
  have hP : va_P D classes [(h0, .inr (1, [.ref qa, .ref qd, .int 0, .int 0, .int 0, .int 0])), (qa, .inl (cL, 4, .inr (.inr (.inr (.inr (va_up (va_up (va_up (va_up (fun _ => none) 0 (some c0)) 1 (some c1)) 2 (some c2)) 3 (some c3))))))), (c0, .inr (0, [.ref p0, .ref m0, .int 0])), (p0, .inl (cI, 24, .inl (fun _ => 0))), (m0, .inl (cI, 24, .inl (fun _ => 0))), (c1, .inr (0, [.ref p1, .ref m1, .int 0])), (p1, .inl (cI, 24, .inl (fun _ => 0))), (m1, .inl (cI, 24, .inl (fun _ => 0))), (c2, .inr (0, [.ref p2, .ref m2, .int 0])), (p2, .inl (cI, 24, .inl (fun _ => 0))), (m2, .inl (cI, 24, .inl (fun _ => 0))), (c3, .inr (0, [.ref p3, .ref m3, .int 0])), (p3, .inl (cI, 24, .inl (fun _ => 0))), (m3, .inl (cI, 24, .inl (fun _ => 0))), (qd, .inl (cI, 64, .inl (fun _ => 0)))] H := hP
  have hD : va_D A [(h0, .inr (1, [.ref qa, .ref qd, .int 0, .int 0, .int 0, .int 0])), (qa, .inl (cL, 4, .inr (.inr (.inr (.inr (va_up (va_up (va_up (va_up (fun _ => none) 0 (some c0)) 1 (some c1)) 2 (some c2)) 3 (some c3))))))), (c0, .inr (0, [.ref p0, .ref m0, .int 0])), (p0, .inl (cI, 24, .inl (fun _ => 0))), (m0, .inl (cI, 24, .inl (fun _ => 0))), (c1, .inr (0, [.ref p1, .ref m1, .int 0])), (p1, .inl (cI, 24, .inl (fun _ => 0))), (m1, .inl (cI, 24, .inl (fun _ => 0))), (c2, .inr (0, [.ref p2, .ref m2, .int 0])), (p2, .inl (cI, 24, .inl (fun _ => 0))), (m2, .inl (cI, 24, .inl (fun _ => 0))), (c3, .inr (0, [.ref p3, .ref m3, .int 0])), (p3, .inl (cI, 24, .inl (fun _ => 0))), (m3, .inl (cI, 24, .inl (fun _ => 0))), (qd, .inl (cI, 64, .inl (fun _ => 0)))] := hD
  refine lv_aload_n S.1 S.2.1 dX1_init_46 rfl (lv_at hl 1 rfl) ?_
  refine lv_iconst (v := nI 0) S.1 S.2.1 dX1_init_47 (by decide) ?_
  refine tp (y := 0) (by decide) ?_
  refine va_put (D := D) (ci := 1) (v := .int 0) (ty := .boolean) (C := RX1) (T := TX1) (N := 6) S.1 S.2.1 S.2.2.2.2 inX1 tyX1 tyX1_ok nmX1 S.2.2.2.1 hK hP hD hS 0 rfl rfl 2 (by decide) (S.2.2.2.2 _ k_33) (fun _ h9 => h9) rfl (by decide +kernel) (by decide) (by decide) (Nat.le_of_ble_eq_true rfl) dX1_init_48 (fun H locs hP hD hS => ?_)
  have hP : va_P D classes [(h0, .inr (1, [.ref qa, .ref qd, .int 0, .int 0, .int 0, .int 0])), (qa, .inl (cL, 4, .inr (.inr (.inr (.inr (va_up (va_up (va_up (va_up (fun _ => none) 0 (some c0)) 1 (some c1)) 2 (some c2)) 3 (some c3))))))), (c0, .inr (0, [.ref p0, .ref m0, .int 0])), (p0, .inl (cI, 24, .inl (fun _ => 0))), (m0, .inl (cI, 24, .inl (fun _ => 0))), (c1, .inr (0, [.ref p1, .ref m1, .int 0])), (p1, .inl (cI, 24, .inl (fun _ => 0))), (m1, .inl (cI, 24, .inl (fun _ => 0))), (c2, .inr (0, [.ref p2, .ref m2, .int 0])), (p2, .inl (cI, 24, .inl (fun _ => 0))), (m2, .inl (cI, 24, .inl (fun _ => 0))), (c3, .inr (0, [.ref p3, .ref m3, .int 0])), (p3, .inl (cI, 24, .inl (fun _ => 0))), (m3, .inl (cI, 24, .inl (fun _ => 0))), (qd, .inl (cI, 64, .inl (fun _ => 0)))] H := hP
  have hD : va_D A [(h0, .inr (1, [.ref qa, .ref qd, .int 0, .int 0, .int 0, .int 0])), (qa, .inl (cL, 4, .inr (.inr (.inr (.inr (va_up (va_up (va_up (va_up (fun _ => none) 0 (some c0)) 1 (some c1)) 2 (some c2)) 3 (some c3))))))), (c0, .inr (0, [.ref p0, .ref m0, .int 0])), (p0, .inl (cI, 24, .inl (fun _ => 0))), (m0, .inl (cI, 24, .inl (fun _ => 0))), (c1, .inr (0, [.ref p1, .ref m1, .int 0])), (p1, .inl (cI, 24, .inl (fun _ => 0))), (m1, .inl (cI, 24, .inl (fun _ => 0))), (c2, .inr (0, [.ref p2, .ref m2, .int 0])), (p2, .inl (cI, 24, .inl (fun _ => 0))), (m2, .inl (cI, 24, .inl (fun _ => 0))), (c3, .inr (0, [.ref p3, .ref m3, .int 0])), (p3, .inl (cI, 24, .inl (fun _ => 0))), (m3, .inl (cI, 24, .inl (fun _ => 0))), (qd, .inl (cI, 64, .inl (fun _ => 0)))] := hD
  refine lv_aload_n S.1 S.2.1 dX1_init_51 rfl (lv_at hl 1 rfl) ?_
  refine lv_iconst (v := nI 1) S.1 S.2.1 dX1_init_52 (by decide) ?_
  refine va_put (D := D) (ci := 1) (v := .int (nI 1)) (ty := .int) (C := RX1) (T := TX1) (N := 6) S.1 S.2.1 S.2.2.2.2 inX1 tyX1 tyX1_ok nmX1 S.2.2.2.1 hK hP hD hS 0 rfl rfl 3 (by decide) (S.2.2.2.2 _ k_34) (fun _ h9 => h9) rfl (by decide +kernel) rfl rfl (Nat.le_of_ble_eq_true rfl) dX1_init_53 (fun H locs hP hD hS => ?_)
  have hP : va_P D classes [(h0, .inr (1, [.ref qa, .ref qd, .int 0, .int (nI 1), .int 0, .int 0])), (qa, .inl (cL, 4, .inr (.inr (.inr (.inr (va_up (va_up (va_up (va_up (fun _ => none) 0 (some c0)) 1 (some c1)) 2 (some c2)) 3 (some c3))))))), (c0, .inr (0, [.ref p0, .ref m0, .int 0])), (p0, .inl (cI, 24, .inl (fun _ => 0))), (m0, .inl (cI, 24, .inl (fun _ => 0))), (c1, .inr (0, [.ref p1, .ref m1, .int 0])), (p1, .inl (cI, 24, .inl (fun _ => 0))), (m1, .inl (cI, 24, .inl (fun _ => 0))), (c2, .inr (0, [.ref p2, .ref m2, .int 0])), (p2, .inl (cI, 24, .inl (fun _ => 0))), (m2, .inl (cI, 24, .inl (fun _ => 0))), (c3, .inr (0, [.ref p3, .ref m3, .int 0])), (p3, .inl (cI, 24, .inl (fun _ => 0))), (m3, .inl (cI, 24, .inl (fun _ => 0))), (qd, .inl (cI, 64, .inl (fun _ => 0)))] H := hP
  have hD : va_D A [(h0, .inr (1, [.ref qa, .ref qd, .int 0, .int (nI 1), .int 0, .int 0])), (qa, .inl (cL, 4, .inr (.inr (.inr (.inr (va_up (va_up (va_up (va_up (fun _ => none) 0 (some c0)) 1 (some c1)) 2 (some c2)) 3 (some c3))))))), (c0, .inr (0, [.ref p0, .ref m0, .int 0])), (p0, .inl (cI, 24, .inl (fun _ => 0))), (m0, .inl (cI, 24, .inl (fun _ => 0))), (c1, .inr (0, [.ref p1, .ref m1, .int 0])), (p1, .inl (cI, 24, .inl (fun _ => 0))), (m1, .inl (cI, 24, .inl (fun _ => 0))), (c2, .inr (0, [.ref p2, .ref m2, .int 0])), (p2, .inl (cI, 24, .inl (fun _ => 0))), (m2, .inl (cI, 24, .inl (fun _ => 0))), (c3, .inr (0, [.ref p3, .ref m3, .int 0])), (p3, .inl (cI, 24, .inl (fun _ => 0))), (m3, .inl (cI, 24, .inl (fun _ => 0))), (qd, .inl (cI, 64, .inl (fun _ => 0)))] := hD
  refine lv_aload_n S.1 S.2.1 dX1_init_56 rfl (lv_at hl 1 rfl) ?_
  refine lv_iconst (v := nI 0) S.1 S.2.1 dX1_init_57 (by decide) ?_
  refine va_put (D := D) (ci := 1) (v := .int (nI 0)) (ty := .int) (C := RX1) (T := TX1) (N := 6) S.1 S.2.1 S.2.2.2.2 inX1 tyX1 tyX1_ok nmX1 S.2.2.2.1 hK hP hD hS 0 rfl rfl 4 (by decide) (S.2.2.2.2 _ k_35) (fun _ h9 => h9) rfl (by decide +kernel) rfl rfl (Nat.le_of_ble_eq_true rfl) dX1_init_58 (fun H locs hP hD hS => ?_)
  have hP : va_P D classes [(h0, .inr (1, [.ref qa, .ref qd, .int 0, .int (nI 1), .int (nI 0), .int 0])), (qa, .inl (cL, 4, .inr (.inr (.inr (.inr (va_up (va_up (va_up (va_up (fun _ => none) 0 (some c0)) 1 (some c1)) 2 (some c2)) 3 (some c3))))))), (c0, .inr (0, [.ref p0, .ref m0, .int 0])), (p0, .inl (cI, 24, .inl (fun _ => 0))), (m0, .inl (cI, 24, .inl (fun _ => 0))), (c1, .inr (0, [.ref p1, .ref m1, .int 0])), (p1, .inl (cI, 24, .inl (fun _ => 0))), (m1, .inl (cI, 24, .inl (fun _ => 0))), (c2, .inr (0, [.ref p2, .ref m2, .int 0])), (p2, .inl (cI, 24, .inl (fun _ => 0))), (m2, .inl (cI, 24, .inl (fun _ => 0))), (c3, .inr (0, [.ref p3, .ref m3, .int 0])), (p3, .inl (cI, 24, .inl (fun _ => 0))), (m3, .inl (cI, 24, .inl (fun _ => 0))), (qd, .inl (cI, 64, .inl (fun _ => 0)))] H := hP
  have hD : va_D A [(h0, .inr (1, [.ref qa, .ref qd, .int 0, .int (nI 1), .int (nI 0), .int 0])), (qa, .inl (cL, 4, .inr (.inr (.inr (.inr (va_up (va_up (va_up (va_up (fun _ => none) 0 (some c0)) 1 (some c1)) 2 (some c2)) 3 (some c3))))))), (c0, .inr (0, [.ref p0, .ref m0, .int 0])), (p0, .inl (cI, 24, .inl (fun _ => 0))), (m0, .inl (cI, 24, .inl (fun _ => 0))), (c1, .inr (0, [.ref p1, .ref m1, .int 0])), (p1, .inl (cI, 24, .inl (fun _ => 0))), (m1, .inl (cI, 24, .inl (fun _ => 0))), (c2, .inr (0, [.ref p2, .ref m2, .int 0])), (p2, .inl (cI, 24, .inl (fun _ => 0))), (m2, .inl (cI, 24, .inl (fun _ => 0))), (c3, .inr (0, [.ref p3, .ref m3, .int 0])), (p3, .inl (cI, 24, .inl (fun _ => 0))), (m3, .inl (cI, 24, .inl (fun _ => 0))), (qd, .inl (cI, 64, .inl (fun _ => 0)))] := hD
  refine lv_aload_n S.1 S.2.1 dX1_init_61 rfl (lv_at hl 1 rfl) ?_
  refine lv_iconst (v := nI 0) S.1 S.2.1 dX1_init_62 (by decide) ?_
  refine va_put (D := D) (ci := 1) (v := .int (nI 0)) (ty := .int) (C := RX1) (T := TX1) (N := 6) S.1 S.2.1 S.2.2.2.2 inX1 tyX1 tyX1_ok nmX1 S.2.2.2.1 hK hP hD hS 0 rfl rfl 5 (by decide) (S.2.2.2.2 _ k_36) (fun _ h9 => h9) rfl (by decide +kernel) rfl rfl (Nat.le_of_ble_eq_true rfl) dX1_init_63 (fun H locs hP hD hS => ?_)
  have hP : va_P D classes [(h0, .inr (1, [.ref qa, .ref qd, .int 0, .int (nI 1), .int (nI 0), .int (nI 0)])), (qa, .inl (cL, 4, .inr (.inr (.inr (.inr (va_up (va_up (va_up (va_up (fun _ => none) 0 (some c0)) 1 (some c1)) 2 (some c2)) 3 (some c3))))))), (c0, .inr (0, [.ref p0, .ref m0, .int 0])), (p0, .inl (cI, 24, .inl (fun _ => 0))), (m0, .inl (cI, 24, .inl (fun _ => 0))), (c1, .inr (0, [.ref p1, .ref m1, .int 0])), (p1, .inl (cI, 24, .inl (fun _ => 0))), (m1, .inl (cI, 24, .inl (fun _ => 0))), (c2, .inr (0, [.ref p2, .ref m2, .int 0])), (p2, .inl (cI, 24, .inl (fun _ => 0))), (m2, .inl (cI, 24, .inl (fun _ => 0))), (c3, .inr (0, [.ref p3, .ref m3, .int 0])), (p3, .inl (cI, 24, .inl (fun _ => 0))), (m3, .inl (cI, 24, .inl (fun _ => 0))), (qd, .inl (cI, 64, .inl (fun _ => 0)))] H := hP
  have hD : va_D A [(h0, .inr (1, [.ref qa, .ref qd, .int 0, .int (nI 1), .int (nI 0), .int (nI 0)])), (qa, .inl (cL, 4, .inr (.inr (.inr (.inr (va_up (va_up (va_up (va_up (fun _ => none) 0 (some c0)) 1 (some c1)) 2 (some c2)) 3 (some c3))))))), (c0, .inr (0, [.ref p0, .ref m0, .int 0])), (p0, .inl (cI, 24, .inl (fun _ => 0))), (m0, .inl (cI, 24, .inl (fun _ => 0))), (c1, .inr (0, [.ref p1, .ref m1, .int 0])), (p1, .inl (cI, 24, .inl (fun _ => 0))), (m1, .inl (cI, 24, .inl (fun _ => 0))), (c2, .inr (0, [.ref p2, .ref m2, .int 0])), (p2, .inl (cI, 24, .inl (fun _ => 0))), (m2, .inl (cI, 24, .inl (fun _ => 0))), (c3, .inr (0, [.ref p3, .ref m3, .int 0])), (p3, .inl (cI, 24, .inl (fun _ => 0))), (m3, .inl (cI, 24, .inl (fun _ => 0))), (qd, .inl (cI, 64, .inl (fun _ => 0)))] := hD
  have hP9 := hP.sub (ws' := [(h0, .inr (1, [.ref qa, .ref qd, .int 0, .int (nI 1), .int (nI 0), .int (nI 0)])), (qa, .inl (cL, 4, .inr (.inr (.inr (.inr (va_up (va_up (va_up (va_up (fun _ => none) 0 (some c0)) 1 (some c1)) 2 (some c2)) 3 (some c3))))))), (qd, .inl (cI, 64, .inl (fun _ => 0))), (c0, .inr (0, [.ref p0, .ref m0, .int 0])), (p0, .inl (cI, 24, .inl (fun _ => 0))), (m0, .inl (cI, 24, .inl (fun _ => 0))), (c1, .inr (0, [.ref p1, .ref m1, .int 0])), (p1, .inl (cI, 24, .inl (fun _ => 0))), (m1, .inl (cI, 24, .inl (fun _ => 0))), (c2, .inr (0, [.ref p2, .ref m2, .int 0])), (p2, .inl (cI, 24, .inl (fun _ => 0))), (m2, .inl (cI, 24, .inl (fun _ => 0))), (c3, .inr (0, [.ref p3, .ref m3, .int 0])), (p3, .inl (cI, 24, .inl (fun _ => 0))), (m3, .inl (cI, 24, .inl (fun _ => 0)))]) [0, 1, 14, 2, 3, 4, 5, 6, 7, 8, 9, 10, 11, 12, 13] rfl
  have hD9 := hD.sub (ws' := [(h0, .inr (1, [.ref qa, .ref qd, .int 0, .int (nI 1), .int (nI 0), .int (nI 0)])), (qa, .inl (cL, 4, .inr (.inr (.inr (.inr (va_up (va_up (va_up (va_up (fun _ => none) 0 (some c0)) 1 (some c1)) 2 (some c2)) 3 (some c3))))))), (qd, .inl (cI, 64, .inl (fun _ => 0))), (c0, .inr (0, [.ref p0, .ref m0, .int 0])), (p0, .inl (cI, 24, .inl (fun _ => 0))), (m0, .inl (cI, 24, .inl (fun _ => 0))), (c1, .inr (0, [.ref p1, .ref m1, .int 0])), (p1, .inl (cI, 24, .inl (fun _ => 0))), (m1, .inl (cI, 24, .inl (fun _ => 0))), (c2, .inr (0, [.ref p2, .ref m2, .int 0])), (p2, .inl (cI, 24, .inl (fun _ => 0))), (m2, .inl (cI, 24, .inl (fun _ => 0))), (c3, .inr (0, [.ref p3, .ref m3, .int 0])), (p3, .inl (cI, 24, .inl (fun _ => 0))), (m3, .inl (cI, 24, .inl (fun _ => 0)))]) [0, 1, 14, 2, 3, 4, 5, 6, 7, 8, 9, 10, 11, 12, 13] (by decide) rfl
  have hP8 := P_refs (w1 := [(h0, .inr (1, [.ref qa, .ref qd, .int 0, .int (nI 1), .int (nI 0), .int (nI 0)]))]) (w2 := [(qd, .inl (cI, 64, .inl (fun _ => 0))), (c0, .inr (0, [.ref p0, .ref m0, .int 0])), (p0, .inl (cI, 24, .inl (fun _ => 0))), (m0, .inl (cI, 24, .inl (fun _ => 0))), (c1, .inr (0, [.ref p1, .ref m1, .int 0])), (p1, .inl (cI, 24, .inl (fun _ => 0))), (m1, .inl (cI, 24, .inl (fun _ => 0))), (c2, .inr (0, [.ref p2, .ref m2, .int 0])), (p2, .inl (cI, 24, .inl (fun _ => 0))), (m2, .inl (cI, 24, .inl (fun _ => 0))), (c3, .inr (0, [.ref p3, .ref m3, .int 0])), (p3, .inl (cI, 24, .inl (fun _ => 0))), (m3, .inl (cI, 24, .inl (fun _ => 0)))]) (g := fun k => some ((fun k => [h0, qa, qd, c0, p0, m0, c1, p1, m1, c2, p2, m2, c3, p3, m3].getD k 0) (3 + 3 * k))) hP9 (fun j hj => by rcases (show j = 0 ∨ j = 1 ∨ j = 2 ∨ j = 3 by omega) with rfl | rfl | rfl | rfl <;> rfl)
  have hD8 : va_D A (RPw cI cL (fun k => [h0, qa, qd, c0, p0, m0, c1, p1, m1, c2, p2, m2, c3, p3, m3].getD k 0) (fun _ => 0) false 1 0 0 (fun _ => 0) (fun _ _ => 0) (fun _ _ => 0)) := D_same hD9 rfl
  exact W.vret S.1 S.2.1 hr (fun t ht hW => ⟨⟨(fun k => [h0, qa, qd, c0, p0, m0, c1, p1, m1, c2, p2, m2, c3, p3, m3].getD k 0), rfl, trivial, rfl, by rw [ht]; exact hP8, hD8⟩, hS.F ht⟩) hS.2.2 dX1_init_66
