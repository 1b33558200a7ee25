/-! THE CLAIM OUT OF ONE WALK OF THE LAW'S BODY. Your part is whole_start (and what it stands on); all else here is the same for every law, but numbers. -/
def R_law : String := "ReachProverLaw"
def lw_P (b : Addr) (xs : List Int32) (args : Array Value) (s : State) : Prop := args = #[.ref b] ∧ s.IntsAt b xs ∧ xs.length ≤ 2048 ∧ (Jvm.Cond.and given_1 narrow_1).before args s = true
def lw_Q (_ : Array Value) (s : State) (o : Outcome) (t : State) : Prop := o = .returned (some (.int 1)) ∧ Framed s o t [] 600000 7302250
def lw_Z (below : List Frame) (a : Array Value) (s : State) : State → Prop := fun t => ∃ o, t.status = .running ∧ Ended t below o ∧ lw_Q a s o t
/-- the law's own end, with 1 on the stack, nothing written that was there before, its room as the claim has it -/
theorem lw_ret {p : Program} {l : Launch} {e : Env} {s : State} {m : MethodId} {below : List Frame} {meth : Method} {c : Code} {b : Nat} (hx : p.tables.exec = Jvm.exec) (hb : c.code = code) (hr : meth.sig.returnType = ret) (hlocks : meth.locks = false) {pc : Nat} {H : Heap} {ls : Array Slot} (hdg : decode code pc = .ok (.ireturn, 1)) : W p l e room_1 s m #[Value.ref b] below meth c H [] 600000 7302250 (lw_Z below #[Value.ref b] s) (F0 m pc ls [.int 1]) := by
  intro T hT X
  obtain ⟨fs, hret, hrun, hended, hW, hframe⟩ := X.leave (v := some (.int 1)) (hlocks := hlocks) (fun h => by rw [hr] at h; cases h)
  have hmeth' : T.vm.method? m = some meth := X.method'
  refine ⟨T.setFrames fs, ?_, .returned (some (.int 1)), hrun, hended, rfl, ⟨_, rfl⟩, hW, hframe⟩
  jvm_step X.here [X.here.top, hx, hb, hdg, hmeth', hr, ret, narrow_b1]
  (try refine ⟨rfl, ?_⟩); (try refine ⟨rfl, ?_⟩)
  first | (intro acts; rw [hret _ acts rfl rfl rfl]) | rw [hret _ _ rfl rfl rfl]
  exact Steps.refl _
/-- what holds at the law's entry: the machine, the code, the tables' words (any of lw_tbl by 'hts w (by decide +kernel)'), the script of L ints xs at the cell b, what the Statement gives of the start (any of its parts by flat_of_before) -/
def lw_At (p : Program) (s : State) (m : MethodId) (meth : Method) (c : Code) (b L : Nat) (xs : Nat → Int32) : Prop :=
  p.tables.exec = Jvm.exec ∧ c.code = code ∧ meth.sig.returnType = ret ∧ c.maxLocals = 4 ∧ s.vm.findClass R_law = some m.cls ∧ (∀ w ∈ lw_tbl, w.before #[Value.ref b] s = true) ∧ va_X b L xs s s.heap ∧ b < s.heap.size ∧ meth.locks = false ∧ (Jvm.Cond.and given_1 narrow_1).before #[Value.ref b] s = true
theorem lw_w {b : Nat} {s : State} (hts : ∀ w ∈ lw_tbl, w.before #[Value.ref b] s = true) : ∀ w ∈ wt, w.before #[Value.ref b] s = true := fun w h => hts w (List.mem_filter.mp h).1
theorem lw_NS {b : Nat} {s : State} (hts : ∀ w ∈ lw_tbl, w.before #[Value.ref b] s = true) : NS s := ⟨va_Nw.of rfl (hts (.methodLinkNest RX1 15 yX0_init RX1) (List.mem_append_right _ (List.mem_of_getElem? (i := 15) (by decide +kernel)))), va_Nw.of rfl (hts (.methodLinkNest RX1 34 yX0_removeAll RX1) (List.mem_append_right _ (List.mem_of_getElem? (i := 54) (by decide +kernel)))), va_Nw.of rfl (hts (.methodLinkNest RX1 48 yX0_isFull RX1) (List.mem_append_right _ (List.mem_of_getElem? (i := 73) (by decide +kernel)))), va_Nw.of rfl (hts (.methodLinkNest RX1 52 yX0_add RX1) (List.mem_append_right _ (List.mem_of_getElem? (i := 77) (by decide +kernel)))), va_Nw.of rfl (hts (.methodLinkNest RX1 59 yX0_removeLast RX1) (List.mem_append_right _ (List.mem_of_getElem? (i := 86) (by decide +kernel)))), va_Nw.of rfl (hts (.methodLinkNest RX1 91 yX0_allHold RX1) (List.mem_append_right _ (List.mem_of_getElem? (i := 114) (by decide +kernel)))), va_Nw.of rfl (hts (.fieldLinkNest RX1 56 "ReachProver$ClauseList" "size" "I" RX1) (List.mem_append_right _ (List.mem_of_getElem? (i := 22) (by decide +kernel)))), va_AO.of (hts (.arrayOver (.object RX0)) (List.mem_append_right _ (List.mem_of_getElem? (i := 13) (by decide +kernel))))⟩
/-- the tables at the start: class numbers and slots, the two array classes -/
theorem lw_K {b : Nat} {s : State} (hts : ∀ w ∈ lw_tbl, w.before #[Value.ref b] s = true) : ∃ (D : va_G) (cI cL : ClassId), va_K D classes (tyl cI cL) s := by
  have hw := lw_w hts
  obtain ⟨c0, iS0, hKn0⟩ := u_known (C := RX0) (T := TX0) (N := 3) (n := 3) hw inX0 (hw _ k_14)
  obtain ⟨c1, iS1, hKn1⟩ := u_known (C := RX1) (T := TX1) (N := 6) (n := 6) hw inX1 (hw _ k_5)
  obtain ⟨c2, iS2, hKn2⟩ := u_known (C := RX2) (T := TX2) (N := 7) (n := 7) hw inX2 (hw _ k_189)
  obtain ⟨cI, kI, compI, i1, i2, i3⟩ := Cond.arrayClass_spec (hw _ k_30)
  obtain ⟨comp, cL, kL, l1, l2, l3, l4, l5⟩ := Cond.arrayOver_spec (lw_NS hts).2.2.2.2.2.2.2
  refine ⟨(fun k => if k = 0 then c0 else if k = 1 then c1 else c2, fun k => if k = 0 then iS0 else if k = 1 then iS1 else iS2), cI, cL, ?_, ?_⟩
  · intro k q hq
    match k, hq with
    | 0, hq => cases hq; exact hKn0
    | 1, hq => cases hq; exact hKn1
    | 2, hq => cases hq; exact hKn2
    | k + 3, hq => simp [classes] at hq
  · intro k q hq
    match k, hq with
    | 0, hq =>
      cases hq
      exact ⟨fun n z => ⟨fun k h => (by cases h), kI, i2, compI, i3⟩, i1⟩
    | 1, hq =>
      cases hq
      exact ⟨fun n z => ⟨fun k h => (by cases h), kL, l3, comp, l4⟩, kL, comp, l3, l4, l1, l5⟩
    | k + 2, hq => simp at hq
theorem lw_c {L i : Nat} (hL : L ≤ 2048) (hi : i ≤ L) (h : ¬ nI L - nI 4 < nI i) : i + 4 ≤ L := by
  have h1 : ¬ (nI L - nI 4).toInt < (nI i).toInt := fun q => h (Int32.lt_iff_toInt_lt.mpr q)
  rw [pk_sub_toInt (by omega) (by decide), nI_toInt (by omega)] at h1
  omega
theorem lw_ld {p : Program} {l : Launch} {e : Env} {R : Room} {s : State} {m : MethodId} {args : Array Value} {below : List Frame} {meth : Method} {c : Code} {H H0 : Heap} {locs : List Loc} {cells slots : Nat} {Q : State → Prop} {cc : ByteArray} {pc : Nat} {ls : Array Slot} {rest : List Value} {A : Nat → Prop} {b L : Nat} {xs : Nat → Int32} (hx : p.tables.exec = Jvm.exec) (hb : c.code = cc) (hX : va_X b L xs s H0) (hbl : b < H0.size) (hbA : ¬ A b) (hS : va_S A H0 H locs) {j : Nat} (hj : j < L) (hL : L ≤ 2048) (hdg : decode cc pc = .ok (.iaload, 1)) (kk : W p l e R s m args below meth c H locs cells slots Q (F0 m (pc + 1) ls (.int (xs j) :: rest))) : W p l e R s m args below meth c H locs cells slots Q (F0 m pc ls (.int (nI j) :: .ref b :: rest)) := by
  refine va_sld hx hb hX hbl hbA hS (vp_in_nI hj (by omega)) hdg ?_
  rw [nI_clamp (by omega)]
  exact kk
/-- where the law stands between two calls -/
def lw_I (cI cL : ClassId) (D : va_G) (A : Nat → Prop) (a bb : Nat → Nat) (N pl : Nat) (pe : Int32) (cn : Nat → Nat) (P M : Nat → Nat → Int32) (dk : Bool) (dep : Nat → Int32) (P' M' pth dep' : Nat → Int32) (H0 H : Heap) (locs : List Loc) : Prop :=
  va_P D classes (RPw cI cL a dep dk N pl pe cn P M) H ∧ va_P D classes (MDw cI bb N pl cn P' M' pth dep') H ∧ va_S A H0 H locs ∧ Rel N pl pe cn P M dk dep P' M' pth
set_option maxHeartbeats 8000000 in
set_option maxRecDepth 100000 in
theorem law_loop {p : Program} {l : Launch} {e : Env} {s : State} {m : MethodId} {below : List Frame} {meth : Method} {c : Code} {b L : Nat} {xs : Nat → Int32} (hL : L ≤ 2048) (C0 : lw_At p s m meth c b L xs) {D : va_G} {cI cL : ClassId} {a bb : Nat → Nat} (hK : va_K D classes (tyl cI cL) s) {A : Nat → Prop} (hAe : A = fun q : Nat => s.heap.size ≤ q) (hD1 : va_D A (RPw cI cL a (fun _ => 0) false 1 0 0 (fun _ => 0) (fun _ _ => 0) (fun _ _ => 0))) (hD2 : va_D A (MDw cI bb 1 0 (fun _ => 0) (fun _ => 0) (fun _ => 0) (fun _ => 0) (fun _ => 0))) (hdis : ∀ q, adr (RPw cI cL a (fun _ => 0) false 1 0 0 (fun _ => 0) (fun _ _ => 0) (fun _ _ => 0)) q → ¬ adr (MDw cI bb 1 0 (fun _ => 0) (fun _ => 0) (fun _ => 0) (fun _ => 0) (fun _ => 0)) q) : ∀ (nf i : Nat) (N pl : Nat) (pe : Int32) (cn : Nat → Nat) (P M : Nat → Nat → Int32) (dk : Bool) (dep : Nat → Int32) (P' M' pth dep' : Nat → Int32) (H : Heap) (locs : List Loc) (ls : Array Slot), L - i < nf → i ≤ L → lw_I cI cL D A a bb N pl pe cn P M dk dep P' M' pth dep' s.heap H locs → lv_has ls 4 [(3, .int (nI i)), (2, .ref (bb 0)), (1, .ref (a 0)), (0, .ref b)] → W p l e room_1 s m #[Value.ref b] below meth c H locs 21 609 (lw_Z below #[Value.ref b] s) (F0 m 18 ls []) := by
  obtain ⟨hx, hb, hr, hml, hown, hts, hX, hbl, hlocks, hgv⟩ := id C0
  have S : CallFix p m c code 4 s #[Value.ref b] wt RL := ⟨hx, hb, hml, hown, lw_w hts⟩
  have hN := lw_NS hts
  have hbA : ¬ A b := by rw [hAe]; exact Nat.not_le.mpr hbl
  intro nf
  induction nf with
  | zero => exact fun i N pl pe cn P M dk dep P' M' pth dep' H locs ls hn => absurd hn (Nat.not_lt_zero _)
  | succ nf ih =>
    intro i N pl pe cn P M dk dep P' M' pth dep' H locs ls hn hi hI hl
    have hend : ∀ (N pl : Nat) (pe : Int32) (cn : Nat → Nat) (P M : Nat → Nat → Int32) (dk : Bool) (dep : Nat → Int32) (P' M' pth dep' : Nat → Int32) (H : Heap) (locs : List Loc) (ls : Array Slot), i + 4 ≤ L → lw_I cI cL D A a bb N pl pe cn P M dk dep P' M' pth dep' s.heap H locs → lv_has ls 4 [(3, .int (nI i)), (2, .ref (bb 0)), (1, .ref (a 0)), (0, .ref b)] → W p l e room_1 s m #[Value.ref b] below meth c H locs 21 609 (lw_Z below #[Value.ref b] s) (F0 m 413 ls []) := by
      intro N pl pe cn P M dk dep P' M' pth dep' H locs ls h4 hI hl
      refine lv_iinc (v := nI (i + 4)) (lv' := [(3, .int (nI (i + 4))), (2, .ref (bb 0)), (1, .ref (a 0)), (0, .ref b)]) hx hb dL_law_413 hl (k := 0) rfl (nI_add _ _) (by decide) rfl (fun ls hl => ?_)
      refine lv_goto (tgt := 18) hx hb dL_law_416 (by decide) ?_
      exact ih (i + 4) N pl pe cn P M dk dep P' M' pth dep' H locs ls (by omega) h4 hI hl
    obtain ⟨hP1, hP2, hS, hR⟩ := hI
    refine lv_iload_n hx hb dL_law_18 rfl (lv_at hl 0 rfl) ?_
    refine lv_aload_n hx hb dL_law_19 rfl (lv_at hl 3 rfl) ?_
    refine va_slen hx hb hX hbl hbA hS dL_law_20 ?_
    refine lv_iconst (v := nI 4) hx hb dL_law_21 (by decide) ?_
    refine lv_isub hx hb dL_law_22 ?_
    refine lv_icmp_gt (tgt := 419) hx hb dL_law_23 (by decide) (fun _ => ?_) (fun hc => ?_)
    · refine lv_iconst (v := 1) hx hb dL_law_419 (by decide) ?_
      refine va_forget (fun q hq => by have := hS.2.2 q hq; rw [hAe] at this; exact this) ?_
      refine W.widen (k := 600000) (n := 7302250) (Nat.le_of_ble_eq_true rfl) (Nat.le_of_ble_eq_true rfl) ?_
      exact lw_ret hx hb hr hlocks dL_law_420
    have h4 := lw_c hL hi hc
    refine lv_aload_n hx hb dL_law_26 rfl (lv_at hl 3 rfl) ?_
    refine lv_iload_n hx hb dL_law_27 rfl (lv_at hl 0 rfl) ?_
    refine lw_ld hx hb hX hbl hbA hS (show i < L by omega) hL dL_law_28 ?_
    refine lv_bipush (v := nI 15) hx hb dL_law_29 (by decide) ?_
    refine lv_iand hx hb dL_law_31 ?_
    obtain ⟨op, hop, eop⟩ := pk_andE (xs i) (m := nI 15) 4 (by decide)
    refine tp (y := nI op) eop ?_
    have hV := hR.1.1
    have hE1 : va_D A (RPw cI cL a dep dk N pl pe cn P M) := D_same hD1 rfl
    have hE2 : va_D A (MDw cI bb N pl cn P' M' pth dep') := D_same hD2 rfl
    rcases (show op = 0 ∨ op = 1 ∨ op = 2 ∨ op = 3 ∨ op = 4 ∨ op = 5 ∨ op = 6 ∨ op = 7 ∨ op = 8 ∨ op = 9 ∨ op = 10 ∨ op = 11 ∨ op = 12 ∨ op = 13 ∨ op = 14 ∨ op = 15 by omega) with rfl | rfl | rfl | rfl | rfl | rfl | rfl | rfl | rfl | rfl | rfl | rfl | rfl | rfl | rfl | rfl
    · refine lv_tableIn (off := 76) (tgt := 108) hx hb dL_law_32 (by decide) (by decide) (by decide) (by decide) ?_
      rcases hq : bgB (xs (i + 1)) with _ | _
      · refine lv_aload_n hx hb dL_law_108 rfl (lv_at hl 2 rfl) ?_
        refine lv_aload_n hx hb dL_law_109 rfl (lv_at hl 3 rfl) ?_
        refine lv_iload_n hx hb dL_law_110 rfl (lv_at hl 0 rfl) ?_
        refine lv_iconst (v := nI 1) hx hb dL_law_111 (by decide) ?_
        refine lv_iadd hx hb dL_law_112 ?_
        refine tp (y := nI (i + 1)) (nI_add _ _) ?_
        refine lw_ld hx hb hX hbl hbA hS (show i + 1 < L by omega) hL dL_law_113 ?_
        refine rdV S cv_RL_13 (c_X1_begin_f (x := xs (i + 1)) hq) hK hN hP1 (rp_rv hK hP1) ⟨Nat.le_of_ble_eq_true rfl, Nat.le_of_ble_eq_true rfl⟩ ⟨Nat.le_of_ble_eq_true rfl, Nat.le_of_ble_eq_true rfl⟩ rfl hl.1 rfl (Nat.le_of_ble_eq_true rfl) dL_law_114 ?_
        refine lv_aload_n hx hb dL_law_117 rfl (lv_at hl 1 rfl) ?_
        refine lv_aload_n hx hb dL_law_118 rfl (lv_at hl 3 rfl) ?_
        refine lv_iload_n hx hb dL_law_119 rfl (lv_at hl 0 rfl) ?_
        refine lv_iconst (v := nI 1) hx hb dL_law_120 (by decide) ?_
        refine lv_iadd hx hb dL_law_121 ?_
        refine tp (y := nI (i + 1)) (nI_add _ _) ?_
        refine lw_ld hx hb hX hbl hbA hS (show i + 1 < L by omega) hL dL_law_122 ?_
        refine rdV S cv_RL_17 (c_X2_begin_f (x := xs (i + 1)) hq) hK hN hP2 (md_rv hK hP2) ⟨Nat.le_of_ble_eq_true rfl, Nat.le_of_ble_eq_true rfl⟩ ⟨Nat.le_of_ble_eq_true rfl, Nat.le_of_ble_eq_true rfl⟩ rfl hl.1 rfl (Nat.le_of_ble_eq_true rfl) dL_law_123 ?_
        refine lv_icmp_eq (tgt := 413) hx hb dL_law_126 (by decide) (fun _ => ?_) (fun hh => absurd rfl hh)
        exact hend _ _ _ _ _ _ _ _ _ _ _ _ _ _ ls h4 ⟨hP1, hP2, hS, hR⟩ hl
      · obtain ⟨n, hn1, hn6, en⟩ := bgB_t hq
        refine lv_aload_n hx hb dL_law_108 rfl (lv_at hl 2 rfl) ?_
        refine lv_aload_n hx hb dL_law_109 rfl (lv_at hl 3 rfl) ?_
        refine lv_iload_n hx hb dL_law_110 rfl (lv_at hl 0 rfl) ?_
        refine lv_iconst (v := nI 1) hx hb dL_law_111 (by decide) ?_
        refine lv_iadd hx hb dL_law_112 ?_
        refine tp (y := nI (i + 1)) (nI_add _ _) ?_
        refine lw_ld hx hb hX hbl hbA hS (show i + 1 < L by omega) hL dL_law_113 ?_
        refine tp (y := nI n) en ?_
        refine wrVi S cv_RL_13 (c_X1_begin_t (n := n) hn1 hn6) hK hN hP1 hE1 hS (rp_rv hK hP1) ⟨Nat.le_of_ble_eq_true rfl, Nat.le_of_ble_eq_true rfl⟩ ⟨Nat.le_of_ble_eq_true rfl, Nat.le_of_ble_eq_true rfl⟩ rfl hl.1 rfl (Nat.le_of_ble_eq_true rfl) dL_law_114 (fun H locs hP1n hS hkk => ?_)
        have hP2 := P_keep hP2 hkk (fun q h1 h2 => hdis q (adr_rp h1) (adr_md h2))
        have hP1 := hP1n
        refine lv_aload_n hx hb dL_law_117 rfl (lv_at hl 1 rfl) ?_
        refine lv_aload_n hx hb dL_law_118 rfl (lv_at hl 3 rfl) ?_
        refine lv_iload_n hx hb dL_law_119 rfl (lv_at hl 0 rfl) ?_
        refine lv_iconst (v := nI 1) hx hb dL_law_120 (by decide) ?_
        refine lv_iadd hx hb dL_law_121 ?_
        refine tp (y := nI (i + 1)) (nI_add _ _) ?_
        refine lw_ld hx hb hX hbl hbA hS (show i + 1 < L by omega) hL dL_law_122 ?_
        refine tp (y := nI n) en ?_
        refine wrVi S cv_RL_17 (c_X2_begin_t (n := n) hn1 hn6) hK hN hP2 hE2 hS (md_rv hK hP2) ⟨Nat.le_of_ble_eq_true rfl, Nat.le_of_ble_eq_true rfl⟩ ⟨Nat.le_of_ble_eq_true rfl, Nat.le_of_ble_eq_true rfl⟩ rfl hl.1 rfl (Nat.le_of_ble_eq_true rfl) dL_law_123 (fun H locs hP2n hS hkk => ?_)
        have hP1 := P_keep hP1 hkk (fun q h1 h2 => hdis q (adr_rp h2) (adr_md h1))
        have hP2 := hP2n
        refine lv_icmp_eq (tgt := 413) hx hb dL_law_126 (by decide) (fun _ => ?_) (fun hh => absurd rfl hh)
        exact hend _ _ _ _ _ _ _ _ _ _ _ _ _ _ ls h4 ⟨hP1, hP2, hS, Rel.begin hn1 hn6⟩ hl
    · refine lv_tableIn (off := 99) (tgt := 131) hx hb dL_law_32 (by decide) (by decide) (by decide) (by decide) ?_
      rcases hq : clB N cn (xs (i + 1)) (xs (i + 2)) (xs (i + 3)) with _ | _
      · refine lv_aload_n hx hb dL_law_131 rfl (lv_at hl 2 rfl) ?_
        refine lv_aload_n hx hb dL_law_132 rfl (lv_at hl 3 rfl) ?_
        refine lv_iload_n hx hb dL_law_133 rfl (lv_at hl 0 rfl) ?_
        refine lv_iconst (v := nI 1) hx hb dL_law_134 (by decide) ?_
        refine lv_iadd hx hb dL_law_135 ?_
        refine tp (y := nI (i + 1)) (nI_add _ _) ?_
        refine lw_ld hx hb hX hbl hbA hS (show i + 1 < L by omega) hL dL_law_136 ?_
        refine lv_aload_n hx hb dL_law_137 rfl (lv_at hl 3 rfl) ?_
        refine lv_iload_n hx hb dL_law_138 rfl (lv_at hl 0 rfl) ?_
        refine lv_iconst (v := nI 2) hx hb dL_law_139 (by decide) ?_
        refine lv_iadd hx hb dL_law_140 ?_
        refine tp (y := nI (i + 2)) (nI_add _ _) ?_
        refine lw_ld hx hb hX hbl hbA hS (show i + 2 < L by omega) hL dL_law_141 ?_
        refine lv_aload_n hx hb dL_law_142 rfl (lv_at hl 3 rfl) ?_
        refine lv_iload_n hx hb dL_law_143 rfl (lv_at hl 0 rfl) ?_
        refine lv_iconst (v := nI 3) hx hb dL_law_144 (by decide) ?_
        refine lv_iadd hx hb dL_law_145 ?_
        refine tp (y := nI (i + 3)) (nI_add _ _) ?_
        refine lw_ld hx hb hX hbl hbA hS (show i + 3 < L by omega) hL dL_law_146 ?_
        refine rdV S cv_RL_18 (c_X1_clause_f (li := xs (i + 1)) (x := xs (i + 2)) (y := xs (i + 3)) hq hV) hK hN hP1 (rp_rv hK hP1) ⟨Nat.le_of_ble_eq_true rfl, Nat.le_of_ble_eq_true rfl⟩ ⟨Nat.le_of_ble_eq_true rfl, Nat.le_of_ble_eq_true rfl⟩ rfl hl.1 rfl (Nat.le_of_ble_eq_true rfl) dL_law_147 ?_
        refine lv_aload_n hx hb dL_law_150 rfl (lv_at hl 1 rfl) ?_
        refine lv_aload_n hx hb dL_law_151 rfl (lv_at hl 3 rfl) ?_
        refine lv_iload_n hx hb dL_law_152 rfl (lv_at hl 0 rfl) ?_
        refine lv_iconst (v := nI 1) hx hb dL_law_153 (by decide) ?_
        refine lv_iadd hx hb dL_law_154 ?_
        refine tp (y := nI (i + 1)) (nI_add _ _) ?_
        refine lw_ld hx hb hX hbl hbA hS (show i + 1 < L by omega) hL dL_law_155 ?_
        refine lv_aload_n hx hb dL_law_156 rfl (lv_at hl 3 rfl) ?_
        refine lv_iload_n hx hb dL_law_157 rfl (lv_at hl 0 rfl) ?_
        refine lv_iconst (v := nI 2) hx hb dL_law_158 (by decide) ?_
        refine lv_iadd hx hb dL_law_159 ?_
        refine tp (y := nI (i + 2)) (nI_add _ _) ?_
        refine lw_ld hx hb hX hbl hbA hS (show i + 2 < L by omega) hL dL_law_160 ?_
        refine lv_aload_n hx hb dL_law_161 rfl (lv_at hl 3 rfl) ?_
        refine lv_iload_n hx hb dL_law_162 rfl (lv_at hl 0 rfl) ?_
        refine lv_iconst (v := nI 3) hx hb dL_law_163 (by decide) ?_
        refine lv_iadd hx hb dL_law_164 ?_
        refine tp (y := nI (i + 3)) (nI_add _ _) ?_
        refine lw_ld hx hb hX hbl hbA hS (show i + 3 < L by omega) hL dL_law_165 ?_
        refine rdV S cv_RL_22 (c_X2_clause_f (li := xs (i + 1)) (x := xs (i + 2)) (y := xs (i + 3)) hq hV) hK hN hP2 (md_rv hK hP2) ⟨Nat.le_of_ble_eq_true rfl, Nat.le_of_ble_eq_true rfl⟩ ⟨Nat.le_of_ble_eq_true rfl, Nat.le_of_ble_eq_true rfl⟩ rfl hl.1 rfl (Nat.le_of_ble_eq_true rfl) dL_law_166 ?_
        refine lv_icmp_eq (tgt := 413) hx hb dL_law_169 (by decide) (fun _ => ?_) (fun hh => absurd rfl hh)
        exact hend _ _ _ _ _ _ _ _ _ _ _ _ _ _ ls h4 ⟨hP1, hP2, hS, hR⟩ hl
      · obtain ⟨k, hk, ek, hx1, hy1, hc1⟩ := clB_e hq
        refine lv_aload_n hx hb dL_law_131 rfl (lv_at hl 2 rfl) ?_
        refine lv_aload_n hx hb dL_law_132 rfl (lv_at hl 3 rfl) ?_
        refine lv_iload_n hx hb dL_law_133 rfl (lv_at hl 0 rfl) ?_
        refine lv_iconst (v := nI 1) hx hb dL_law_134 (by decide) ?_
        refine lv_iadd hx hb dL_law_135 ?_
        refine tp (y := nI (i + 1)) (nI_add _ _) ?_
        refine lw_ld hx hb hX hbl hbA hS (show i + 1 < L by omega) hL dL_law_136 ?_
        refine tp (y := nI k) ek ?_
        refine lv_aload_n hx hb dL_law_137 rfl (lv_at hl 3 rfl) ?_
        refine lv_iload_n hx hb dL_law_138 rfl (lv_at hl 0 rfl) ?_
        refine lv_iconst (v := nI 2) hx hb dL_law_139 (by decide) ?_
        refine lv_iadd hx hb dL_law_140 ?_
        refine tp (y := nI (i + 2)) (nI_add _ _) ?_
        refine lw_ld hx hb hX hbl hbA hS (show i + 2 < L by omega) hL dL_law_141 ?_
        refine lv_aload_n hx hb dL_law_142 rfl (lv_at hl 3 rfl) ?_
        refine lv_iload_n hx hb dL_law_143 rfl (lv_at hl 0 rfl) ?_
        refine lv_iconst (v := nI 3) hx hb dL_law_144 (by decide) ?_
        refine lv_iadd hx hb dL_law_145 ?_
        refine tp (y := nI (i + 3)) (nI_add _ _) ?_
        refine lw_ld hx hb hX hbl hbA hS (show i + 3 < L by omega) hL dL_law_146 ?_
        refine wrVi S cv_RL_18 (c_X1_clause_t (k := k) (x := xs (i + 2)) (y := xs (i + 3)) hk hx1 hy1 hc1 hV) hK hN hP1 hE1 hS (rp_rv hK hP1) ⟨Nat.le_of_ble_eq_true rfl, Nat.le_of_ble_eq_true rfl⟩ ⟨Nat.le_of_ble_eq_true rfl, Nat.le_of_ble_eq_true rfl⟩ rfl hl.1 rfl (Nat.le_of_ble_eq_true rfl) dL_law_147 (fun H locs hP1n hS hkk => ?_)
        have hP2 := P_keep hP2 hkk (fun q h1 h2 => hdis q (adr_rp h1) (adr_md h2))
        have hP1 := hP1n
        refine lv_aload_n hx hb dL_law_150 rfl (lv_at hl 1 rfl) ?_
        refine lv_aload_n hx hb dL_law_151 rfl (lv_at hl 3 rfl) ?_
        refine lv_iload_n hx hb dL_law_152 rfl (lv_at hl 0 rfl) ?_
        refine lv_iconst (v := nI 1) hx hb dL_law_153 (by decide) ?_
        refine lv_iadd hx hb dL_law_154 ?_
        refine tp (y := nI (i + 1)) (nI_add _ _) ?_
        refine lw_ld hx hb hX hbl hbA hS (show i + 1 < L by omega) hL dL_law_155 ?_
        refine tp (y := nI k) ek ?_
        refine lv_aload_n hx hb dL_law_156 rfl (lv_at hl 3 rfl) ?_
        refine lv_iload_n hx hb dL_law_157 rfl (lv_at hl 0 rfl) ?_
        refine lv_iconst (v := nI 2) hx hb dL_law_158 (by decide) ?_
        refine lv_iadd hx hb dL_law_159 ?_
        refine tp (y := nI (i + 2)) (nI_add _ _) ?_
        refine lw_ld hx hb hX hbl hbA hS (show i + 2 < L by omega) hL dL_law_160 ?_
        refine lv_aload_n hx hb dL_law_161 rfl (lv_at hl 3 rfl) ?_
        refine lv_iload_n hx hb dL_law_162 rfl (lv_at hl 0 rfl) ?_
        refine lv_iconst (v := nI 3) hx hb dL_law_163 (by decide) ?_
        refine lv_iadd hx hb dL_law_164 ?_
        refine tp (y := nI (i + 3)) (nI_add _ _) ?_
        refine lw_ld hx hb hX hbl hbA hS (show i + 3 < L by omega) hL dL_law_165 ?_
        refine wrVi S cv_RL_22 (c_X2_clause_t (k := k) (x := xs (i + 2)) (y := xs (i + 3)) hk hx1 hy1 hc1 hV) hK hN hP2 hE2 hS (md_rv hK hP2) ⟨Nat.le_of_ble_eq_true rfl, Nat.le_of_ble_eq_true rfl⟩ ⟨Nat.le_of_ble_eq_true rfl, Nat.le_of_ble_eq_true rfl⟩ rfl hl.1 rfl (Nat.le_of_ble_eq_true rfl) dL_law_166 (fun H locs hP2n hS hkk => ?_)
        have hP1 := P_keep hP1 hkk (fun q h1 h2 => hdis q (adr_rp h2) (adr_md h1))
        have hP2 := hP2n
        refine lv_icmp_eq (tgt := 413) hx hb dL_law_169 (by decide) (fun _ => ?_) (fun hh => absurd rfl hh)
        exact hend _ _ _ _ _ _ _ _ _ _ _ _ _ _ ls h4 ⟨hP1, hP2, hS, hR.clause hk hx1 hy1 hc1⟩ hl
    · refine lv_tableIn (off := 142) (tgt := 174) hx hb dL_law_32 (by decide) (by decide) (by decide) (by decide) ?_
      rcases hq : drB cn (xs (i + 1)) with _ | _
      · refine lv_aload_n hx hb dL_law_174 rfl (lv_at hl 2 rfl) ?_
        refine lv_aload_n hx hb dL_law_175 rfl (lv_at hl 3 rfl) ?_
        refine lv_iload_n hx hb dL_law_176 rfl (lv_at hl 0 rfl) ?_
        refine lv_iconst (v := nI 1) hx hb dL_law_177 (by decide) ?_
        refine lv_iadd hx hb dL_law_178 ?_
        refine tp (y := nI (i + 1)) (nI_add _ _) ?_
        refine lw_ld hx hb hX hbl hbA hS (show i + 1 < L by omega) hL dL_law_179 ?_
        refine rdV S cv_RL_23 (c_X1_drop_f (li := xs (i + 1)) hq hV) hK hN hP1 (rp_rv hK hP1) ⟨Nat.le_of_ble_eq_true rfl, Nat.le_of_ble_eq_true rfl⟩ ⟨Nat.le_of_ble_eq_true rfl, Nat.le_of_ble_eq_true rfl⟩ rfl hl.1 rfl (Nat.le_of_ble_eq_true rfl) dL_law_180 ?_
        refine lv_aload_n hx hb dL_law_183 rfl (lv_at hl 1 rfl) ?_
        refine lv_aload_n hx hb dL_law_184 rfl (lv_at hl 3 rfl) ?_
        refine lv_iload_n hx hb dL_law_185 rfl (lv_at hl 0 rfl) ?_
        refine lv_iconst (v := nI 1) hx hb dL_law_186 (by decide) ?_
        refine lv_iadd hx hb dL_law_187 ?_
        refine tp (y := nI (i + 1)) (nI_add _ _) ?_
        refine lw_ld hx hb hX hbl hbA hS (show i + 1 < L by omega) hL dL_law_188 ?_
        refine rdV S cv_RL_27 (c_X2_drop_f (li := xs (i + 1)) hq) hK hN hP2 (md_rv hK hP2) ⟨Nat.le_of_ble_eq_true rfl, Nat.le_of_ble_eq_true rfl⟩ ⟨Nat.le_of_ble_eq_true rfl, Nat.le_of_ble_eq_true rfl⟩ rfl hl.1 rfl (Nat.le_of_ble_eq_true rfl) dL_law_189 ?_
        refine lv_icmp_eq (tgt := 413) hx hb dL_law_192 (by decide) (fun _ => ?_) (fun hh => absurd rfl hh)
        exact hend _ _ _ _ _ _ _ _ _ _ _ _ _ _ ls h4 ⟨hP1, hP2, hS, hR⟩ hl
      · obtain ⟨k, hk, ek, hp1⟩ := drB_e hq
        refine lv_aload_n hx hb dL_law_174 rfl (lv_at hl 2 rfl) ?_
        refine lv_aload_n hx hb dL_law_175 rfl (lv_at hl 3 rfl) ?_
        refine lv_iload_n hx hb dL_law_176 rfl (lv_at hl 0 rfl) ?_
        refine lv_iconst (v := nI 1) hx hb dL_law_177 (by decide) ?_
        refine lv_iadd hx hb dL_law_178 ?_
        refine tp (y := nI (i + 1)) (nI_add _ _) ?_
        refine lw_ld hx hb hX hbl hbA hS (show i + 1 < L by omega) hL dL_law_179 ?_
        refine tp (y := nI k) ek ?_
        refine wrVi S cv_RL_23 (c_X1_drop_t (k := k) hk hp1 hV) hK hN hP1 hE1 hS (rp_rv hK hP1) ⟨Nat.le_of_ble_eq_true rfl, Nat.le_of_ble_eq_true rfl⟩ ⟨Nat.le_of_ble_eq_true rfl, Nat.le_of_ble_eq_true rfl⟩ rfl hl.1 rfl (Nat.le_of_ble_eq_true rfl) dL_law_180 (fun H locs hP1n hS hkk => ?_)
        have hP2 := P_keep hP2 hkk (fun q h1 h2 => hdis q (adr_rp h1) (adr_md h2))
        have hP1 := hP1n
        refine lv_aload_n hx hb dL_law_183 rfl (lv_at hl 1 rfl) ?_
        refine lv_aload_n hx hb dL_law_184 rfl (lv_at hl 3 rfl) ?_
        refine lv_iload_n hx hb dL_law_185 rfl (lv_at hl 0 rfl) ?_
        refine lv_iconst (v := nI 1) hx hb dL_law_186 (by decide) ?_
        refine lv_iadd hx hb dL_law_187 ?_
        refine tp (y := nI (i + 1)) (nI_add _ _) ?_
        refine lw_ld hx hb hX hbl hbA hS (show i + 1 < L by omega) hL dL_law_188 ?_
        refine tp (y := nI k) ek ?_
        refine wrVi S cv_RL_27 (c_X2_drop_t (k := k) hk hp1 hV) hK hN hP2 hE2 hS (md_rv hK hP2) ⟨Nat.le_of_ble_eq_true rfl, Nat.le_of_ble_eq_true rfl⟩ ⟨Nat.le_of_ble_eq_true rfl, Nat.le_of_ble_eq_true rfl⟩ rfl hl.1 rfl (Nat.le_of_ble_eq_true rfl) dL_law_189 (fun H locs hP2n hS hkk => ?_)
        have hP1 := P_keep hP1 hkk (fun q h1 h2 => hdis q (adr_rp h2) (adr_md h1))
        have hP2 := hP2n
        refine lv_icmp_eq (tgt := 413) hx hb dL_law_192 (by decide) (fun _ => ?_) (fun hh => absurd rfl hh)
        exact hend _ _ _ _ _ _ _ _ _ _ _ _ _ _ ls h4 ⟨hP1, hP2, hS, hR.drop hk hp1⟩ hl
    · refine lv_tableIn (off := 165) (tgt := 197) hx hb dL_law_32 (by decide) (by decide) (by decide) (by decide) ?_
      refine lv_aload_n hx hb dL_law_197 rfl (lv_at hl 2 rfl) ?_
      refine rdV S cv_RL_28 (c_X1_switches) hK hN hP1 (rp_rv hK hP1) ⟨Nat.le_of_ble_eq_true rfl, Nat.le_of_ble_eq_true rfl⟩ ⟨Nat.le_of_ble_eq_true rfl, Nat.le_of_ble_eq_true rfl⟩ rfl hl.1 rfl (Nat.le_of_ble_eq_true rfl) dL_law_198 ?_
      refine lv_aload_n hx hb dL_law_201 rfl (lv_at hl 1 rfl) ?_
      refine rdV S cv_RL_32 (c_X2_switches) hK hN hP2 (md_rv hK hP2) ⟨Nat.le_of_ble_eq_true rfl, Nat.le_of_ble_eq_true rfl⟩ ⟨Nat.le_of_ble_eq_true rfl, Nat.le_of_ble_eq_true rfl⟩ rfl hl.1 rfl (Nat.le_of_ble_eq_true rfl) dL_law_202 ?_
      refine lv_icmp_eq (tgt := 413) hx hb dL_law_205 (by decide) (fun _ => ?_) (fun hh => absurd rfl hh)
      exact hend _ _ _ _ _ _ _ _ _ _ _ _ _ _ ls h4 ⟨hP1, hP2, hS, hR⟩ hl
    · refine lv_tableIn (off := 178) (tgt := 210) hx hb dL_law_32 (by decide) (by decide) (by decide) (by decide) ?_
      refine lv_aload_n hx hb dL_law_210 rfl (lv_at hl 2 rfl) ?_
      refine lv_aload_n hx hb dL_law_211 rfl (lv_at hl 3 rfl) ?_
      refine lv_iload_n hx hb dL_law_212 rfl (lv_at hl 0 rfl) ?_
      refine lv_iconst (v := nI 1) hx hb dL_law_213 (by decide) ?_
      refine lv_iadd hx hb dL_law_214 ?_
      refine tp (y := nI (i + 1)) (nI_add _ _) ?_
      refine lw_ld hx hb hX hbl hbA hS (show i + 1 < L by omega) hL dL_law_215 ?_
      refine rdV S cv_RL_33 (c_X1_count (x := xs (i + 1))) hK hN hP1 (rp_rv hK hP1) ⟨Nat.le_of_ble_eq_true rfl, Nat.le_of_ble_eq_true rfl⟩ ⟨Nat.le_of_ble_eq_true rfl, Nat.le_of_ble_eq_true rfl⟩ rfl hl.1 rfl (Nat.le_of_ble_eq_true rfl) dL_law_216 ?_
      refine lv_aload_n hx hb dL_law_219 rfl (lv_at hl 1 rfl) ?_
      refine lv_aload_n hx hb dL_law_220 rfl (lv_at hl 3 rfl) ?_
      refine lv_iload_n hx hb dL_law_221 rfl (lv_at hl 0 rfl) ?_
      refine lv_iconst (v := nI 1) hx hb dL_law_222 (by decide) ?_
      refine lv_iadd hx hb dL_law_223 ?_
      refine tp (y := nI (i + 1)) (nI_add _ _) ?_
      refine lw_ld hx hb hX hbl hbA hS (show i + 1 < L by omega) hL dL_law_224 ?_
      refine rdV S cv_RL_36 (c_X2_count (x := xs (i + 1))) hK hN hP2 (md_rv hK hP2) ⟨Nat.le_of_ble_eq_true rfl, Nat.le_of_ble_eq_true rfl⟩ ⟨Nat.le_of_ble_eq_true rfl, Nat.le_of_ble_eq_true rfl⟩ rfl hl.1 rfl (Nat.le_of_ble_eq_true rfl) dL_law_225 ?_
      refine lv_icmp_eq (tgt := 413) hx hb dL_law_228 (by decide) (fun _ => ?_) (fun hh => absurd rfl hh)
      exact hend _ _ _ _ _ _ _ _ _ _ _ _ _ _ ls h4 ⟨hP1, hP2, hS, hR⟩ hl
    · refine lv_tableIn (off := 201) (tgt := 233) hx hb dL_law_32 (by decide) (by decide) (by decide) (by decide) ?_
      refine lv_aload_n hx hb dL_law_233 rfl (lv_at hl 2 rfl) ?_
      refine lv_aload_n hx hb dL_law_234 rfl (lv_at hl 3 rfl) ?_
      refine lv_iload_n hx hb dL_law_235 rfl (lv_at hl 0 rfl) ?_
      refine lv_iconst (v := nI 1) hx hb dL_law_236 (by decide) ?_
      refine lv_iadd hx hb dL_law_237 ?_
      refine tp (y := nI (i + 1)) (nI_add _ _) ?_
      refine lw_ld hx hb hX hbl hbA hS (show i + 1 < L by omega) hL dL_law_238 ?_
      refine lv_aload_n hx hb dL_law_239 rfl (lv_at hl 3 rfl) ?_
      refine lv_iload_n hx hb dL_law_240 rfl (lv_at hl 0 rfl) ?_
      refine lv_iconst (v := nI 2) hx hb dL_law_241 (by decide) ?_
      refine lv_iadd hx hb dL_law_242 ?_
      refine tp (y := nI (i + 2)) (nI_add _ _) ?_
      refine lw_ld hx hb hX hbl hbA hS (show i + 2 < L by omega) hL dL_law_243 ?_
      refine lv_aload_n hx hb dL_law_244 rfl (lv_at hl 3 rfl) ?_
      refine lv_iload_n hx hb dL_law_245 rfl (lv_at hl 0 rfl) ?_
      refine lv_iconst (v := nI 3) hx hb dL_law_246 (by decide) ?_
      refine lv_iadd hx hb dL_law_247 ?_
      refine tp (y := nI (i + 3)) (nI_add _ _) ?_
      refine lw_ld hx hb hX hbl hbA hS (show i + 3 < L by omega) hL dL_law_248 ?_
      refine rdV S cv_RL_37 (c_X1_holds (li := xs (i + 1)) (x := xs (i + 2)) (y := xs (i + 3)) hV) hK hN hP1 (rp_rv hK hP1) ⟨Nat.le_of_ble_eq_true rfl, Nat.le_of_ble_eq_true rfl⟩ ⟨Nat.le_of_ble_eq_true rfl, Nat.le_of_ble_eq_true rfl⟩ rfl hl.1 rfl (Nat.le_of_ble_eq_true rfl) dL_law_249 ?_
      refine lv_aload_n hx hb dL_law_252 rfl (lv_at hl 1 rfl) ?_
      refine lv_aload_n hx hb dL_law_253 rfl (lv_at hl 3 rfl) ?_
      refine lv_iload_n hx hb dL_law_254 rfl (lv_at hl 0 rfl) ?_
      refine lv_iconst (v := nI 1) hx hb dL_law_255 (by decide) ?_
      refine lv_iadd hx hb dL_law_256 ?_
      refine tp (y := nI (i + 1)) (nI_add _ _) ?_
      refine lw_ld hx hb hX hbl hbA hS (show i + 1 < L by omega) hL dL_law_257 ?_
      refine lv_aload_n hx hb dL_law_258 rfl (lv_at hl 3 rfl) ?_
      refine lv_iload_n hx hb dL_law_259 rfl (lv_at hl 0 rfl) ?_
      refine lv_iconst (v := nI 2) hx hb dL_law_260 (by decide) ?_
      refine lv_iadd hx hb dL_law_261 ?_
      refine tp (y := nI (i + 2)) (nI_add _ _) ?_
      refine lw_ld hx hb hX hbl hbA hS (show i + 2 < L by omega) hL dL_law_262 ?_
      refine lv_aload_n hx hb dL_law_263 rfl (lv_at hl 3 rfl) ?_
      refine lv_iload_n hx hb dL_law_264 rfl (lv_at hl 0 rfl) ?_
      refine lv_iconst (v := nI 3) hx hb dL_law_265 (by decide) ?_
      refine lv_iadd hx hb dL_law_266 ?_
      refine tp (y := nI (i + 3)) (nI_add _ _) ?_
      refine lw_ld hx hb hX hbl hbA hS (show i + 3 < L by omega) hL dL_law_267 ?_
      refine rdV S cv_RL_41 (c_X2_holds (li := xs (i + 1)) (x := xs (i + 2)) (y := xs (i + 3)) hV) hK hN hP2 (md_rv hK hP2) ⟨Nat.le_of_ble_eq_true rfl, Nat.le_of_ble_eq_true rfl⟩ ⟨Nat.le_of_ble_eq_true rfl, Nat.le_of_ble_eq_true rfl⟩ rfl hl.1 rfl (Nat.le_of_ble_eq_true rfl) dL_law_268 ?_
      refine lv_icmp_eq (tgt := 413) hx hb dL_law_271 (by decide) (fun _ => ?_) (fun hh => absurd (congrArg bI (ho_ho hR.1 _ _ _)) hh)
      exact hend _ _ _ _ _ _ _ _ _ _ _ _ _ _ ls h4 ⟨hP1, hP2, hS, hR⟩ hl
    · refine lv_tableIn (off := 244) (tgt := 276) hx hb dL_law_32 (by decide) (by decide) (by decide) (by decide) ?_
      refine lv_aload_n hx hb dL_law_276 rfl (lv_at hl 2 rfl) ?_
      refine wrVi S cv_RL_42 (c_X1_safe hV) hK hN hP1 hE1 hS (rp_rv hK hP1) ⟨Nat.le_of_ble_eq_true rfl, Nat.le_of_ble_eq_true rfl⟩ ⟨Nat.le_of_ble_eq_true rfl, Nat.le_of_ble_eq_true rfl⟩ rfl hl.1 rfl (Nat.le_of_ble_eq_true rfl) dL_law_277 (fun H locs hP1n hS hkk => ?_)
      have hP2 := P_keep hP2 hkk (fun q h1 h2 => hdis q (adr_rp h1) (adr_md h2))
      have hP1 := hP1n
      refine lv_aload_n hx hb dL_law_280 rfl (lv_at hl 1 rfl) ?_
      refine wrVi S cv_RL_46 (c_X2_safe hV) hK hN hP2 hE2 hS (md_rv hK hP2) ⟨Nat.le_of_ble_eq_true rfl, Nat.le_of_ble_eq_true rfl⟩ ⟨Nat.le_of_ble_eq_true rfl, Nat.le_of_ble_eq_true rfl⟩ rfl hl.1 rfl (Nat.le_of_ble_eq_true rfl) dL_law_281 (fun H locs hP2n hS hkk => ?_)
      have hP1 := P_keep hP1 hkk (fun q h1 h2 => hdis q (adr_rp h2) (adr_md h1))
      have hP2 := hP2n
      refine lv_icmp_eq (tgt := 413) hx hb dL_law_284 (by decide) (fun _ => ?_) (fun hh => absurd (congrArg bI (safe_safe hR.1 hR.DD)) hh)
      exact hend _ _ _ _ _ _ _ _ _ _ _ _ _ _ ls h4 ⟨hP1, hP2, hS, hR.known⟩ hl
    · refine lv_tableIn (off := 257) (tgt := 289) hx hb dL_law_32 (by decide) (by decide) (by decide) (by decide) ?_
      refine lv_aload_n hx hb dL_law_289 rfl (lv_at hl 2 rfl) ?_
      refine wrVi S cv_RL_47 (c_X1_steps hV) hK hN hP1 hE1 hS (rp_rv hK hP1) ⟨Nat.le_of_ble_eq_true rfl, Nat.le_of_ble_eq_true rfl⟩ ⟨Nat.le_of_ble_eq_true rfl, Nat.le_of_ble_eq_true rfl⟩ rfl hl.1 rfl (Nat.le_of_ble_eq_true rfl) dL_law_290 (fun H locs hP1n hS hkk => ?_)
      have hP2 := P_keep hP2 hkk (fun q h1 h2 => hdis q (adr_rp h1) (adr_md h2))
      have hP1 := hP1n
      refine lv_aload_n hx hb dL_law_293 rfl (lv_at hl 1 rfl) ?_
      refine wrVi S cv_RL_50 (c_X2_steps hV) hK hN hP2 hE2 hS (md_rv hK hP2) ⟨Nat.le_of_ble_eq_true rfl, Nat.le_of_ble_eq_true rfl⟩ ⟨Nat.le_of_ble_eq_true rfl, Nat.le_of_ble_eq_true rfl⟩ rfl hl.1 rfl (Nat.le_of_ble_eq_true rfl) dL_law_294 (fun H locs hP2n hS hkk => ?_)
      have hP1 := P_keep hP1 hkk (fun q h1 h2 => hdis q (adr_rp h2) (adr_md h1))
      have hP2 := hP2n
      refine lv_icmp_eq (tgt := 413) hx hb dL_law_297 (by decide) (fun _ => ?_) (fun hh => absurd (st_st hR.1 hR.DD) hh)
      exact hend _ _ _ _ _ _ _ _ _ _ _ _ _ _ ls h4 ⟨hP1, hP2, hS, hR.known⟩ hl
    · refine lv_tableIn (off := 270) (tgt := 302) hx hb dL_law_32 (by decide) (by decide) (by decide) (by decide) ?_
      rcases hq : stB N (xs (i + 1)) with _ | _
      · refine lv_aload_n hx hb dL_law_302 rfl (lv_at hl 2 rfl) ?_
        refine lv_aload_n hx hb dL_law_303 rfl (lv_at hl 3 rfl) ?_
        refine lv_iload_n hx hb dL_law_304 rfl (lv_at hl 0 rfl) ?_
        refine lv_iconst (v := nI 1) hx hb dL_law_305 (by decide) ?_
        refine lv_iadd hx hb dL_law_306 ?_
        refine tp (y := nI (i + 1)) (nI_add _ _) ?_
        refine lw_ld hx hb hX hbl hbA hS (show i + 1 < L by omega) hL dL_law_307 ?_
        refine rdV S cv_RL_51 (c_X1_depth_f (x := xs (i + 1)) hq hV) hK hN hP1 (rp_rv hK hP1) ⟨Nat.le_of_ble_eq_true rfl, Nat.le_of_ble_eq_true rfl⟩ ⟨Nat.le_of_ble_eq_true rfl, Nat.le_of_ble_eq_true rfl⟩ rfl hl.1 rfl (Nat.le_of_ble_eq_true rfl) dL_law_308 ?_
        refine lv_aload_n hx hb dL_law_311 rfl (lv_at hl 1 rfl) ?_
        refine lv_aload_n hx hb dL_law_312 rfl (lv_at hl 3 rfl) ?_
        refine lv_iload_n hx hb dL_law_313 rfl (lv_at hl 0 rfl) ?_
        refine lv_iconst (v := nI 1) hx hb dL_law_314 (by decide) ?_
        refine lv_iadd hx hb dL_law_315 ?_
        refine tp (y := nI (i + 1)) (nI_add _ _) ?_
        refine lw_ld hx hb hX hbl hbA hS (show i + 1 < L by omega) hL dL_law_316 ?_
        refine rdV S cv_RL_54 (c_X2_depth_f (x := xs (i + 1)) hq hV) hK hN hP2 (md_rv hK hP2) ⟨Nat.le_of_ble_eq_true rfl, Nat.le_of_ble_eq_true rfl⟩ ⟨Nat.le_of_ble_eq_true rfl, Nat.le_of_ble_eq_true rfl⟩ rfl hl.1 rfl (Nat.le_of_ble_eq_true rfl) dL_law_317 ?_
        refine lv_icmp_eq (tgt := 413) hx hb dL_law_320 (by decide) (fun _ => ?_) (fun hh => absurd rfl hh)
        exact hend _ _ _ _ _ _ _ _ _ _ _ _ _ _ ls h4 ⟨hP1, hP2, hS, hR⟩ hl
      · obtain ⟨t, ht, et⟩ := stB_e hV hq
        refine lv_aload_n hx hb dL_law_302 rfl (lv_at hl 2 rfl) ?_
        refine lv_aload_n hx hb dL_law_303 rfl (lv_at hl 3 rfl) ?_
        refine lv_iload_n hx hb dL_law_304 rfl (lv_at hl 0 rfl) ?_
        refine lv_iconst (v := nI 1) hx hb dL_law_305 (by decide) ?_
        refine lv_iadd hx hb dL_law_306 ?_
        refine tp (y := nI (i + 1)) (nI_add _ _) ?_
        refine lw_ld hx hb hX hbl hbA hS (show i + 1 < L by omega) hL dL_law_307 ?_
        refine tp (y := nI t) et ?_
        refine wrVi S cv_RL_51 (c_X1_depth_t (i := t) ht hV) hK hN hP1 hE1 hS (rp_rv hK hP1) ⟨Nat.le_of_ble_eq_true rfl, Nat.le_of_ble_eq_true rfl⟩ ⟨Nat.le_of_ble_eq_true rfl, Nat.le_of_ble_eq_true rfl⟩ rfl hl.1 rfl (Nat.le_of_ble_eq_true rfl) dL_law_308 (fun H locs hP1n hS hkk => ?_)
        have hP2 := P_keep hP2 hkk (fun q h1 h2 => hdis q (adr_rp h1) (adr_md h2))
        have hP1 := hP1n
        refine lv_aload_n hx hb dL_law_311 rfl (lv_at hl 1 rfl) ?_
        refine lv_aload_n hx hb dL_law_312 rfl (lv_at hl 3 rfl) ?_
        refine lv_iload_n hx hb dL_law_313 rfl (lv_at hl 0 rfl) ?_
        refine lv_iconst (v := nI 1) hx hb dL_law_314 (by decide) ?_
        refine lv_iadd hx hb dL_law_315 ?_
        refine tp (y := nI (i + 1)) (nI_add _ _) ?_
        refine lw_ld hx hb hX hbl hbA hS (show i + 1 < L by omega) hL dL_law_316 ?_
        refine tp (y := nI t) et ?_
        refine wrVi S cv_RL_54 (c_X2_depth_t (i := t) ht hV) hK hN hP2 hE2 hS (md_rv hK hP2) ⟨Nat.le_of_ble_eq_true rfl, Nat.le_of_ble_eq_true rfl⟩ ⟨Nat.le_of_ble_eq_true rfl, Nat.le_of_ble_eq_true rfl⟩ rfl hl.1 rfl (Nat.le_of_ble_eq_true rfl) dL_law_317 (fun H locs hP2n hS hkk => ?_)
        have hP1 := P_keep hP1 hkk (fun q h1 h2 => hdis q (adr_rp h2) (adr_md h1))
        have hP2 := hP2n
        refine lv_icmp_eq (tgt := 413) hx hb dL_law_320 (by decide) (fun _ => ?_) (fun hh => absurd (hR.DD.1 t ht) hh)
        exact hend _ _ _ _ _ _ _ _ _ _ _ _ _ _ ls h4 ⟨hP1, hP2, hS, hR.known⟩ hl
    · refine lv_tableIn (off := 293) (tgt := 325) hx hb dL_law_32 (by decide) (by decide) (by decide) (by decide) ?_
      refine lv_aload_n hx hb dL_law_325 rfl (lv_at hl 2 rfl) ?_
      refine wrVi S cv_RL_55 (c_X1_reached hV) hK hN hP1 hE1 hS (rp_rv hK hP1) ⟨Nat.le_of_ble_eq_true rfl, Nat.le_of_ble_eq_true rfl⟩ ⟨Nat.le_of_ble_eq_true rfl, Nat.le_of_ble_eq_true rfl⟩ rfl hl.1 rfl (Nat.le_of_ble_eq_true rfl) dL_law_326 (fun H locs hP1n hS hkk => ?_)
      have hP2 := P_keep hP2 hkk (fun q h1 h2 => hdis q (adr_rp h1) (adr_md h2))
      have hP1 := hP1n
      refine lv_aload_n hx hb dL_law_329 rfl (lv_at hl 1 rfl) ?_
      refine wrVi S cv_RL_58 (c_X2_reached hV) hK hN hP2 hE2 hS (md_rv hK hP2) ⟨Nat.le_of_ble_eq_true rfl, Nat.le_of_ble_eq_true rfl⟩ ⟨Nat.le_of_ble_eq_true rfl, Nat.le_of_ble_eq_true rfl⟩ rfl hl.1 rfl (Nat.le_of_ble_eq_true rfl) dL_law_330 (fun H locs hP2n hS hkk => ?_)
      have hP1 := P_keep hP1 hkk (fun q h1 h2 => hdis q (adr_rp h2) (adr_md h1))
      have hP2 := hP2n
      refine lv_icmp_eq (tgt := 413) hx hb dL_law_333 (by decide) (fun _ => ?_) (fun hh => absurd (congrArg nI (re_re hR.DD)) hh)
      exact hend _ _ _ _ _ _ _ _ _ _ _ _ _ _ ls h4 ⟨hP1, hP2, hS, hR.known⟩ hl
    · refine lv_tableIn (off := 306) (tgt := 338) hx hb dL_law_32 (by decide) (by decide) (by decide) (by decide) ?_
      refine lv_aload_n hx hb dL_law_338 rfl (lv_at hl 2 rfl) ?_
      refine wrVi S cv_RL_59 (c_X1_worst hV) hK hN hP1 hE1 hS (rp_rv hK hP1) ⟨Nat.le_of_ble_eq_true rfl, Nat.le_of_ble_eq_true rfl⟩ ⟨Nat.le_of_ble_eq_true rfl, Nat.le_of_ble_eq_true rfl⟩ rfl hl.1 rfl (Nat.le_of_ble_eq_true rfl) dL_law_339 (fun H locs hP1n hS hkk => ?_)
      have hP2 := P_keep hP2 hkk (fun q h1 h2 => hdis q (adr_rp h1) (adr_md h2))
      have hP1 := hP1n
      refine lv_aload_n hx hb dL_law_342 rfl (lv_at hl 1 rfl) ?_
      refine wrVi S cv_RL_62 (c_X2_worst hV) hK hN hP2 hE2 hS (md_rv hK hP2) ⟨Nat.le_of_ble_eq_true rfl, Nat.le_of_ble_eq_true rfl⟩ ⟨Nat.le_of_ble_eq_true rfl, Nat.le_of_ble_eq_true rfl⟩ rfl hl.1 rfl (Nat.le_of_ble_eq_true rfl) dL_law_343 (fun H locs hP2n hS hkk => ?_)
      have hP1 := P_keep hP1 hkk (fun q h1 h2 => hdis q (adr_rp h2) (adr_md h1))
      have hP2 := hP2n
      refine lv_icmp_eq (tgt := 413) hx hb dL_law_346 (by decide) (fun _ => ?_) (fun hh => absurd (congrArg (oI (-1)) (wo_wo hR.1 hR.DD)) hh)
      exact hend _ _ _ _ _ _ _ _ _ _ _ _ _ _ ls h4 ⟨hP1, hP2, hS, hR.known⟩ hl
    · refine lv_tableIn (off := 319) (tgt := 351) hx hb dL_law_32 (by decide) (by decide) (by decide) (by decide) ?_
      refine lv_aload_n hx hb dL_law_351 rfl (lv_at hl 2 rfl) ?_
      refine rdV S cv_RL_63 (c_X1_check hV) hK hN hP1 (rp_rv hK hP1) ⟨Nat.le_of_ble_eq_true rfl, Nat.le_of_ble_eq_true rfl⟩ ⟨Nat.le_of_ble_eq_true rfl, Nat.le_of_ble_eq_true rfl⟩ rfl hl.1 rfl (Nat.le_of_ble_eq_true rfl) dL_law_352 ?_
      refine lv_aload_n hx hb dL_law_355 rfl (lv_at hl 1 rfl) ?_
      refine rdV S cv_RL_66 (c_X2_check hV) hK hN hP2 (md_rv hK hP2) ⟨Nat.le_of_ble_eq_true rfl, Nat.le_of_ble_eq_true rfl⟩ ⟨Nat.le_of_ble_eq_true rfl, Nat.le_of_ble_eq_true rfl⟩ rfl hl.1 rfl (Nat.le_of_ble_eq_true rfl) dL_law_356 ?_
      refine lv_icmp_eq (tgt := 413) hx hb dL_law_359 (by decide) (fun _ => ?_) (fun hh => absurd (congrArg (oI 0) (ch_ch hR.1)) hh)
      exact hend _ _ _ _ _ _ _ _ _ _ _ _ _ _ ls h4 ⟨hP1, hP2, hS, hR⟩ hl
    · refine lv_tableIn (off := 332) (tgt := 364) hx hb dL_law_32 (by decide) (by decide) (by decide) (by decide) ?_
      refine lv_aload_n hx hb dL_law_364 rfl (lv_at hl 2 rfl) ?_
      refine rdV S cv_RL_67 (c_X1_flaw hV) hK hN hP1 (rp_rv hK hP1) ⟨Nat.le_of_ble_eq_true rfl, Nat.le_of_ble_eq_true rfl⟩ ⟨Nat.le_of_ble_eq_true rfl, Nat.le_of_ble_eq_true rfl⟩ rfl hl.1 rfl (Nat.le_of_ble_eq_true rfl) dL_law_365 ?_
      refine lv_aload_n hx hb dL_law_368 rfl (lv_at hl 1 rfl) ?_
      refine rdV S cv_RL_70 (c_X2_flaw hV) hK hN hP2 (md_rv hK hP2) ⟨Nat.le_of_ble_eq_true rfl, Nat.le_of_ble_eq_true rfl⟩ ⟨Nat.le_of_ble_eq_true rfl, Nat.le_of_ble_eq_true rfl⟩ rfl hl.1 rfl (Nat.le_of_ble_eq_true rfl) dL_law_369 ?_
      refine lv_icmp_eq (tgt := 413) hx hb dL_law_372 (by decide) (fun _ => ?_) (fun hh => absurd (fl_fl hR.1) hh)
      exact hend _ _ _ _ _ _ _ _ _ _ _ _ _ _ ls h4 ⟨hP1, hP2, hS, hR⟩ hl
    · refine lv_tableIn (off := 345) (tgt := 377) hx hb dL_law_32 (by decide) (by decide) (by decide) (by decide) ?_
      rcases hq : waB N pl pe cn P M (xs (i + 1)) with _ | _
      · refine lv_aload_n hx hb dL_law_377 rfl (lv_at hl 2 rfl) ?_
        refine lv_aload_n hx hb dL_law_378 rfl (lv_at hl 3 rfl) ?_
        refine lv_iload_n hx hb dL_law_379 rfl (lv_at hl 0 rfl) ?_
        refine lv_iconst (v := nI 1) hx hb dL_law_380 (by decide) ?_
        refine lv_iadd hx hb dL_law_381 ?_
        refine tp (y := nI (i + 1)) (nI_add _ _) ?_
        refine lw_ld hx hb hX hbl hbA hS (show i + 1 < L by omega) hL dL_law_382 ?_
        refine rdV S cv_RL_71 (c_X1_walk_f (x := xs (i + 1)) hq hR.2.1 hV) hK hN hP1 (rp_rv hK hP1) ⟨Nat.le_of_ble_eq_true rfl, Nat.le_of_ble_eq_true rfl⟩ ⟨Nat.le_of_ble_eq_true rfl, Nat.le_of_ble_eq_true rfl⟩ rfl hl.1 rfl (Nat.le_of_ble_eq_true rfl) dL_law_383 ?_
        refine lv_aload_n hx hb dL_law_386 rfl (lv_at hl 1 rfl) ?_
        refine lv_aload_n hx hb dL_law_387 rfl (lv_at hl 3 rfl) ?_
        refine lv_iload_n hx hb dL_law_388 rfl (lv_at hl 0 rfl) ?_
        refine lv_iconst (v := nI 1) hx hb dL_law_389 (by decide) ?_
        refine lv_iadd hx hb dL_law_390 ?_
        refine tp (y := nI (i + 1)) (nI_add _ _) ?_
        refine lw_ld hx hb hX hbl hbA hS (show i + 1 < L by omega) hL dL_law_391 ?_
        refine rdV S cv_RL_74 (c_X2_walk_f (x := xs (i + 1)) ((hR.wa _).trans hq) hR.2.1 hV) hK hN hP2 (md_rv hK hP2) ⟨Nat.le_of_ble_eq_true rfl, Nat.le_of_ble_eq_true rfl⟩ ⟨Nat.le_of_ble_eq_true rfl, Nat.le_of_ble_eq_true rfl⟩ rfl hl.1 rfl (Nat.le_of_ble_eq_true rfl) dL_law_392 ?_
        refine lv_icmp_eq (tgt := 413) hx hb dL_law_395 (by decide) (fun _ => ?_) (fun hh => absurd rfl hh)
        exact hend _ _ _ _ _ _ _ _ _ _ _ _ _ _ ls h4 ⟨hP1, hP2, hS, hR⟩ hl
      · skip
        refine lv_aload_n hx hb dL_law_377 rfl (lv_at hl 2 rfl) ?_
        refine lv_aload_n hx hb dL_law_378 rfl (lv_at hl 3 rfl) ?_
        refine lv_iload_n hx hb dL_law_379 rfl (lv_at hl 0 rfl) ?_
        refine lv_iconst (v := nI 1) hx hb dL_law_380 (by decide) ?_
        refine lv_iadd hx hb dL_law_381 ?_
        refine tp (y := nI (i + 1)) (nI_add _ _) ?_
        refine lw_ld hx hb hX hbl hbA hS (show i + 1 < L by omega) hL dL_law_382 ?_
        refine wrVi S cv_RL_71 (c_X1_walk_t (x := xs (i + 1)) hq hV) hK hN hP1 hE1 hS (rp_rv hK hP1) ⟨Nat.le_of_ble_eq_true rfl, Nat.le_of_ble_eq_true rfl⟩ ⟨Nat.le_of_ble_eq_true rfl, Nat.le_of_ble_eq_true rfl⟩ rfl hl.1 rfl (Nat.le_of_ble_eq_true rfl) dL_law_383 (fun H locs hP1n hS hkk => ?_)
        have hP2 := P_keep hP2 hkk (fun q h1 h2 => hdis q (adr_rp h1) (adr_md h2))
        have hP1 := hP1n
        refine lv_aload_n hx hb dL_law_386 rfl (lv_at hl 1 rfl) ?_
        refine lv_aload_n hx hb dL_law_387 rfl (lv_at hl 3 rfl) ?_
        refine lv_iload_n hx hb dL_law_388 rfl (lv_at hl 0 rfl) ?_
        refine lv_iconst (v := nI 1) hx hb dL_law_389 (by decide) ?_
        refine lv_iadd hx hb dL_law_390 ?_
        refine tp (y := nI (i + 1)) (nI_add _ _) ?_
        refine lw_ld hx hb hX hbl hbA hS (show i + 1 < L by omega) hL dL_law_391 ?_
        refine wrVi S cv_RL_74 (c_X2_walk_t (x := xs (i + 1)) ((hR.wa _).trans hq) hV) hK hN hP2 hE2 hS (md_rv hK hP2) ⟨Nat.le_of_ble_eq_true rfl, Nat.le_of_ble_eq_true rfl⟩ ⟨Nat.le_of_ble_eq_true rfl, Nat.le_of_ble_eq_true rfl⟩ rfl hl.1 rfl (Nat.le_of_ble_eq_true rfl) dL_law_392 (fun H locs hP2n hS hkk => ?_)
        have hP1 := P_keep hP1 hkk (fun q h1 h2 => hdis q (adr_rp h2) (adr_md h1))
        have hP2 := hP2n
        refine lv_icmp_eq (tgt := 413) hx hb dL_law_395 (by decide) (fun _ => ?_) (fun hh => absurd rfl hh)
        exact hend _ _ _ _ _ _ _ _ _ _ _ _ _ _ ls h4 ⟨hP1, hP2, hS, hR.walk hq⟩ hl
    · refine lv_tableIn (off := 368) (tgt := 400) hx hb dL_law_32 (by decide) (by decide) (by decide) (by decide) ?_
      refine lv_aload_n hx hb dL_law_400 rfl (lv_at hl 2 rfl) ?_
      refine rdV S cv_RL_75 (c_X1_arrives hV) hK hN hP1 (rp_rv hK hP1) ⟨Nat.le_of_ble_eq_true rfl, Nat.le_of_ble_eq_true rfl⟩ ⟨Nat.le_of_ble_eq_true rfl, Nat.le_of_ble_eq_true rfl⟩ rfl hl.1 rfl (Nat.le_of_ble_eq_true rfl) dL_law_401 ?_
      refine lv_aload_n hx hb dL_law_404 rfl (lv_at hl 1 rfl) ?_
      refine rdV S cv_RL_78 (c_X2_arrives hR.2.1 hV) hK hN hP2 (md_rv hK hP2) ⟨Nat.le_of_ble_eq_true rfl, Nat.le_of_ble_eq_true rfl⟩ ⟨Nat.le_of_ble_eq_true rfl, Nat.le_of_ble_eq_true rfl⟩ rfl hl.1 rfl (Nat.le_of_ble_eq_true rfl) dL_law_405 ?_
      refine lv_icmp_eq (tgt := 413) hx hb dL_law_408 (by decide) (fun _ => ?_) (fun hh => absurd (congrArg bI hR.ar) hh)
      exact hend _ _ _ _ _ _ _ _ _ _ _ _ _ _ ls h4 ⟨hP1, hP2, hS, hR⟩ hl
    · refine lv_tableOut (tgt := 413) hx hb dL_law_32 (by decide) (by decide) ?_
      exact hend _ _ _ _ _ _ _ _ _ _ _ _ _ _ ls h4 ⟨hP1, hP2, hS, hR⟩ hl
