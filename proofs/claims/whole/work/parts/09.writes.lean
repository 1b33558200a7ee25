theorem fd_b {α : Type} {f : Nat → α → α} {S i : Nat} {x x' r : α} (h : i < S) (hv : fd f S i x = r) (e : f i x = x') : fd f S (i + 1) x' = r := by
  rw [← e, ← fd_s h]
  exact hv
def bgB (x : Int32) : Bool := !decide (x < nI 1) && decide (x ≤ nI 6)
def clB (N : Nat) (cn : Nat → Nat) (li x y : Int32) : Bool := liB li && (seB N li x && (seB N li y && decide (cn li.toNatClampNeg < 24)))
def drB (cn : Nat → Nat) (li : Int32) : Bool := liB li && !decide (cn li.toNatClampNeg = 0)
theorem liB_n : ∀ {k : Nat}, k < 4 → liB (nI k) = true := by
  intro k hk
  rcases (show k = 0 ∨ k = 1 ∨ k = 2 ∨ k = 3 by omega) with rfl | rfl | rfl | rfl <;> decide
theorem stB_n {N : Nat} {cn : Nat → Nat} (hV : RInv N cn) {i : Nat} (hi : i < 2 ^ N) : stB N (nI i) = true := by
  have hz := hV.S
  unfold stB
  rw [decide_eq_false (nI_pos (by omega)), decide_eq_false (fun q => absurd ((nI_leI (by omega) (by omega)).mp q) (by omega))]
  rfl
def waB (N pl : Nat) (pe : Int32) (cn : Nat → Nat) (P M : Nat → Nat → Int32) (x : Int32) : Bool := stB N x && (decide (pl < 64) && (if nI pl = 0 then inC cn P M 0 x else goC N cn P M pe x))
theorem waB_t {N pl : Nat} {pe : Int32} {cn : Nat → Nat} {P M : Nat → Nat → Int32} {x : Int32} (h1 : stB N x = true) (h2 : pl < 64) (h3 : (nI pl = 0 ∧ inC cn P M 0 x = true) ∨ (¬ nI pl = 0 ∧ goC N cn P M pe x = true)) : waB N pl pe cn P M x = true := by
  unfold waB
  rw [h1, decide_eq_true h2]
  rcases h3 with ⟨a, b⟩ | ⟨a, b⟩
  · rw [if_pos a, b]; rfl
  · rw [if_neg a, b]; rfl
theorem waB_e {N pl : Nat} {pe : Int32} {cn : Nat → Nat} {P M : Nat → Nat → Int32} {x : Int32} (h : waB N pl pe cn P M x = true) : stB N x = true ∧ pl < 64 ∧ ((nI pl = 0 → inC cn P M 0 x = true) ∧ (¬ nI pl = 0 → goC N cn P M pe x = true)) := by
  unfold waB at h
  simp only [Bool.and_eq_true, decide_eq_true_eq] at h
  refine ⟨h.1, h.2.1, fun q => ?_, fun q => ?_⟩
  · have := h.2.2; rw [if_pos q] at this; exact this
  · have := h.2.2; rw [if_neg q] at this; exact this
set_option maxHeartbeats 4000000 in
set_option maxRecDepth 100000 in
theorem c_X0_removeAll {l : Launch} {D : va_G} {cI cL : ClassId} {a : Nat → Nat} {dep : Nat → Int32} {dk : Bool} {N pl : Nat} {pe : Int32} {cn : Nat → Nat} {P M : Nat → Nat → Int32} {k : Nat} (hk : k < 4)   : MetW l yX0_removeAll cX0_removeAll 1 none 0 [.ref (a (3 + 3 * k))] D cI cL (RPw cI cL a dep dk N pl pe cn P M) (none) (RPw cI cL a dep dk N pl pe (va_up cn k 0) P M) := by
  refine MetW.mk (by decide) (Nat.le_of_ble_eq_true rfl) ?_
  intro p e s m args below meth c Q A hQ S hr hlk hN hK hP hD hS ls hl
  have S : CallFix p m c cX0_removeAll 1 s args wt RX0 := S
  have hl : lv_has ls 1 [(0, .ref (a (3 + 3 * k)))] := hl
  refine lv_aload_n S.1 S.2.1 dX0_removeAll_0 rfl (lv_at hl 0 rfl) ?_
  refine lv_iconst (v := nI 0) S.1 S.2.1 dX0_removeAll_1 (by decide) ?_
  refine p0_size (x := 0) S hK hP hD hS hk dX0_removeAll_2 (fun H locs hP hD hS => ?_)
  exact wr_retv hQ S hr hlk hP hS rfl dX0_removeAll_5
set_option maxHeartbeats 4000000 in
set_option maxRecDepth 100000 in
theorem c_X0_removeLast {l : Launch} {D : va_G} {cI cL : ClassId} {a : Nat → Nat} {dep : Nat → Int32} {dk : Bool} {N pl : Nat} {pe : Int32} {cn : Nat → Nat} {P M : Nat → Nat → Int32} {k : Nat} (hk : k < 4) (hp : 0 < cn k) (hc : cn k ≤ 24)   : MetW l yX0_removeLast cX0_removeLast 1 none 0 [.ref (a (3 + 3 * k))] D cI cL (RPw cI cL a dep dk N pl pe cn P M) (none) (RPw cI cL a dep dk N pl pe (va_up cn k (cn k - 1)) P M) := by
  refine MetW.mk (by decide) (Nat.le_of_ble_eq_true rfl) ?_
  intro p e s m args below meth c Q A hQ S hr hlk hN hK hP hD hS ls hl
  have S : CallFix p m c cX0_removeLast 1 s args wt RX0 := S
  have hl : lv_has ls 1 [(0, .ref (a (3 + 3 * k)))] := hl
  refine lv_aload_n S.1 S.2.1 dX0_removeLast_0 rfl (lv_at hl 0 rfl) ?_
  refine g0_size hk S hK hP dX0_removeLast_1 ?_
  refine lv_if_le (tgt := 17) S.1 S.2.1 dX0_removeLast_4 (by decide) (fun hh => absurd hh (nI_nle hp (by omega))) (fun _ => ?_)
  refine lv_aload_n S.1 S.2.1 dX0_removeLast_7 rfl (lv_at hl 0 rfl) ?_
  refine lv_dup S.1 S.2.1 dX0_removeLast_8 rfl ?_
  refine g0_size hk S hK hP dX0_removeLast_9 ?_
  refine lv_iconst (v := nI 1) S.1 S.2.1 dX0_removeLast_12 (by decide) ?_
  refine lv_isub S.1 S.2.1 dX0_removeLast_13 ?_
  refine tp (y := nI (cn k - 1)) (pk_sub hp) ?_
  refine p0_size (x := (cn k - 1)) S hK hP hD hS hk dX0_removeLast_14 (fun H locs hP hD hS => ?_)
  exact wr_retv hQ S hr hlk hP hS rfl dX0_removeLast_17
set_option maxHeartbeats 4000000 in
set_option maxRecDepth 100000 in
theorem c_X0_add {l : Launch} {D : va_G} {cI cL : ClassId} {a : Nat → Nat} {dep : Nat → Int32} {dk : Bool} {N pl : Nat} {pe : Int32} {cn : Nat → Nat} {P M : Nat → Nat → Int32} {k : Nat} {x y : Int32} (hk : k < 4) (hc : cn k < 24)   : MetW l yX0_add cX0_add 3 none 1 [.ref (a (3 + 3 * k)), .int x, .int y] D cI cL (RPw cI cL a dep dk N pl pe cn P M) (none) (RPw cI cL a dep dk N pl pe (va_up cn k (cn k + 1)) (va_up P k (upd (P k) (cn k) x)) (va_up M k (upd (M k) (cn k) y))) := by
  refine MetW.mk (by decide) (Nat.le_of_ble_eq_true rfl) ?_
  intro p e s m args below meth c Q A hQ S hr hlk hN hK hP hD hS ls hl
  have S : CallFix p m c cX0_add 3 s args wt RX0 := S
  have hl : lv_has ls 3 [(0, .ref (a (3 + 3 * k))), (1, .int x), (2, .int y)] := hl
  refine lv_aload_n S.1 S.2.1 dX0_add_0 rfl (lv_at hl 0 rfl) ?_
  refine rdV S cv_RX0_20 (c_X0_isFull (k := k) hk) hK hN hP (rp_rvk hk hK hP) ⟨Nat.le_of_ble_eq_true rfl, Nat.le_of_ble_eq_true rfl⟩ ⟨Nat.zero_le _, Nat.zero_le _⟩ rfl hl.1 rfl (Nat.le_of_ble_eq_true rfl) dX0_add_1 ?_
  refine lv_if_eq (tgt := 8) S.1 S.2.1 dX0_add_4 (by decide) (fun _ => ?_) (fun hh => absurd (by rw [show (!decide (nI (cn k) < nI 24)) = false from by simp [(nI_ltI (show cn k < 2 ^ 31 by omega) (show 24 < 2 ^ 31 by decide)).mpr hc]]; rfl) hh)
  refine lv_aload_n S.1 S.2.1 dX0_add_8 rfl (lv_at hl 0 rfl) ?_
  refine g0_pluses hk S hK hP dX0_add_9 ?_
  refine lv_aload_n S.1 S.2.1 dX0_add_12 rfl (lv_at hl 0 rfl) ?_
  refine g0_size hk S hK hP dX0_add_13 ?_
  refine lv_iload_n S.1 S.2.1 dX0_add_16 rfl (lv_at hl 1 rfl) ?_
  refine s0_pl (x := x) hk hc S hK hP hD hS dX0_add_17 (fun H locs hP hD hS => ?_)
  refine lv_aload_n S.1 S.2.1 dX0_add_18 rfl (lv_at hl 0 rfl) ?_
  refine g0_minuses hk S hK hP dX0_add_19 ?_
  refine lv_aload_n S.1 S.2.1 dX0_add_22 rfl (lv_at hl 0 rfl) ?_
  refine g0_size hk S hK hP dX0_add_23 ?_
  refine lv_iload_n S.1 S.2.1 dX0_add_26 rfl (lv_at hl 2 rfl) ?_
  refine s0_mi (x := y) hk hc S hK hP hD hS dX0_add_27 (fun H locs hP hD hS => ?_)
  refine lv_aload_n S.1 S.2.1 dX0_add_28 rfl (lv_at hl 0 rfl) ?_
  refine lv_dup S.1 S.2.1 dX0_add_29 rfl ?_
  refine g0_size hk S hK hP dX0_add_30 ?_
  refine lv_iconst (v := nI 1) S.1 S.2.1 dX0_add_33 (by decide) ?_
  refine lv_iadd S.1 S.2.1 dX0_add_34 ?_
  refine tp (y := nI (cn k + 1)) (nI_1 _) ?_
  refine p0_size (x := (cn k + 1)) S hK hP hD hS hk dX0_add_35 (fun H locs hP hD hS => ?_)
  exact wr_retv hQ S hr hlk hP hS rfl dX0_add_38
set_option maxHeartbeats 4000000 in
set_option maxRecDepth 100000 in
theorem c_X1_forgetWhatFollowed {l : Launch} {D : va_G} {cI cL : ClassId} {a : Nat → Nat} {dep : Nat → Int32} {dk : Bool} {N pl : Nat} {pe : Int32} {cn : Nat → Nat} {P M : Nat → Nat → Int32}   : MetW l yX1_forgetWhatFollowed cX1_forgetWhatFollowed 1 none 0 [.ref (a 0)] D cI cL (RPw cI cL a dep dk N pl pe cn P M) (none) (RPw cI cL a dep false N 0 pe cn P M) := by
  refine MetW.mk (by decide) (Nat.le_of_ble_eq_true rfl) ?_
  intro p e s m args below meth c Q A hQ S hr hlk hN hK hP hD hS ls hl
  have S : CallFix p m c cX1_forgetWhatFollowed 1 s args wt RX1 := S
  have hl : lv_has ls 1 [(0, .ref (a 0))] := hl
  refine lv_aload_n S.1 S.2.1 dX1_forgetWhatFollowed_0 rfl (lv_at hl 0 rfl) ?_
  refine lv_iconst (v := nI 0) S.1 S.2.1 dX1_forgetWhatFollowed_1 (by decide) ?_
  refine p1_pathLength (x := 0) S hK hP hD hS dX1_forgetWhatFollowed_2 (fun H locs hP hD hS => ?_)
  refine lv_aload_n S.1 S.2.1 dX1_forgetWhatFollowed_5 rfl (lv_at hl 0 rfl) ?_
  refine lv_iconst (v := nI 0) S.1 S.2.1 dX1_forgetWhatFollowed_6 (by decide) ?_
  refine tp (y := bI false) (by decide) ?_
  refine p1_depthsKnown (x := false) S hK hP hD hS dX1_forgetWhatFollowed_7 (fun H locs hP hD hS => ?_)
  exact wr_retv hQ S hr hlk hP hS rfl dX1_forgetWhatFollowed_10
set_option maxHeartbeats 4000000 in
set_option maxRecDepth 100000 in
theorem c_X1_begin_f {l : Launch} {D : va_G} {cI cL : ClassId} {a : Nat → Nat} {dep : Nat → Int32} {dk : Bool} {N pl : Nat} {pe : Int32} {cn : Nat → Nat} {P M : Nat → Nat → Int32} {x : Int32} (hb : bgB x = false)   : MetR l yX1_begin cX1_begin 3 (some .boolean) 1 [.ref (a 0), .int x] D cI cL (RPw cI cL a dep dk N pl pe cn P M) (bI false) := by
  refine MetR.mk (by decide) (Nat.le_of_ble_eq_true rfl) ?_
  intro p e s m args below meth c Q hQ S hr hlk hN hK hP ls hl
  have S : CallFix p m c cX1_begin 3 s args wt RX1 := S
  have hl : lv_has ls 3 [(0, .ref (a 0)), (1, .int x)] := hl
  refine lv_iload_n S.1 S.2.1 dX1_begin_0 rfl (lv_at hl 1 rfl) ?_
  refine lv_iconst (v := nI 1) S.1 S.2.1 dX1_begin_1 (by decide) ?_
  refine lv_icmp_lt (tgt := 11) S.1 S.2.1 dX1_begin_2 (by decide) (fun h2 => ?_) (fun h2 => ?_)
  · refine lv_iconst (v := nI 0) S.1 S.2.1 dX1_begin_11 (by decide) ?_
    exact rd_retz hQ S hr hlk (by decide) dX1_begin_12
  · refine lv_iload_n S.1 S.2.1 dX1_begin_5 rfl (lv_at hl 1 rfl) ?_
    refine lv_bipush (v := nI 6) S.1 S.2.1 dX1_begin_6 (by decide) ?_
    refine lv_icmp_le (tgt := 13) S.1 S.2.1 dX1_begin_8 (by decide) (fun h8 => ?_) (fun h8 => ?_)
    · exact absurd hb (by simp [bgB, h2, h8])
    · refine lv_iconst (v := nI 0) S.1 S.2.1 dX1_begin_11 (by decide) ?_
      exact rd_retz hQ S hr hlk (by decide) dX1_begin_12
set_option maxHeartbeats 4000000 in
set_option maxRecDepth 100000 in
theorem c_X1_begin_t {l : Launch} {D : va_G} {cI cL : ClassId} {a : Nat → Nat} {dep : Nat → Int32} {dk : Bool} {N pl : Nat} {pe : Int32} {cn : Nat → Nat} {P M : Nat → Nat → Int32} {n : Nat} (hn1 : 1 ≤ n) (hn6 : n ≤ 6)   : MetW l yX1_begin cX1_begin 3 (some .boolean) 1 [.ref (a 0), .int (nI n)] D cI cL (RPw cI cL a dep dk N pl pe cn P M) (some (.int (bI true))) (RPw cI cL a dep false n 0 pe (fd (fun k c => va_up c k 0) 4 0 cn) P M) := by
  refine MetW.mk (by decide) (Nat.le_of_ble_eq_true rfl) ?_
  intro p e s m args below meth c Q A hQ S hr hlk hN hK hP hD hS ls hl
  have S : CallFix p m c cX1_begin 3 s args wt RX1 := S
  have hl : lv_has ls 3 [(0, .ref (a 0)), (1, .int (nI n))] := hl
  refine lv_iload_n S.1 S.2.1 dX1_begin_0 rfl (lv_at hl 1 rfl) ?_
  refine lv_iconst (v := nI 1) S.1 S.2.1 dX1_begin_1 (by decide) ?_
  refine lv_icmp_lt (tgt := 11) S.1 S.2.1 dX1_begin_2 (by decide) (fun hh => absurd hh (fun q => absurd ((nI_ltI (by omega) (by decide)).mp q) (by omega))) (fun _ => ?_)
  refine lv_iload_n S.1 S.2.1 dX1_begin_5 rfl (lv_at hl 1 rfl) ?_
  refine lv_bipush (v := nI 6) S.1 S.2.1 dX1_begin_6 (by decide) ?_
  refine lv_icmp_le (tgt := 13) S.1 S.2.1 dX1_begin_8 (by decide) (fun _ => ?_) (fun hh => absurd ((nI_leI (by omega) (by decide)).mpr hn6) hh)
  refine lv_aload_n S.1 S.2.1 dX1_begin_13 rfl (lv_at hl 0 rfl) ?_
  refine lv_iload_n S.1 S.2.1 dX1_begin_14 rfl (lv_at hl 1 rfl) ?_
  refine p1_switchCount (x := n) S hK hP hD hS dX1_begin_15 (fun H locs hP hD hS => ?_)
  refine lv_iconst (v := nI 0) S.1 S.2.1 dX1_begin_18 (by decide) ?_
  refine lv_istore_n (lv' := [(2, .int (nI 0)), (0, .ref (a 0)), (1, .int (nI n))]) S.1 S.2.1 dX1_begin_19 rfl hl (by decide) rfl (fun ls hl => ?_)
  have loop20 : ∀ (nf : Nat) (i : Nat) (cn1 : Nat → Nat) (H : Heap) (locs : List Loc) (ls : Array Slot), 4 - i < nf → i ≤ 4 → fd (fun k c => va_up c k 0) 4 i cn1 = fd (fun k c => va_up c k 0) 4 0 cn → va_P D classes (RPw cI cL a dep dk n pl pe cn1 P M) H → va_D A (RPw cI cL a dep dk n pl pe cn1 P M) → va_S A s.heap H locs → lv_has ls 3 [(2, .int (nI i)), (0, .ref (a 0)), (1, .int (nI n))] → W p l e (rmd 1) s m args below meth c H locs 0 0 Q (F0 m 20 ls []) := by
    intro nf
    induction nf with
    | zero => exact fun i cn1 H locs ls hn => absurd hn (Nat.not_lt_zero _)
    | succ nf ih20 =>
      intro i cn1 H locs ls hn hi hv hP hD hS hl
      refine lv_iload_n S.1 S.2.1 dX1_begin_20 rfl (lv_at hl 0 rfl) ?_
      refine lv_iconst (v := nI 4) S.1 S.2.1 dX1_begin_21 (by decide) ?_
      refine lv_icmp_ge (tgt := 40) S.1 S.2.1 dX1_begin_22 (by decide) (fun h22 => ?_) (fun h22 => ?_)
      · have h22 := ge_n (by omega) (by decide) h22
        rw [fd_d h22] at hv
        subst hv
        refine lv_aload_n S.1 S.2.1 dX1_begin_40 rfl (lv_at hl 1 rfl) ?_
        refine wrVv S cv_RX1_37 (c_X1_forgetWhatFollowed) hK hN hP hD hS (rp_rv hK hP) ⟨Nat.le_of_ble_eq_true rfl, Nat.le_of_ble_eq_true rfl⟩ ⟨Nat.zero_le _, Nat.zero_le _⟩ rfl hl.1 rfl (Nat.le_of_ble_eq_true rfl) dX1_begin_41 (fun H locs hP hS _ => ?_)
        have hD : va_D A (RPw cI cL a dep false n 0 pe (fd (fun k c => va_up c k 0) 4 0 cn) P M) := D_same hD rfl
        refine lv_iconst (v := nI 1) S.1 S.2.1 dX1_begin_44 (by decide) ?_
        exact wr_retz hQ S hr hlk hP hS rfl (by decide) dX1_begin_45
      · have h22 := ge_f (by omega) (by decide) h22
        refine lv_aload_n S.1 S.2.1 dX1_begin_25 rfl (lv_at hl 1 rfl) ?_
        refine g1_lists S hK hP dX1_begin_26 ?_
        refine lv_iload_n S.1 S.2.1 dX1_begin_29 rfl (lv_at hl 0 rfl) ?_
        refine a1_lists (k := i) (by omega) S hK hP dX1_begin_30 ?_
        refine wrNv S cm_X0_removeAll hN.2.1 (c_X0_removeAll (k := i) (by omega)) hK hN hP hD hS (rp_rvk (by omega) hK hP) ⟨Nat.le_of_ble_eq_true rfl, Nat.le_of_ble_eq_true rfl⟩ ⟨Nat.zero_le _, Nat.zero_le _⟩ rfl hl.1 rfl (Nat.le_of_ble_eq_true rfl) dX1_begin_31 (fun H locs hP hS _ => ?_)
        have hD : va_D A (RPw cI cL a dep dk n pl pe (va_up cn1 i 0) P M) := D_same hD rfl
        refine lv_iinc (v := nI (i + 1)) (lv' := [(2, .int (nI (i + 1))), (0, .ref (a 0)), (1, .int (nI n))]) S.1 S.2.1 dX1_begin_34 hl (k := 0) rfl (nI_1 _) (by decide) rfl (fun ls hl => ?_)
        refine lv_goto (tgt := 20) S.1 S.2.1 dX1_begin_37 (by decide) ?_
        exact ih20 (i + 1) _ _ _ ls (by omega) (by omega) (fd_b h22 hv rfl) hP hD hS (lv_sub hl [0, 1, 2] rfl)
  exact loop20 _ 0 cn _ _ ls (Nat.lt_succ_self _) (by decide) rfl hP hD hS (lv_sub hl [0, 1, 2] rfl)
set_option maxHeartbeats 4000000 in
set_option maxRecDepth 100000 in
theorem c_X1_clause_f {l : Launch} {D : va_G} {cI cL : ClassId} {a : Nat → Nat} {dep : Nat → Int32} {dk : Bool} {N pl : Nat} {pe : Int32} {cn : Nat → Nat} {P M : Nat → Nat → Int32} {li x y : Int32} (hb : clB N cn li x y = false)  (hV : RInv N cn) : MetR l yX1_clause cX1_clause 4 (some .int) 2 [.ref (a 0), .int li, .int x, .int y] D cI cL (RPw cI cL a dep dk N pl pe cn P M) (-1) := by
  refine MetR.mk (by decide) (Nat.le_of_ble_eq_true rfl) ?_
  intro p e s m args below meth c Q hQ S hr hlk hN hK hP ls hl
  have S : CallFix p m c cX1_clause 4 s args wt RX1 := S
  have hl : lv_has ls 4 [(0, .ref (a 0)), (1, .int li), (2, .int x), (3, .int y)] := hl
  rcases hl1 : liB li with _ | _
  · skip
    refine lv_iload_n S.1 S.2.1 dX1_clause_0 rfl (lv_at hl 1 rfl) ?_
    refine rdS S ct_RX1_40 (c_X1_isList (x := li)) hK hN hP ⟨Nat.le_of_ble_eq_true rfl, Nat.le_of_ble_eq_true rfl⟩ ⟨Nat.zero_le _, Nat.zero_le _⟩ rfl hl.1 rfl (Nat.le_of_ble_eq_true rfl) dX1_clause_1 ?_
    refine lv_if_eq (tgt := 37) S.1 S.2.1 dX1_clause_4 (by decide) (fun _ => ?_) (fun hh => absurd (by rw [hl1]; rfl) hh)
    refine lv_iconst (v := -1) S.1 S.2.1 dX1_clause_37 (by decide) ?_
    exact rd_ret hQ S hr hlk rfl dX1_clause_38
  · obtain ⟨k, hk, rfl⟩ := liB_t hl1
    refine lv_iload_n S.1 S.2.1 dX1_clause_0 rfl (lv_at hl 1 rfl) ?_
    refine rdS S ct_RX1_40 (c_X1_isList (x := nI k)) hK hN hP ⟨Nat.le_of_ble_eq_true rfl, Nat.le_of_ble_eq_true rfl⟩ ⟨Nat.zero_le _, Nat.zero_le _⟩ rfl hl.1 rfl (Nat.le_of_ble_eq_true rfl) dX1_clause_1 ?_
    refine lv_if_eq (tgt := 37) S.1 S.2.1 dX1_clause_4 (by decide) (fun hh => absurd hh (by rw [hl1]; decide)) (fun _ => ?_)
    refine lv_aload_n S.1 S.2.1 dX1_clause_7 rfl (lv_at hl 0 rfl) ?_
    refine lv_iload_n S.1 S.2.1 dX1_clause_8 rfl (lv_at hl 1 rfl) ?_
    refine lv_iload_n S.1 S.2.1 dX1_clause_9 rfl (lv_at hl 2 rfl) ?_
    refine rdV S cv_RX1_44 (c_X1_isSetOf (li := nI k) (x := x) hV) hK hN hP (rp_rv hK hP) ⟨Nat.le_of_ble_eq_true rfl, Nat.le_of_ble_eq_true rfl⟩ ⟨Nat.zero_le _, Nat.zero_le _⟩ rfl hl.1 rfl (Nat.le_of_ble_eq_true rfl) dX1_clause_10 ?_
    refine lv_if_eq (tgt := 37) S.1 S.2.1 dX1_clause_13 (by decide) (fun h13 => ?_) (fun h13 => ?_)
    · have h13 : (seB N (nI k) x) = false := bI_f h13
      refine lv_iconst (v := -1) S.1 S.2.1 dX1_clause_37 (by decide) ?_
      exact rd_ret hQ S hr hlk rfl dX1_clause_38
    · have h13 : (seB N (nI k) x) = true := bI_t h13
      refine lv_aload_n S.1 S.2.1 dX1_clause_16 rfl (lv_at hl 0 rfl) ?_
      refine lv_iload_n S.1 S.2.1 dX1_clause_17 rfl (lv_at hl 1 rfl) ?_
      refine lv_iload_n S.1 S.2.1 dX1_clause_18 rfl (lv_at hl 3 rfl) ?_
      refine rdV S cv_RX1_44 (c_X1_isSetOf (li := nI k) (x := y) hV) hK hN hP (rp_rv hK hP) ⟨Nat.le_of_ble_eq_true rfl, Nat.le_of_ble_eq_true rfl⟩ ⟨Nat.zero_le _, Nat.zero_le _⟩ rfl hl.1 rfl (Nat.le_of_ble_eq_true rfl) dX1_clause_19 ?_
      refine lv_if_eq (tgt := 37) S.1 S.2.1 dX1_clause_22 (by decide) (fun h22 => ?_) (fun h22 => ?_)
      · have h22 : (seB N (nI k) y) = false := bI_f h22
        refine lv_iconst (v := -1) S.1 S.2.1 dX1_clause_37 (by decide) ?_
        exact rd_ret hQ S hr hlk rfl dX1_clause_38
      · have h22 : (seB N (nI k) y) = true := bI_t h22
        refine lv_aload_n S.1 S.2.1 dX1_clause_25 rfl (lv_at hl 0 rfl) ?_
        refine g1_lists S hK hP dX1_clause_26 ?_
        refine lv_iload_n S.1 S.2.1 dX1_clause_29 rfl (lv_at hl 1 rfl) ?_
        refine a1_lists (k := k) hk S hK hP dX1_clause_30 ?_
        refine rdN S cm_X0_isFull hN.2.2.1 (c_X0_isFull (k := k) hk) hK hN hP (rp_rvk hk hK hP) ⟨Nat.le_of_ble_eq_true rfl, Nat.le_of_ble_eq_true rfl⟩ ⟨Nat.zero_le _, Nat.zero_le _⟩ rfl hl.1 rfl (Nat.le_of_ble_eq_true rfl) dX1_clause_31 ?_
        refine lv_if_eq (tgt := 39) S.1 S.2.1 dX1_clause_34 (by decide) (fun h34 => ?_) (fun h34 => ?_)
        · have h34 : (!decide (nI (cn k) < nI 24)) = false := bI_f h34
          exact absurd hb (by simp at h34; simp [clB, hl1, h13, h22, nI_clamp (show k < 2 ^ 31 by omega), (nI_ltI (show cn k < 2 ^ 31 by have := hV.2.2 k hk; omega) (show 24 < 2 ^ 31 by decide)).mp h34])
        · have h34 : (!decide (nI (cn k) < nI 24)) = true := bI_t h34
          refine lv_iconst (v := -1) S.1 S.2.1 dX1_clause_37 (by decide) ?_
          exact rd_ret hQ S hr hlk rfl dX1_clause_38
set_option maxHeartbeats 4000000 in
set_option maxRecDepth 100000 in
theorem c_X1_clause_t {l : Launch} {D : va_G} {cI cL : ClassId} {a : Nat → Nat} {dep : Nat → Int32} {dk : Bool} {N pl : Nat} {pe : Int32} {cn : Nat → Nat} {P M : Nat → Nat → Int32} {k : Nat} {x y : Int32} (hk : k < 4) (hx : seB N (nI k) x = true) (hy : seB N (nI k) y = true) (hc : cn k < 24)  (hV : RInv N cn) : MetW l yX1_clause cX1_clause 4 (some .int) 2 [.ref (a 0), .int (nI k), .int x, .int y] D cI cL (RPw cI cL a dep dk N pl pe cn P M) (some (.int (nI (cn k)))) (RPw cI cL a dep false N 0 pe (va_up cn k (cn k + 1)) (va_up P k (upd (P k) (cn k) x)) (va_up M k (upd (M k) (cn k) y))) := by
  refine MetW.mk (by decide) (Nat.le_of_ble_eq_true rfl) ?_
  intro p e s m args below meth c Q A hQ S hr hlk hN hK hP hD hS ls hl
  have S : CallFix p m c cX1_clause 4 s args wt RX1 := S
  have hl : lv_has ls 4 [(0, .ref (a 0)), (1, .int (nI k)), (2, .int x), (3, .int y)] := hl
  refine lv_iload_n S.1 S.2.1 dX1_clause_0 rfl (lv_at hl 1 rfl) ?_
  refine rdS S ct_RX1_40 (c_X1_isList (x := nI k)) hK hN hP ⟨Nat.le_of_ble_eq_true rfl, Nat.le_of_ble_eq_true rfl⟩ ⟨Nat.zero_le _, Nat.zero_le _⟩ rfl hl.1 rfl (Nat.le_of_ble_eq_true rfl) dX1_clause_1 ?_
  refine lv_if_eq (tgt := 37) S.1 S.2.1 dX1_clause_4 (by decide) (fun hh => absurd hh (by rw [liB_n hk]; decide)) (fun _ => ?_)
  refine lv_aload_n S.1 S.2.1 dX1_clause_7 rfl (lv_at hl 0 rfl) ?_
  refine lv_iload_n S.1 S.2.1 dX1_clause_8 rfl (lv_at hl 1 rfl) ?_
  refine lv_iload_n S.1 S.2.1 dX1_clause_9 rfl (lv_at hl 2 rfl) ?_
  refine rdV S cv_RX1_44 (c_X1_isSetOf (li := nI k) (x := x) hV) hK hN hP (rp_rv hK hP) ⟨Nat.le_of_ble_eq_true rfl, Nat.le_of_ble_eq_true rfl⟩ ⟨Nat.zero_le _, Nat.zero_le _⟩ rfl hl.1 rfl (Nat.le_of_ble_eq_true rfl) dX1_clause_10 ?_
  refine lv_if_eq (tgt := 37) S.1 S.2.1 dX1_clause_13 (by decide) (fun hh => absurd hh (by rw [hx]; decide)) (fun _ => ?_)
  refine lv_aload_n S.1 S.2.1 dX1_clause_16 rfl (lv_at hl 0 rfl) ?_
  refine lv_iload_n S.1 S.2.1 dX1_clause_17 rfl (lv_at hl 1 rfl) ?_
  refine lv_iload_n S.1 S.2.1 dX1_clause_18 rfl (lv_at hl 3 rfl) ?_
  refine rdV S cv_RX1_44 (c_X1_isSetOf (li := nI k) (x := y) hV) hK hN hP (rp_rv hK hP) ⟨Nat.le_of_ble_eq_true rfl, Nat.le_of_ble_eq_true rfl⟩ ⟨Nat.zero_le _, Nat.zero_le _⟩ rfl hl.1 rfl (Nat.le_of_ble_eq_true rfl) dX1_clause_19 ?_
  refine lv_if_eq (tgt := 37) S.1 S.2.1 dX1_clause_22 (by decide) (fun hh => absurd hh (by rw [hy]; decide)) (fun _ => ?_)
  refine lv_aload_n S.1 S.2.1 dX1_clause_25 rfl (lv_at hl 0 rfl) ?_
  refine g1_lists S hK hP dX1_clause_26 ?_
  refine lv_iload_n S.1 S.2.1 dX1_clause_29 rfl (lv_at hl 1 rfl) ?_
  refine a1_lists (k := k) hk S hK hP dX1_clause_30 ?_
  refine rdN S cm_X0_isFull hN.2.2.1 (c_X0_isFull (k := k) hk) hK hN hP (rp_rvk hk hK hP) ⟨Nat.le_of_ble_eq_true rfl, Nat.le_of_ble_eq_true rfl⟩ ⟨Nat.zero_le _, Nat.zero_le _⟩ rfl hl.1 rfl (Nat.le_of_ble_eq_true rfl) dX1_clause_31 ?_
  refine lv_if_eq (tgt := 39) S.1 S.2.1 dX1_clause_34 (by decide) (fun _ => ?_) (fun hh => absurd (by rw [show (!decide (nI (cn k) < nI 24)) = false from by simp [(nI_ltI (show cn k < 2 ^ 31 by omega) (show 24 < 2 ^ 31 by decide)).mpr hc]]; rfl) hh)
  refine lv_aload_n S.1 S.2.1 dX1_clause_39 rfl (lv_at hl 0 rfl) ?_
  refine g1_lists S hK hP dX1_clause_40 ?_
  refine lv_iload_n S.1 S.2.1 dX1_clause_43 rfl (lv_at hl 1 rfl) ?_
  refine a1_lists (k := k) hk S hK hP dX1_clause_44 ?_
  refine lv_iload_n S.1 S.2.1 dX1_clause_45 rfl (lv_at hl 2 rfl) ?_
  refine lv_iload_n S.1 S.2.1 dX1_clause_46 rfl (lv_at hl 3 rfl) ?_
  refine wrNv S cm_X0_add hN.2.2.2.1 (c_X0_add (k := k) (x := x) (y := y) hk hc) hK hN hP hD hS (rp_rvk hk hK hP) ⟨Nat.le_of_ble_eq_true rfl, Nat.le_of_ble_eq_true rfl⟩ ⟨Nat.zero_le _, Nat.zero_le _⟩ rfl hl.1 rfl (Nat.le_of_ble_eq_true rfl) dX1_clause_47 (fun H locs hP hS _ => ?_)
  have hD : va_D A (RPw cI cL a dep dk N pl pe (va_up cn k (cn k + 1)) (va_up P k (upd (P k) (cn k) x)) (va_up M k (upd (M k) (cn k) y))) := D_same hD rfl
  refine lv_aload_n S.1 S.2.1 dX1_clause_50 rfl (lv_at hl 0 rfl) ?_
  refine wrVv S cv_RX1_37 (c_X1_forgetWhatFollowed) hK hN hP hD hS (rp_rv hK hP) ⟨Nat.le_of_ble_eq_true rfl, Nat.le_of_ble_eq_true rfl⟩ ⟨Nat.zero_le _, Nat.zero_le _⟩ rfl hl.1 rfl (Nat.le_of_ble_eq_true rfl) dX1_clause_51 (fun H locs hP hS _ => ?_)
  have hD : va_D A (RPw cI cL a dep false N 0 pe (va_up cn k (cn k + 1)) (va_up P k (upd (P k) (cn k) x)) (va_up M k (upd (M k) (cn k) y))) := D_same hD rfl
  refine lv_aload_n S.1 S.2.1 dX1_clause_54 rfl (lv_at hl 0 rfl) ?_
  refine g1_lists S hK hP dX1_clause_55 ?_
  refine lv_iload_n S.1 S.2.1 dX1_clause_58 rfl (lv_at hl 1 rfl) ?_
  refine a1_lists (k := k) hk S hK hP dX1_clause_59 ?_
  refine g1_size hk S hN hK hP dX1_clause_60 ?_
  refine lv_iconst (v := nI 1) S.1 S.2.1 dX1_clause_63 (by decide) ?_
  refine lv_isub S.1 S.2.1 dX1_clause_64 ?_
  exact wr_ret hQ S hr hlk hP hS rfl (by rw [show va_up cn k (cn k + 1) k = cn k + 1 from if_pos rfl]; exact nI_pred _) dX1_clause_65
set_option maxHeartbeats 4000000 in
set_option maxRecDepth 100000 in
theorem c_X1_drop_f {l : Launch} {D : va_G} {cI cL : ClassId} {a : Nat → Nat} {dep : Nat → Int32} {dk : Bool} {N pl : Nat} {pe : Int32} {cn : Nat → Nat} {P M : Nat → Nat → Int32} {li : Int32} (hb : drB cn li = false)  (hV : RInv N cn) : MetR l yX1_drop cX1_drop 2 (some .int) 1 [.ref (a 0), .int li] D cI cL (RPw cI cL a dep dk N pl pe cn P M) (-1) := by
  refine MetR.mk (by decide) (Nat.le_of_ble_eq_true rfl) ?_
  intro p e s m args below meth c Q hQ S hr hlk hN hK hP ls hl
  have S : CallFix p m c cX1_drop 2 s args wt RX1 := S
  have hl : lv_has ls 2 [(0, .ref (a 0)), (1, .int li)] := hl
  rcases hl1 : liB li with _ | _
  · skip
    refine lv_iload_n S.1 S.2.1 dX1_drop_0 rfl (lv_at hl 1 rfl) ?_
    refine rdS S ct_RX1_40 (c_X1_isList (x := li)) hK hN hP ⟨Nat.le_of_ble_eq_true rfl, Nat.le_of_ble_eq_true rfl⟩ ⟨Nat.zero_le _, Nat.zero_le _⟩ rfl hl.1 rfl (Nat.le_of_ble_eq_true rfl) dX1_drop_1 ?_
    refine lv_if_eq (tgt := 19) S.1 S.2.1 dX1_drop_4 (by decide) (fun _ => ?_) (fun hh => absurd (by rw [hl1]; rfl) hh)
    refine lv_iconst (v := -1) S.1 S.2.1 dX1_drop_19 (by decide) ?_
    exact rd_ret hQ S hr hlk rfl dX1_drop_20
  · obtain ⟨k, hk, rfl⟩ := liB_t hl1
    refine lv_iload_n S.1 S.2.1 dX1_drop_0 rfl (lv_at hl 1 rfl) ?_
    refine rdS S ct_RX1_40 (c_X1_isList (x := nI k)) hK hN hP ⟨Nat.le_of_ble_eq_true rfl, Nat.le_of_ble_eq_true rfl⟩ ⟨Nat.zero_le _, Nat.zero_le _⟩ rfl hl.1 rfl (Nat.le_of_ble_eq_true rfl) dX1_drop_1 ?_
    refine lv_if_eq (tgt := 19) S.1 S.2.1 dX1_drop_4 (by decide) (fun hh => absurd hh (by rw [hl1]; decide)) (fun _ => ?_)
    refine lv_aload_n S.1 S.2.1 dX1_drop_7 rfl (lv_at hl 0 rfl) ?_
    refine g1_lists S hK hP dX1_drop_8 ?_
    refine lv_iload_n S.1 S.2.1 dX1_drop_11 rfl (lv_at hl 1 rfl) ?_
    refine a1_lists (k := k) hk S hK hP dX1_drop_12 ?_
    refine g1_size hk S hN hK hP dX1_drop_13 ?_
    refine lv_if_ne (tgt := 21) S.1 S.2.1 dX1_drop_16 (by decide) (fun h16 => ?_) (fun h16 => ?_)
    · exact absurd hb (by simp [drB, hl1, nI_clamp (show k < 2 ^ 31 by omega)]; exact fun q => h16 (by rw [q]; rfl))
    · refine lv_iconst (v := -1) S.1 S.2.1 dX1_drop_19 (by decide) ?_
      exact rd_ret hQ S hr hlk rfl dX1_drop_20
set_option maxHeartbeats 4000000 in
set_option maxRecDepth 100000 in
theorem c_X1_drop_t {l : Launch} {D : va_G} {cI cL : ClassId} {a : Nat → Nat} {dep : Nat → Int32} {dk : Bool} {N pl : Nat} {pe : Int32} {cn : Nat → Nat} {P M : Nat → Nat → Int32} {k : Nat} (hk : k < 4) (hp : 0 < cn k)  (hV : RInv N cn) : MetW l yX1_drop cX1_drop 2 (some .int) 1 [.ref (a 0), .int (nI k)] D cI cL (RPw cI cL a dep dk N pl pe cn P M) (some (.int (nI (cn k - 1)))) (RPw cI cL a dep false N 0 pe (va_up cn k (cn k - 1)) P M) := by
  refine MetW.mk (by decide) (Nat.le_of_ble_eq_true rfl) ?_
  intro p e s m args below meth c Q A hQ S hr hlk hN hK hP hD hS ls hl
  have S : CallFix p m c cX1_drop 2 s args wt RX1 := S
  have hl : lv_has ls 2 [(0, .ref (a 0)), (1, .int (nI k))] := hl
  refine lv_iload_n S.1 S.2.1 dX1_drop_0 rfl (lv_at hl 1 rfl) ?_
  refine rdS S ct_RX1_40 (c_X1_isList (x := nI k)) hK hN hP ⟨Nat.le_of_ble_eq_true rfl, Nat.le_of_ble_eq_true rfl⟩ ⟨Nat.zero_le _, Nat.zero_le _⟩ rfl hl.1 rfl (Nat.le_of_ble_eq_true rfl) dX1_drop_1 ?_
  refine lv_if_eq (tgt := 19) S.1 S.2.1 dX1_drop_4 (by decide) (fun hh => absurd hh (by rw [liB_n hk]; decide)) (fun _ => ?_)
  refine lv_aload_n S.1 S.2.1 dX1_drop_7 rfl (lv_at hl 0 rfl) ?_
  refine g1_lists S hK hP dX1_drop_8 ?_
  refine lv_iload_n S.1 S.2.1 dX1_drop_11 rfl (lv_at hl 1 rfl) ?_
  refine a1_lists (k := k) hk S hK hP dX1_drop_12 ?_
  refine g1_size hk S hN hK hP dX1_drop_13 ?_
  refine lv_if_ne (tgt := 21) S.1 S.2.1 dX1_drop_16 (by decide) (fun _ => ?_) (fun hh => absurd hh (nI_ne0 hp (by have := hV.2.2 k hk; omega)))
  refine lv_aload_n S.1 S.2.1 dX1_drop_21 rfl (lv_at hl 0 rfl) ?_
  refine g1_lists S hK hP dX1_drop_22 ?_
  refine lv_iload_n S.1 S.2.1 dX1_drop_25 rfl (lv_at hl 1 rfl) ?_
  refine a1_lists (k := k) hk S hK hP dX1_drop_26 ?_
  refine wrNv S cm_X0_removeLast hN.2.2.2.2.1 (c_X0_removeLast (k := k) hk hp (hV.2.2 k hk)) hK hN hP hD hS (rp_rvk hk hK hP) ⟨Nat.le_of_ble_eq_true rfl, Nat.le_of_ble_eq_true rfl⟩ ⟨Nat.zero_le _, Nat.zero_le _⟩ rfl hl.1 rfl (Nat.le_of_ble_eq_true rfl) dX1_drop_27 (fun H locs hP hS _ => ?_)
  have hD : va_D A (RPw cI cL a dep dk N pl pe (va_up cn k (cn k - 1)) P M) := D_same hD rfl
  refine lv_aload_n S.1 S.2.1 dX1_drop_30 rfl (lv_at hl 0 rfl) ?_
  refine wrVv S cv_RX1_37 (c_X1_forgetWhatFollowed) hK hN hP hD hS (rp_rv hK hP) ⟨Nat.le_of_ble_eq_true rfl, Nat.le_of_ble_eq_true rfl⟩ ⟨Nat.zero_le _, Nat.zero_le _⟩ rfl hl.1 rfl (Nat.le_of_ble_eq_true rfl) dX1_drop_31 (fun H locs hP hS _ => ?_)
  have hD : va_D A (RPw cI cL a dep false N 0 pe (va_up cn k (cn k - 1)) P M) := D_same hD rfl
  refine lv_aload_n S.1 S.2.1 dX1_drop_34 rfl (lv_at hl 0 rfl) ?_
  refine g1_lists S hK hP dX1_drop_35 ?_
  refine lv_iload_n S.1 S.2.1 dX1_drop_38 rfl (lv_at hl 1 rfl) ?_
  refine a1_lists (k := k) hk S hK hP dX1_drop_39 ?_
  refine g1_size hk S hN hK hP dX1_drop_40 ?_
  exact wr_ret hQ S hr hlk hP hS rfl (by rw [show va_up cn k (cn k - 1) k = cn k - 1 from if_pos rfl]) dX1_drop_43
set_option maxHeartbeats 4000000 in
set_option maxRecDepth 100000 in
theorem c_X1_goOnFromState {l : Launch} {D : va_G} {cI cL : ClassId} {a : Nat → Nat} {dep : Nat → Int32} {dk : Bool} {N pl : Nat} {pe : Int32} {cn : Nat → Nat} {P M : Nat → Nat → Int32} {fr : Nat} (hf : fr < 64)  (hV : RInv N cn) : MetW l yX1_goOnFromState cX1_goOnFromState 3 none 2 [.ref (a 0), .int (nI fr)] D cI cL (RPw cI cL a dep dk N pl pe cn P M) (none) (RPw cI cL a (fd (stepC (fun f t => goC N cn P M (nI f) (nI t)) fr) (2 ^ N) 0 dep) dk N pl pe cn P M) := by
  refine MetW.mk (by decide) (Nat.le_of_ble_eq_true rfl) ?_
  intro p e s m args below meth c Q A hQ S hr hlk hN hK hP hD hS ls hl
  have S : CallFix p m c cX1_goOnFromState 3 s args wt RX1 := S
  have hl : lv_has ls 3 [(0, .ref (a 0)), (1, .int (nI fr))] := hl
  have hz := hV.S
  refine lv_iconst (v := nI 0) S.1 S.2.1 dX1_goOnFromState_0 (by decide) ?_
  refine lv_istore_n (lv' := [(2, .int (nI 0)), (0, .ref (a 0)), (1, .int (nI fr))]) S.1 S.2.1 dX1_goOnFromState_1 rfl hl (by decide) rfl (fun ls hl => ?_)
  have loop2 : ∀ (nf : Nat) (i : Nat) (dep1 : Nat → Int32) (H : Heap) (locs : List Loc) (ls : Array Slot), 2 ^ N - i < nf → i ≤ 2 ^ N → fd (stepC (fun f t => goC N cn P M (nI f) (nI t)) fr) (2 ^ N) i dep1 = fd (stepC (fun f t => goC N cn P M (nI f) (nI t)) fr) (2 ^ N) 0 dep → va_P D classes (RPw cI cL a dep1 dk N pl pe cn P M) H → va_D A (RPw cI cL a dep1 dk N pl pe cn P M) → va_S A s.heap H locs → lv_has ls 3 [(2, .int (nI i)), (0, .ref (a 0)), (1, .int (nI fr))] → W p l e (rmd 2) s m args below meth c H locs 0 0 Q (F0 m 2 ls []) := by
    intro nf
    induction nf with
    | zero => exact fun i dep1 H locs ls hn => absurd hn (Nat.not_lt_zero _)
    | succ nf ih2 =>
      intro i dep1 H locs ls hn hi hv hP hD hS hl
      refine lv_iload_n S.1 S.2.1 dX1_goOnFromState_2 rfl (lv_at hl 0 rfl) ?_
      refine lv_aload_n S.1 S.2.1 dX1_goOnFromState_3 rfl (lv_at hl 1 rfl) ?_
      refine rdV S cv_RX1_78 (c_X1_stateCount hV) hK hN hP (rp_rv hK hP) ⟨Nat.le_of_ble_eq_true rfl, Nat.le_of_ble_eq_true rfl⟩ ⟨Nat.zero_le _, Nat.zero_le _⟩ rfl hl.1 rfl (Nat.le_of_ble_eq_true rfl) dX1_goOnFromState_4 ?_
      refine lv_icmp_ge (tgt := 49) S.1 S.2.1 dX1_goOnFromState_7 (by decide) (fun h7 => ?_) (fun h7 => ?_)
      · have h7 := ge_n (by omega) (by omega) h7
        rw [fd_d h7] at hv
        subst hv
        exact wr_retv hQ S hr hlk hP hS rfl dX1_goOnFromState_49
      · have h7 := ge_f (by omega) (by omega) h7
        refine lv_aload_n S.1 S.2.1 dX1_goOnFromState_10 rfl (lv_at hl 1 rfl) ?_
        refine g1_depths S hK hP dX1_goOnFromState_11 ?_
        refine lv_iload_n S.1 S.2.1 dX1_goOnFromState_14 rfl (lv_at hl 0 rfl) ?_
        refine a1_dep (by omega) S hK hP dX1_goOnFromState_15 ?_
        refine lv_iconst (v := -1) S.1 S.2.1 dX1_goOnFromState_16 (by decide) ?_
        refine lv_icmp_ne (tgt := 43) S.1 S.2.1 dX1_goOnFromState_17 (by decide) (fun h17 => ?_) (fun h17 => ?_)
        · refine lv_iinc (v := nI (i + 1)) (lv' := [(2, .int (nI (i + 1))), (0, .ref (a 0)), (1, .int (nI fr))]) S.1 S.2.1 dX1_goOnFromState_43 hl (k := 0) rfl (nI_1 _) (by decide) rfl (fun ls hl => ?_)
          refine lv_goto (tgt := 2) S.1 S.2.1 dX1_goOnFromState_46 (by decide) ?_
          exact ih2 (i + 1) _ _ _ ls (by omega) (by omega) (fd_b h7 hv (by simp [stepC, h17])) hP hD hS (lv_sub hl [0, 1, 2] rfl)
        · refine lv_aload_n S.1 S.2.1 dX1_goOnFromState_20 rfl (lv_at hl 1 rfl) ?_
          refine lv_iload_n S.1 S.2.1 dX1_goOnFromState_21 rfl (lv_at hl 2 rfl) ?_
          refine lv_iload_n S.1 S.2.1 dX1_goOnFromState_22 rfl (lv_at hl 0 rfl) ?_
          refine rdV S cv_RX1_65 (c_X1_canGo (f := nI fr) (t := nI i) hV) hK hN hP (rp_rv hK hP) ⟨Nat.le_of_ble_eq_true rfl, Nat.le_of_ble_eq_true rfl⟩ ⟨Nat.zero_le _, Nat.zero_le _⟩ rfl hl.1 rfl (Nat.le_of_ble_eq_true rfl) dX1_goOnFromState_23 ?_
          refine lv_if_eq (tgt := 43) S.1 S.2.1 dX1_goOnFromState_26 (by decide) (fun h26 => ?_) (fun h26 => ?_)
          · have h26 : (goC N cn P M (nI fr) (nI i)) = false := bI_f h26
            refine lv_iinc (v := nI (i + 1)) (lv' := [(2, .int (nI (i + 1))), (0, .ref (a 0)), (1, .int (nI fr))]) S.1 S.2.1 dX1_goOnFromState_43 hl (k := 0) rfl (nI_1 _) (by decide) rfl (fun ls hl => ?_)
            refine lv_goto (tgt := 2) S.1 S.2.1 dX1_goOnFromState_46 (by decide) ?_
            exact ih2 (i + 1) _ _ _ ls (by omega) (by omega) (fd_b h7 hv (by simp [stepC, h17, h26])) hP hD hS (lv_sub hl [0, 1, 2] rfl)
          · have h26 : (goC N cn P M (nI fr) (nI i)) = true := bI_t h26
            refine lv_aload_n S.1 S.2.1 dX1_goOnFromState_29 rfl (lv_at hl 1 rfl) ?_
            refine g1_depths S hK hP dX1_goOnFromState_30 ?_
            refine lv_iload_n S.1 S.2.1 dX1_goOnFromState_33 rfl (lv_at hl 0 rfl) ?_
            refine lv_aload_n S.1 S.2.1 dX1_goOnFromState_34 rfl (lv_at hl 1 rfl) ?_
            refine g1_depths S hK hP dX1_goOnFromState_35 ?_
            refine lv_iload_n S.1 S.2.1 dX1_goOnFromState_38 rfl (lv_at hl 2 rfl) ?_
            refine a1_dep hf S hK hP dX1_goOnFromState_39 ?_
            refine lv_iconst (v := nI 1) S.1 S.2.1 dX1_goOnFromState_40 (by decide) ?_
            refine lv_iadd S.1 S.2.1 dX1_goOnFromState_41 ?_
            refine s1_dep (x := (dep1 fr) + (nI 1)) (by omega) S hK hP hD hS dX1_goOnFromState_42 (fun H locs hP hD hS => ?_)
            refine lv_iinc (v := nI (i + 1)) (lv' := [(2, .int (nI (i + 1))), (0, .ref (a 0)), (1, .int (nI fr))]) S.1 S.2.1 dX1_goOnFromState_43 hl (k := 0) rfl (nI_1 _) (by decide) rfl (fun ls hl => ?_)
            refine lv_goto (tgt := 2) S.1 S.2.1 dX1_goOnFromState_46 (by decide) ?_
            exact ih2 (i + 1) _ _ _ ls (by omega) (by omega) (fd_b h7 hv (by simp [stepC, h17, h26])) hP hD hS (lv_sub hl [0, 1, 2] rfl)
  exact loop2 _ 0 dep _ _ ls (Nat.lt_succ_self _) (Nat.zero_le _) rfl hP hD hS (lv_sub hl [0, 1, 2] rfl)
set_option maxHeartbeats 4000000 in
set_option maxRecDepth 100000 in
theorem c_X1_goOnFrom {l : Launch} {D : va_G} {cI cL : ClassId} {a : Nat → Nat} {dep : Nat → Int32} {dk : Bool} {N pl : Nat} {pe : Int32} {cn : Nat → Nat} {P M : Nat → Nat → Int32} {lev : Nat}  (hV : RInv N cn) : MetW l yX1_goOnFrom cX1_goOnFrom 3 none 3 [.ref (a 0), .int (nI lev)] D cI cL (RPw cI cL a dep dk N pl pe cn P M) (none) (RPw cI cL a (levC (fun f t => goC N cn P M (nI f) (nI t)) (2 ^ N) lev dep) dk N pl pe cn P M) := by
  refine MetW.mk (by decide) (Nat.le_of_ble_eq_true rfl) ?_
  intro p e s m args below meth c Q A hQ S hr hlk hN hK hP hD hS ls hl
  have S : CallFix p m c cX1_goOnFrom 3 s args wt RX1 := S
  have hl : lv_has ls 3 [(0, .ref (a 0)), (1, .int (nI lev))] := hl
  have hz := hV.S
  refine lv_iconst (v := nI 0) S.1 S.2.1 dX1_goOnFrom_0 (by decide) ?_
  refine lv_istore_n (lv' := [(2, .int (nI 0)), (0, .ref (a 0)), (1, .int (nI lev))]) S.1 S.2.1 dX1_goOnFrom_1 rfl hl (by decide) rfl (fun ls hl => ?_)
  have loop2 : ∀ (nf : Nat) (i : Nat) (dep1 : Nat → Int32) (H : Heap) (locs : List Loc) (ls : Array Slot), 2 ^ N - i < nf → i ≤ 2 ^ N → fd (fromC (fun f t => goC N cn P M (nI f) (nI t)) (2 ^ N) lev) (2 ^ N) i dep1 = levC (fun f t => goC N cn P M (nI f) (nI t)) (2 ^ N) lev dep → va_P D classes (RPw cI cL a dep1 dk N pl pe cn P M) H → va_D A (RPw cI cL a dep1 dk N pl pe cn P M) → va_S A s.heap H locs → lv_has ls 3 [(2, .int (nI i)), (0, .ref (a 0)), (1, .int (nI lev))] → W p l e (rmd 3) s m args below meth c H locs 0 0 Q (F0 m 2 ls []) := by
    intro nf
    induction nf with
    | zero => exact fun i dep1 H locs ls hn => absurd hn (Nat.not_lt_zero _)
    | succ nf ih2 =>
      intro i dep1 H locs ls hn hi hv hP hD hS hl
      refine lv_iload_n S.1 S.2.1 dX1_goOnFrom_2 rfl (lv_at hl 0 rfl) ?_
      refine lv_aload_n S.1 S.2.1 dX1_goOnFrom_3 rfl (lv_at hl 1 rfl) ?_
      refine rdV S cv_RX1_78 (c_X1_stateCount hV) hK hN hP (rp_rv hK hP) ⟨Nat.le_of_ble_eq_true rfl, Nat.le_of_ble_eq_true rfl⟩ ⟨Nat.zero_le _, Nat.zero_le _⟩ rfl hl.1 rfl (Nat.le_of_ble_eq_true rfl) dX1_goOnFrom_4 ?_
      refine lv_icmp_ge (tgt := 31) S.1 S.2.1 dX1_goOnFrom_7 (by decide) (fun h7 => ?_) (fun h7 => ?_)
      · have h7 := ge_n (by omega) (by omega) h7
        rw [fd_d h7] at hv
        subst hv
        exact wr_retv hQ S hr hlk hP hS rfl dX1_goOnFrom_31
      · have h7 := ge_f (by omega) (by omega) h7
        refine lv_aload_n S.1 S.2.1 dX1_goOnFrom_10 rfl (lv_at hl 1 rfl) ?_
        refine g1_depths S hK hP dX1_goOnFrom_11 ?_
        refine lv_iload_n S.1 S.2.1 dX1_goOnFrom_14 rfl (lv_at hl 0 rfl) ?_
        refine a1_dep (by omega) S hK hP dX1_goOnFrom_15 ?_
        refine lv_iload_n S.1 S.2.1 dX1_goOnFrom_16 rfl (lv_at hl 2 rfl) ?_
        refine lv_icmp_ne (tgt := 25) S.1 S.2.1 dX1_goOnFrom_17 (by decide) (fun h17 => ?_) (fun h17 => ?_)
        · refine lv_iinc (v := nI (i + 1)) (lv' := [(2, .int (nI (i + 1))), (0, .ref (a 0)), (1, .int (nI lev))]) S.1 S.2.1 dX1_goOnFrom_25 hl (k := 0) rfl (nI_1 _) (by decide) rfl (fun ls hl => ?_)
          refine lv_goto (tgt := 2) S.1 S.2.1 dX1_goOnFrom_28 (by decide) ?_
          exact ih2 (i + 1) _ _ _ ls (by omega) (by omega) (fd_b h7 hv (by simp [fromC, h17])) hP hD hS (lv_sub hl [0, 1, 2] rfl)
        · refine lv_aload_n S.1 S.2.1 dX1_goOnFrom_20 rfl (lv_at hl 1 rfl) ?_
          refine lv_iload_n S.1 S.2.1 dX1_goOnFrom_21 rfl (lv_at hl 0 rfl) ?_
          refine wrVv S cv_RX1_98 (c_X1_goOnFromState (fr := i) (by omega) hV) hK hN hP hD hS (rp_rv hK hP) ⟨Nat.le_of_ble_eq_true rfl, Nat.le_of_ble_eq_true rfl⟩ ⟨Nat.zero_le _, Nat.zero_le _⟩ rfl hl.1 rfl (Nat.le_of_ble_eq_true rfl) dX1_goOnFrom_22 (fun H locs hP hS _ => ?_)
          have hD : va_D A (RPw cI cL a (fd (stepC (fun f t => goC N cn P M (nI f) (nI t)) i) (2 ^ N) 0 dep1) dk N pl pe cn P M) := D_same hD rfl
          refine lv_iinc (v := nI (i + 1)) (lv' := [(2, .int (nI (i + 1))), (0, .ref (a 0)), (1, .int (nI lev))]) S.1 S.2.1 dX1_goOnFrom_25 hl (k := 0) rfl (nI_1 _) (by decide) rfl (fun ls hl => ?_)
          refine lv_goto (tgt := 2) S.1 S.2.1 dX1_goOnFrom_28 (by decide) ?_
          exact ih2 (i + 1) _ _ _ ls (by omega) (by omega) (fd_b h7 hv (by simp [fromC, h17])) hP hD hS (lv_sub hl [0, 1, 2] rfl)
  exact loop2 _ 0 dep _ _ ls (Nat.lt_succ_self _) (Nat.zero_le _) rfl hP hD hS (lv_sub hl [0, 1, 2] rfl)
set_option maxHeartbeats 4000000 in
set_option maxRecDepth 100000 in
theorem c_X1_findDepths {l : Launch} {D : va_G} {cI cL : ClassId} {a : Nat → Nat} {dep : Nat → Int32} {dk : Bool} {N pl : Nat} {pe : Int32} {cn : Nat → Nat} {P M : Nat → Nat → Int32}  (hV : RInv N cn) : MetW l yX1_findDepths cX1_findDepths 2 none 4 [.ref (a 0)] D cI cL (RPw cI cL a dep dk N pl pe cn P M) (none) (RPw cI cL a (depC dk N cn P M dep) true N pl pe cn P M) := by
  refine MetW.mk (by decide) (Nat.le_of_ble_eq_true rfl) ?_
  intro p e s m args below meth c Q A hQ S hr hlk hN hK hP hD hS ls hl
  have S : CallFix p m c cX1_findDepths 2 s args wt RX1 := S
  have hl : lv_has ls 2 [(0, .ref (a 0))] := hl
  have hz := hV.S
  rcases dk with _ | _
  · refine lv_aload_n S.1 S.2.1 dX1_findDepths_0 rfl (lv_at hl 0 rfl) ?_
    refine g1_depthsKnown S hK hP dX1_findDepths_1 ?_
    refine lv_if_eq (tgt := 8) S.1 S.2.1 dX1_findDepths_4 (by decide) (fun _ => ?_) (fun hh => absurd rfl hh)
    refine lv_iconst (v := nI 0) S.1 S.2.1 dX1_findDepths_8 (by decide) ?_
    refine lv_istore_n (lv' := [(1, .int (nI 0)), (0, .ref (a 0))]) S.1 S.2.1 dX1_findDepths_9 rfl hl (by decide) rfl (fun ls hl => ?_)
    have loop10 : ∀ (nf : Nat) (i : Nat) (dep1 : Nat → Int32) (H : Heap) (locs : List Loc) (ls : Array Slot), 2 ^ N - i < nf → i ≤ 2 ^ N → fd (iniC (fun i => inC cn P M 0 (nI i))) (2 ^ N) i dep1 = fd (iniC (fun i => inC cn P M 0 (nI i))) (2 ^ N) 0 dep → va_P D classes (RPw cI cL a dep1 false N pl pe cn P M) H → va_D A (RPw cI cL a dep1 false N pl pe cn P M) → va_S A s.heap H locs → lv_has ls 2 [(1, .int (nI i)), (0, .ref (a 0))] → W p l e (rmd 4) s m args below meth c H locs 0 0 Q (F0 m 10 ls []) := by
      intro nf
      induction nf with
      | zero => exact fun i dep1 H locs ls hn => absurd hn (Nat.not_lt_zero _)
      | succ nf ih10 =>
        intro i dep1 H locs ls hn hi hv hP hD hS hl
        refine lv_iload_n S.1 S.2.1 dX1_findDepths_10 rfl (lv_at hl 0 rfl) ?_
        refine lv_aload_n S.1 S.2.1 dX1_findDepths_11 rfl (lv_at hl 1 rfl) ?_
        refine rdV S cv_RX1_78 (c_X1_stateCount hV) hK hN hP (rp_rv hK hP) ⟨Nat.le_of_ble_eq_true rfl, Nat.le_of_ble_eq_true rfl⟩ ⟨Nat.zero_le _, Nat.zero_le _⟩ rfl hl.1 rfl (Nat.le_of_ble_eq_true rfl) dX1_findDepths_12 ?_
        refine lv_icmp_ge (tgt := 44) S.1 S.2.1 dX1_findDepths_15 (by decide) (fun h15 => ?_) (fun h15 => ?_)
        · have h15 := ge_n (by omega) (by omega) h15
          rw [fd_d h15] at hv
          subst hv
          refine lv_iconst (v := nI 0) S.1 S.2.1 dX1_findDepths_44 (by decide) ?_
          refine lv_istore_n (lv' := [(1, .int (nI 0)), (0, .ref (a 0))]) S.1 S.2.1 dX1_findDepths_45 rfl hl (by decide) rfl (fun ls hl => ?_)
          have loop46 : ∀ (nf : Nat) (i : Nat) (dep1 : Nat → Int32) (H : Heap) (locs : List Loc) (ls : Array Slot), 2 ^ N - i < nf → i ≤ 2 ^ N → fd (levC (fun f t => goC N cn P M (nI f) (nI t)) (2 ^ N)) (2 ^ N) i dep1 = findC N cn P M dep → va_P D classes (RPw cI cL a dep1 false N pl pe cn P M) H → va_D A (RPw cI cL a dep1 false N pl pe cn P M) → va_S A s.heap H locs → lv_has ls 2 [(1, .int (nI i)), (0, .ref (a 0))] → W p l e (rmd 4) s m args below meth c H locs 0 0 Q (F0 m 46 ls []) := by
            intro nf
            induction nf with
            | zero => exact fun i dep1 H locs ls hn => absurd hn (Nat.not_lt_zero _)
            | succ nf ih46 =>
              intro i dep1 H locs ls hn hi hv hP hD hS hl
              refine lv_iload_n S.1 S.2.1 dX1_findDepths_46 rfl (lv_at hl 0 rfl) ?_
              refine lv_aload_n S.1 S.2.1 dX1_findDepths_47 rfl (lv_at hl 1 rfl) ?_
              refine rdV S cv_RX1_78 (c_X1_stateCount hV) hK hN hP (rp_rv hK hP) ⟨Nat.le_of_ble_eq_true rfl, Nat.le_of_ble_eq_true rfl⟩ ⟨Nat.zero_le _, Nat.zero_le _⟩ rfl hl.1 rfl (Nat.le_of_ble_eq_true rfl) dX1_findDepths_48 ?_
              refine lv_icmp_ge (tgt := 65) S.1 S.2.1 dX1_findDepths_51 (by decide) (fun h51 => ?_) (fun h51 => ?_)
              · have h51 := ge_n (by omega) (by omega) h51
                rw [fd_d h51] at hv
                subst hv
                refine lv_aload_n S.1 S.2.1 dX1_findDepths_65 rfl (lv_at hl 1 rfl) ?_
                refine lv_iconst (v := nI 1) S.1 S.2.1 dX1_findDepths_66 (by decide) ?_
                refine tp (y := bI true) (by decide) ?_
                refine p1_depthsKnown (x := true) S hK hP hD hS dX1_findDepths_67 (fun H locs hP hD hS => ?_)
                exact wr_retv hQ S hr hlk hP hS rfl dX1_findDepths_70
              · have h51 := ge_f (by omega) (by omega) h51
                refine lv_aload_n S.1 S.2.1 dX1_findDepths_54 rfl (lv_at hl 1 rfl) ?_
                refine lv_iload_n S.1 S.2.1 dX1_findDepths_55 rfl (lv_at hl 0 rfl) ?_
                refine wrVv S cv_RX1_94 (c_X1_goOnFrom (lev := i) hV) hK hN hP hD hS (rp_rv hK hP) ⟨Nat.le_of_ble_eq_true rfl, Nat.le_of_ble_eq_true rfl⟩ ⟨Nat.zero_le _, Nat.zero_le _⟩ rfl hl.1 rfl (Nat.le_of_ble_eq_true rfl) dX1_findDepths_56 (fun H locs hP hS _ => ?_)
                have hD : va_D A (RPw cI cL a (levC (fun f t => goC N cn P M (nI f) (nI t)) (2 ^ N) i dep1) false N pl pe cn P M) := D_same hD rfl
                refine lv_iinc (v := nI (i + 1)) (lv' := [(1, .int (nI (i + 1))), (0, .ref (a 0))]) S.1 S.2.1 dX1_findDepths_59 hl (k := 0) rfl (nI_1 _) (by decide) rfl (fun ls hl => ?_)
                refine lv_goto (tgt := 46) S.1 S.2.1 dX1_findDepths_62 (by decide) ?_
                exact ih46 (i + 1) _ _ _ ls (by omega) (by omega) (fd_b h51 hv rfl) hP hD hS (lv_sub hl [0, 1] rfl)
          exact loop46 _ 0 _ _ _ ls (Nat.lt_succ_self _) (Nat.zero_le _) rfl hP hD hS (lv_sub hl [0, 1] rfl)
        · have h15 := ge_f (by omega) (by omega) h15
          refine lv_aload_n S.1 S.2.1 dX1_findDepths_18 rfl (lv_at hl 1 rfl) ?_
          refine g1_depths S hK hP dX1_findDepths_19 ?_
          refine lv_iload_n S.1 S.2.1 dX1_findDepths_22 rfl (lv_at hl 0 rfl) ?_
          refine lv_aload_n S.1 S.2.1 dX1_findDepths_23 rfl (lv_at hl 1 rfl) ?_
          refine lv_iconst (v := nI 0) S.1 S.2.1 dX1_findDepths_24 (by decide) ?_
          refine lv_iload_n S.1 S.2.1 dX1_findDepths_25 rfl (lv_at hl 0 rfl) ?_
          refine rdV S cv_RX1_68 (c_X1_isIn (k := 0) (x := nI i) (by decide) hV) hK hN hP (rp_rv hK hP) ⟨Nat.le_of_ble_eq_true rfl, Nat.le_of_ble_eq_true rfl⟩ ⟨Nat.zero_le _, Nat.zero_le _⟩ rfl hl.1 rfl (Nat.le_of_ble_eq_true rfl) dX1_findDepths_26 ?_
          refine lv_if_eq (tgt := 36) S.1 S.2.1 dX1_findDepths_29 (by decide) (fun h29 => ?_) (fun h29 => ?_)
          · have h29 : (inC cn P M 0 (nI i)) = false := bI_f h29
            refine lv_iconst (v := -1) S.1 S.2.1 dX1_findDepths_36 (by decide) ?_
            refine s1_dep (x := -1) (by omega) S hK hP hD hS dX1_findDepths_37 (fun H locs hP hD hS => ?_)
            refine lv_iinc (v := nI (i + 1)) (lv' := [(1, .int (nI (i + 1))), (0, .ref (a 0))]) S.1 S.2.1 dX1_findDepths_38 hl (k := 0) rfl (nI_1 _) (by decide) rfl (fun ls hl => ?_)
            refine lv_goto (tgt := 10) S.1 S.2.1 dX1_findDepths_41 (by decide) ?_
            exact ih10 (i + 1) _ _ _ ls (by omega) (by omega) (fd_b h15 hv (by simp [iniC, h29])) hP hD hS (lv_sub hl [0, 1] rfl)
          · have h29 : (inC cn P M 0 (nI i)) = true := bI_t h29
            refine lv_iconst (v := nI 0) S.1 S.2.1 dX1_findDepths_32 (by decide) ?_
            refine lv_goto (tgt := 37) S.1 S.2.1 dX1_findDepths_33 (by decide) ?_
            refine s1_dep (x := nI 0) (by omega) S hK hP hD hS dX1_findDepths_37 (fun H locs hP hD hS => ?_)
            refine lv_iinc (v := nI (i + 1)) (lv' := [(1, .int (nI (i + 1))), (0, .ref (a 0))]) S.1 S.2.1 dX1_findDepths_38 hl (k := 0) rfl (nI_1 _) (by decide) rfl (fun ls hl => ?_)
            refine lv_goto (tgt := 10) S.1 S.2.1 dX1_findDepths_41 (by decide) ?_
            exact ih10 (i + 1) _ _ _ ls (by omega) (by omega) (fd_b h15 hv (by simp [iniC, h29])) hP hD hS (lv_sub hl [0, 1] rfl)
    exact loop10 _ 0 dep _ _ ls (Nat.lt_succ_self _) (Nat.zero_le _) rfl hP hD hS (lv_sub hl [0, 1] rfl)
  · refine lv_aload_n S.1 S.2.1 dX1_findDepths_0 rfl (lv_at hl 0 rfl) ?_
    refine g1_depthsKnown S hK hP dX1_findDepths_1 ?_
    refine lv_if_eq (tgt := 8) S.1 S.2.1 dX1_findDepths_4 (by decide) (fun hh => absurd hh (by decide)) (fun _ => ?_)
    exact wr_retv hQ S hr hlk hP hS rfl dX1_findDepths_7
set_option maxHeartbeats 4000000 in
set_option maxRecDepth 100000 in
theorem c_X1_worst {l : Launch} {D : va_G} {cI cL : ClassId} {a : Nat → Nat} {dep : Nat → Int32} {dk : Bool} {N pl : Nat} {pe : Int32} {cn : Nat → Nat} {P M : Nat → Nat → Int32}  (hV : RInv N cn) : MetW l yX1_worst cX1_worst 2 (some .int) 5 [.ref (a 0)] D cI cL (RPw cI cL a dep dk N pl pe cn P M) (some (.int (oI (-1) (woC N cn P M (depC dk N cn P M dep))))) (RPw cI cL a (depC dk N cn P M dep) true N pl pe cn P M) := by
  refine MetW.mk (by decide) (Nat.le_of_ble_eq_true rfl) ?_
  intro p e s m args below meth c Q A hQ S hr hlk hN hK hP hD hS ls hl
  have S : CallFix p m c cX1_worst 2 s args wt RX1 := S
  have hl : lv_has ls 2 [(0, .ref (a 0))] := hl
  have hz := hV.S
  refine lv_aload_n S.1 S.2.1 dX1_worst_0 rfl (lv_at hl 0 rfl) ?_
  refine wrVv S cv_RX1_75 (c_X1_findDepths hV) hK hN hP hD hS (rp_rv hK hP) ⟨Nat.le_of_ble_eq_true rfl, Nat.le_of_ble_eq_true rfl⟩ ⟨Nat.zero_le _, Nat.zero_le _⟩ rfl hl.1 rfl (Nat.le_of_ble_eq_true rfl) dX1_worst_1 (fun H locs hP hS _ => ?_)
  have hD : va_D A (RPw cI cL a (depC dk N cn P M dep) true N pl pe cn P M) := D_same hD rfl
  refine lv_iconst (v := nI 0) S.1 S.2.1 dX1_worst_4 (by decide) ?_
  refine lv_istore_n (lv' := [(1, .int (nI 0)), (0, .ref (a 0))]) S.1 S.2.1 dX1_worst_5 rfl hl (by decide) rfl (fun ls hl => ?_)
  have loop6 : ∀ (nf : Nat) (i : Nat) (H : Heap) (locs : List Loc) (ls : Array Slot), 2 ^ N - i < nf → i ≤ 2 ^ N → fo (rbC (depC dk N cn P M dep) cn P M) (2 ^ N) i = woC N cn P M (depC dk N cn P M dep) → va_P D classes (RPw cI cL a (depC dk N cn P M dep) true N pl pe cn P M) H → va_D A (RPw cI cL a (depC dk N cn P M dep) true N pl pe cn P M) → va_S A s.heap H locs → lv_has ls 2 [(1, .int (nI i)), (0, .ref (a 0))] → W p l e (rmd 5) s m args below meth c H locs 0 0 Q (F0 m 6 ls []) := by
    intro nf
    induction nf with
    | zero => exact fun i H locs ls hn => absurd hn (Nat.not_lt_zero _)
    | succ nf ih6 =>
      intro i H locs ls hn hi hv hP hD hS hl
      refine lv_iload_n S.1 S.2.1 dX1_worst_6 rfl (lv_at hl 0 rfl) ?_
      refine lv_aload_n S.1 S.2.1 dX1_worst_7 rfl (lv_at hl 1 rfl) ?_
      refine rdV S cv_RX1_78 (c_X1_stateCount hV) hK hN hP (rp_rv hK hP) ⟨Nat.le_of_ble_eq_true rfl, Nat.le_of_ble_eq_true rfl⟩ ⟨Nat.zero_le _, Nat.zero_le _⟩ rfl hl.1 rfl (Nat.le_of_ble_eq_true rfl) dX1_worst_8 ?_
      refine lv_icmp_ge (tgt := 30) S.1 S.2.1 dX1_worst_11 (by decide) (fun h11 => ?_) (fun h11 => ?_)
      · have h11 := ge_n (by omega) (by omega) h11
        refine lv_iconst (v := -1) S.1 S.2.1 dX1_worst_30 (by decide) ?_
        exact wr_ret hQ S hr hlk hP hS rfl (by rw [← hv, fo_d h11]; rfl) dX1_worst_31
      · have h11 := ge_f (by omega) (by omega) h11
        refine lv_aload_n S.1 S.2.1 dX1_worst_14 rfl (lv_at hl 1 rfl) ?_
        refine lv_iload_n S.1 S.2.1 dX1_worst_15 rfl (lv_at hl 0 rfl) ?_
        refine rdV S cv_RX1_81 (c_X1_isReachedBad (i := i) (by omega) hV) hK hN hP (rp_rv hK hP) ⟨Nat.le_of_ble_eq_true rfl, Nat.le_of_ble_eq_true rfl⟩ ⟨Nat.zero_le _, Nat.zero_le _⟩ rfl hl.1 rfl (Nat.le_of_ble_eq_true rfl) dX1_worst_16 ?_
        refine lv_if_eq (tgt := 24) S.1 S.2.1 dX1_worst_19 (by decide) (fun h19 => ?_) (fun h19 => ?_)
        · have h19 : (rbC (depC dk N cn P M dep) cn P M i) = false := bI_f h19
          refine lv_iinc (v := nI (i + 1)) (lv' := [(1, .int (nI (i + 1))), (0, .ref (a 0))]) S.1 S.2.1 dX1_worst_24 hl (k := 0) rfl (nI_1 _) (by decide) rfl (fun ls hl => ?_)
          refine lv_goto (tgt := 6) S.1 S.2.1 dX1_worst_27 (by decide) ?_
          exact ih6 (i + 1) _ _ ls (by omega) (by omega) (by rw [← hv, fo_s h11, if_neg (by rw [h19]; decide)]) hP hD hS (lv_sub hl [0, 1] rfl)
        · have h19 : (rbC (depC dk N cn P M dep) cn P M i) = true := bI_t h19
          refine lv_iload_n S.1 S.2.1 dX1_worst_22 rfl (lv_at hl 0 rfl) ?_
          exact wr_ret hQ S hr hlk hP hS rfl (by rw [← hv, fo_s h11, if_pos h19]; rfl) dX1_worst_23
  exact loop6 _ 0 _ _ ls (Nat.lt_succ_self _) (Nat.zero_le _) rfl hP hD hS (lv_sub hl [0, 1] rfl)
set_option maxHeartbeats 4000000 in
set_option maxRecDepth 100000 in
theorem c_X1_safe {l : Launch} {D : va_G} {cI cL : ClassId} {a : Nat → Nat} {dep : Nat → Int32} {dk : Bool} {N pl : Nat} {pe : Int32} {cn : Nat → Nat} {P M : Nat → Nat → Int32}  (hV : RInv N cn) : MetW l yX1_safe cX1_safe 1 (some .boolean) 6 [.ref (a 0)] D cI cL (RPw cI cL a dep dk N pl pe cn P M) (some (.int (bI (decide (oI (-1) (woC N cn P M (depC dk N cn P M dep)) = -1))))) (RPw cI cL a (depC dk N cn P M dep) true N pl pe cn P M) := by
  refine MetW.mk (by decide) (Nat.le_of_ble_eq_true rfl) ?_
  intro p e s m args below meth c Q A hQ S hr hlk hN hK hP hD hS ls hl
  have S : CallFix p m c cX1_safe 1 s args wt RX1 := S
  have hl : lv_has ls 1 [(0, .ref (a 0))] := hl
  refine lv_aload_n S.1 S.2.1 dX1_safe_0 rfl (lv_at hl 0 rfl) ?_
  refine wrVi S cv_RX1_71 (c_X1_worst hV) hK hN hP hD hS (rp_rv hK hP) ⟨Nat.le_of_ble_eq_true rfl, Nat.le_of_ble_eq_true rfl⟩ ⟨Nat.zero_le _, Nat.zero_le _⟩ rfl hl.1 rfl (Nat.le_of_ble_eq_true rfl) dX1_safe_1 (fun H locs hP hS _ => ?_)
  have hD : va_D A (RPw cI cL a (depC dk N cn P M dep) true N pl pe cn P M) := D_same hD rfl
  refine lv_iconst (v := -1) S.1 S.2.1 dX1_safe_4 (by decide) ?_
  refine lv_icmp_ne (tgt := 12) S.1 S.2.1 dX1_safe_5 (by decide) (fun h5 => ?_) (fun h5 => ?_)
  · refine lv_iconst (v := nI 0) S.1 S.2.1 dX1_safe_12 (by decide) ?_
    exact wr_retz hQ S hr hlk hP hS rfl (r0 (by simp [h5])) dX1_safe_13
  · refine lv_iconst (v := nI 1) S.1 S.2.1 dX1_safe_8 (by decide) ?_
    refine lv_goto (tgt := 13) S.1 S.2.1 dX1_safe_9 (by decide) ?_
    exact wr_retz hQ S hr hlk hP hS rfl (r1 (by simp [h5])) dX1_safe_13
set_option maxHeartbeats 4000000 in
set_option maxRecDepth 100000 in
theorem c_X1_steps {l : Launch} {D : va_G} {cI cL : ClassId} {a : Nat → Nat} {dep : Nat → Int32} {dk : Bool} {N pl : Nat} {pe : Int32} {cn : Nat → Nat} {P M : Nat → Nat → Int32}  (hV : RInv N cn) : MetW l yX1_steps cX1_steps 3 (some .int) 5 [.ref (a 0)] D cI cL (RPw cI cL a dep dk N pl pe cn P M) (some (.int (stC N cn P M (depC dk N cn P M dep)))) (RPw cI cL a (depC dk N cn P M dep) true N pl pe cn P M) := by
  refine MetW.mk (by decide) (Nat.le_of_ble_eq_true rfl) ?_
  intro p e s m args below meth c Q A hQ S hr hlk hN hK hP hD hS ls hl
  have S : CallFix p m c cX1_steps 3 s args wt RX1 := S
  have hl : lv_has ls 3 [(0, .ref (a 0))] := hl
  have hz := hV.S
  refine lv_aload_n S.1 S.2.1 dX1_steps_0 rfl (lv_at hl 0 rfl) ?_
  refine wrVv S cv_RX1_75 (c_X1_findDepths hV) hK hN hP hD hS (rp_rv hK hP) ⟨Nat.le_of_ble_eq_true rfl, Nat.le_of_ble_eq_true rfl⟩ ⟨Nat.zero_le _, Nat.zero_le _⟩ rfl hl.1 rfl (Nat.le_of_ble_eq_true rfl) dX1_steps_1 (fun H locs hP hS _ => ?_)
  have hD : va_D A (RPw cI cL a (depC dk N cn P M dep) true N pl pe cn P M) := D_same hD rfl
  refine lv_iconst (v := -1) S.1 S.2.1 dX1_steps_4 (by decide) ?_
  refine lv_istore_n (lv' := [(1, .int (-1)), (0, .ref (a 0))]) S.1 S.2.1 dX1_steps_5 rfl hl (by decide) rfl (fun ls hl => ?_)
  refine lv_iconst (v := nI 0) S.1 S.2.1 dX1_steps_6 (by decide) ?_
  refine lv_istore_n (lv' := [(2, .int (nI 0)), (1, .int (-1)), (0, .ref (a 0))]) S.1 S.2.1 dX1_steps_7 rfl hl (by decide) rfl (fun ls hl => ?_)
  have loop8 : ∀ (nf : Nat) (i : Nat) (x : Int32) (H : Heap) (locs : List Loc) (ls : Array Slot), 2 ^ N - i < nf → i ≤ 2 ^ N → fd (minF (fun i x => rbC (depC dk N cn P M dep) cn P M i && (decide (x = -1) || !decide (x ≤ (depC dk N cn P M dep) i))) (depC dk N cn P M dep)) (2 ^ N) i x = stC N cn P M (depC dk N cn P M dep) → va_P D classes (RPw cI cL a (depC dk N cn P M dep) true N pl pe cn P M) H → va_D A (RPw cI cL a (depC dk N cn P M dep) true N pl pe cn P M) → va_S A s.heap H locs → lv_has ls 3 [(2, .int (nI i)), (1, .int x), (0, .ref (a 0))] → W p l e (rmd 5) s m args below meth c H locs 0 0 Q (F0 m 8 ls []) := by
    intro nf
    induction nf with
    | zero => exact fun i x H locs ls hn => absurd hn (Nat.not_lt_zero _)
    | succ nf ih8 =>
      intro i x H locs ls hn hi hv hP hD hS hl
      refine lv_iload_n S.1 S.2.1 dX1_steps_8 rfl (lv_at hl 0 rfl) ?_
      refine lv_aload_n S.1 S.2.1 dX1_steps_9 rfl (lv_at hl 2 rfl) ?_
      refine rdV S cv_RX1_78 (c_X1_stateCount hV) hK hN hP (rp_rv hK hP) ⟨Nat.le_of_ble_eq_true rfl, Nat.le_of_ble_eq_true rfl⟩ ⟨Nat.zero_le _, Nat.zero_le _⟩ rfl hl.1 rfl (Nat.le_of_ble_eq_true rfl) dX1_steps_10 ?_
      refine lv_icmp_ge (tgt := 52) S.1 S.2.1 dX1_steps_13 (by decide) (fun h13 => ?_) (fun h13 => ?_)
      · have h13 := ge_n (by omega) (by omega) h13
        refine lv_iload_n S.1 S.2.1 dX1_steps_52 rfl (lv_at hl 1 rfl) ?_
        exact wr_ret hQ S hr hlk hP hS rfl (by rw [← hv, fd_d h13]) dX1_steps_53
      · have h13 := ge_f (by omega) (by omega) h13
        refine lv_aload_n S.1 S.2.1 dX1_steps_16 rfl (lv_at hl 2 rfl) ?_
        refine lv_iload_n S.1 S.2.1 dX1_steps_17 rfl (lv_at hl 0 rfl) ?_
        refine rdV S cv_RX1_81 (c_X1_isReachedBad (i := i) (by omega) hV) hK hN hP (rp_rv hK hP) ⟨Nat.le_of_ble_eq_true rfl, Nat.le_of_ble_eq_true rfl⟩ ⟨Nat.zero_le _, Nat.zero_le _⟩ rfl hl.1 rfl (Nat.le_of_ble_eq_true rfl) dX1_steps_18 ?_
        refine lv_if_eq (tgt := 46) S.1 S.2.1 dX1_steps_21 (by decide) (fun h21 => ?_) (fun h21 => ?_)
        · have h21 : (rbC (depC dk N cn P M dep) cn P M i) = false := bI_f h21
          refine lv_iinc (v := nI (i + 1)) (lv' := [(2, .int (nI (i + 1))), (1, .int x), (0, .ref (a 0))]) S.1 S.2.1 dX1_steps_46 hl (k := 0) rfl (nI_1 _) (by decide) rfl (fun ls hl => ?_)
          refine lv_goto (tgt := 8) S.1 S.2.1 dX1_steps_49 (by decide) ?_
          exact ih8 (i + 1) _ _ _ ls (by omega) (by omega) (fd_b h13 hv (by simp [minF, h21])) hP hD hS (lv_sub hl [0, 1, 2] rfl)
        · have h21 : (rbC (depC dk N cn P M dep) cn P M i) = true := bI_t h21
          refine lv_iload_n S.1 S.2.1 dX1_steps_24 rfl (lv_at hl 1 rfl) ?_
          refine lv_iconst (v := -1) S.1 S.2.1 dX1_steps_25 (by decide) ?_
          refine lv_icmp_eq (tgt := 39) S.1 S.2.1 dX1_steps_26 (by decide) (fun h26 => ?_) (fun h26 => ?_)
          · refine lv_aload_n S.1 S.2.1 dX1_steps_39 rfl (lv_at hl 2 rfl) ?_
            refine g1_depths S hK hP dX1_steps_40 ?_
            refine lv_iload_n S.1 S.2.1 dX1_steps_43 rfl (lv_at hl 0 rfl) ?_
            refine a1_dep (by omega) S hK hP dX1_steps_44 ?_
            refine lv_istore_n (lv' := [(1, .int ((depC dk N cn P M dep) i)), (2, .int (nI i)), (0, .ref (a 0))]) S.1 S.2.1 dX1_steps_45 rfl hl (by decide) rfl (fun ls hl => ?_)
            refine lv_iinc (v := nI (i + 1)) (lv' := [(2, .int (nI (i + 1))), (1, .int ((depC dk N cn P M dep) i)), (0, .ref (a 0))]) S.1 S.2.1 dX1_steps_46 hl (k := 1) rfl (nI_1 _) (by decide) rfl (fun ls hl => ?_)
            refine lv_goto (tgt := 8) S.1 S.2.1 dX1_steps_49 (by decide) ?_
            exact ih8 (i + 1) _ _ _ ls (by omega) (by omega) (fd_b h13 hv (by simp [minF, h21, h26])) hP hD hS (lv_sub hl [0, 1, 2] rfl)
          · refine lv_aload_n S.1 S.2.1 dX1_steps_29 rfl (lv_at hl 2 rfl) ?_
            refine g1_depths S hK hP dX1_steps_30 ?_
            refine lv_iload_n S.1 S.2.1 dX1_steps_33 rfl (lv_at hl 0 rfl) ?_
            refine a1_dep (by omega) S hK hP dX1_steps_34 ?_
            refine lv_iload_n S.1 S.2.1 dX1_steps_35 rfl (lv_at hl 1 rfl) ?_
            refine lv_icmp_ge (tgt := 46) S.1 S.2.1 dX1_steps_36 (by decide) (fun h36 => ?_) (fun h36 => ?_)
            · refine lv_iinc (v := nI (i + 1)) (lv' := [(2, .int (nI (i + 1))), (1, .int x), (0, .ref (a 0))]) S.1 S.2.1 dX1_steps_46 hl (k := 0) rfl (nI_1 _) (by decide) rfl (fun ls hl => ?_)
              refine lv_goto (tgt := 8) S.1 S.2.1 dX1_steps_49 (by decide) ?_
              exact ih8 (i + 1) _ _ _ ls (by omega) (by omega) (fd_b h13 hv (by simp [minF, h21, h26, h36])) hP hD hS (lv_sub hl [0, 1, 2] rfl)
            · refine lv_aload_n S.1 S.2.1 dX1_steps_39 rfl (lv_at hl 2 rfl) ?_
              refine g1_depths S hK hP dX1_steps_40 ?_
              refine lv_iload_n S.1 S.2.1 dX1_steps_43 rfl (lv_at hl 0 rfl) ?_
              refine a1_dep (by omega) S hK hP dX1_steps_44 ?_
              refine lv_istore_n (lv' := [(1, .int ((depC dk N cn P M dep) i)), (2, .int (nI i)), (0, .ref (a 0))]) S.1 S.2.1 dX1_steps_45 rfl hl (by decide) rfl (fun ls hl => ?_)
              refine lv_iinc (v := nI (i + 1)) (lv' := [(2, .int (nI (i + 1))), (1, .int ((depC dk N cn P M dep) i)), (0, .ref (a 0))]) S.1 S.2.1 dX1_steps_46 hl (k := 1) rfl (nI_1 _) (by decide) rfl (fun ls hl => ?_)
              refine lv_goto (tgt := 8) S.1 S.2.1 dX1_steps_49 (by decide) ?_
              exact ih8 (i + 1) _ _ _ ls (by omega) (by omega) (fd_b h13 hv (by simp [minF, h21, h26, h36])) hP hD hS (lv_sub hl [0, 1, 2] rfl)
  exact loop8 _ 0 _ _ _ ls (Nat.lt_succ_self _) (Nat.zero_le _) rfl hP hD hS (lv_sub hl [0, 1, 2] rfl)
set_option maxHeartbeats 4000000 in
set_option maxRecDepth 100000 in
theorem c_X1_depth_f {l : Launch} {D : va_G} {cI cL : ClassId} {a : Nat → Nat} {dep : Nat → Int32} {dk : Bool} {N pl : Nat} {pe : Int32} {cn : Nat → Nat} {P M : Nat → Nat → Int32} {x : Int32} (hb : stB N x = false)  (hV : RInv N cn) : MetR l yX1_depth cX1_depth 2 (some .int) 5 [.ref (a 0), .int x] D cI cL (RPw cI cL a dep dk N pl pe cn P M) (-1) := by
  refine MetR.mk (by decide) (Nat.le_of_ble_eq_true rfl) ?_
  intro p e s m args below meth c Q hQ S hr hlk hN hK hP ls hl
  have S : CallFix p m c cX1_depth 2 s args wt RX1 := S
  have hl : lv_has ls 2 [(0, .ref (a 0)), (1, .int x)] := hl
  refine lv_aload_n S.1 S.2.1 dX1_depth_0 rfl (lv_at hl 0 rfl) ?_
  refine lv_iload_n S.1 S.2.1 dX1_depth_1 rfl (lv_at hl 1 rfl) ?_
  refine rdV S cv_RX1_62 (c_X1_isState (x := x) hV) hK hN hP (rp_rv hK hP) ⟨Nat.le_of_ble_eq_true rfl, Nat.le_of_ble_eq_true rfl⟩ ⟨Nat.zero_le _, Nat.zero_le _⟩ rfl hl.1 rfl (Nat.le_of_ble_eq_true rfl) dX1_depth_2 ?_
  refine lv_if_ne (tgt := 10) S.1 S.2.1 dX1_depth_5 (by decide) (fun hh => absurd (by rw [hb]; rfl) hh) (fun _ => ?_)
  refine lv_iconst (v := -1) S.1 S.2.1 dX1_depth_8 (by decide) ?_
  exact rd_ret hQ S hr hlk rfl dX1_depth_9
set_option maxHeartbeats 4000000 in
set_option maxRecDepth 100000 in
theorem c_X1_depth_t {l : Launch} {D : va_G} {cI cL : ClassId} {a : Nat → Nat} {dep : Nat → Int32} {dk : Bool} {N pl : Nat} {pe : Int32} {cn : Nat → Nat} {P M : Nat → Nat → Int32} {i : Nat} (hi : i < 2 ^ N)  (hV : RInv N cn) : MetW l yX1_depth cX1_depth 2 (some .int) 5 [.ref (a 0), .int (nI i)] D cI cL (RPw cI cL a dep dk N pl pe cn P M) (some (.int ((depC dk N cn P M dep) i))) (RPw cI cL a (depC dk N cn P M dep) true N pl pe cn P M) := by
  refine MetW.mk (by decide) (Nat.le_of_ble_eq_true rfl) ?_
  intro p e s m args below meth c Q A hQ S hr hlk hN hK hP hD hS ls hl
  have S : CallFix p m c cX1_depth 2 s args wt RX1 := S
  have hl : lv_has ls 2 [(0, .ref (a 0)), (1, .int (nI i))] := hl
  have hz := hV.S
  refine lv_aload_n S.1 S.2.1 dX1_depth_0 rfl (lv_at hl 0 rfl) ?_
  refine lv_iload_n S.1 S.2.1 dX1_depth_1 rfl (lv_at hl 1 rfl) ?_
  refine rdV S cv_RX1_62 (c_X1_isState (x := nI i) hV) hK hN hP (rp_rv hK hP) ⟨Nat.le_of_ble_eq_true rfl, Nat.le_of_ble_eq_true rfl⟩ ⟨Nat.zero_le _, Nat.zero_le _⟩ rfl hl.1 rfl (Nat.le_of_ble_eq_true rfl) dX1_depth_2 ?_
  refine lv_if_ne (tgt := 10) S.1 S.2.1 dX1_depth_5 (by decide) (fun _ => ?_) (fun hh => absurd hh (by rw [stB_n hV hi]; decide))
  refine lv_aload_n S.1 S.2.1 dX1_depth_10 rfl (lv_at hl 0 rfl) ?_
  refine wrVv S cv_RX1_75 (c_X1_findDepths hV) hK hN hP hD hS (rp_rv hK hP) ⟨Nat.le_of_ble_eq_true rfl, Nat.le_of_ble_eq_true rfl⟩ ⟨Nat.zero_le _, Nat.zero_le _⟩ rfl hl.1 rfl (Nat.le_of_ble_eq_true rfl) dX1_depth_11 (fun H locs hP hS _ => ?_)
  have hD : va_D A (RPw cI cL a (depC dk N cn P M dep) true N pl pe cn P M) := D_same hD rfl
  refine lv_aload_n S.1 S.2.1 dX1_depth_14 rfl (lv_at hl 0 rfl) ?_
  refine g1_depths S hK hP dX1_depth_15 ?_
  refine lv_iload_n S.1 S.2.1 dX1_depth_18 rfl (lv_at hl 1 rfl) ?_
  refine a1_dep (by omega) S hK hP dX1_depth_19 ?_
  exact wr_ret hQ S hr hlk hP hS rfl rfl dX1_depth_20
set_option maxHeartbeats 4000000 in
set_option maxRecDepth 100000 in
theorem c_X1_reached {l : Launch} {D : va_G} {cI cL : ClassId} {a : Nat → Nat} {dep : Nat → Int32} {dk : Bool} {N pl : Nat} {pe : Int32} {cn : Nat → Nat} {P M : Nat → Nat → Int32}  (hV : RInv N cn) : MetW l yX1_reached cX1_reached 3 (some .int) 5 [.ref (a 0)] D cI cL (RPw cI cL a dep dk N pl pe cn P M) (some (.int (nI (reC N (depC dk N cn P M dep))))) (RPw cI cL a (depC dk N cn P M dep) true N pl pe cn P M) := by
  refine MetW.mk (by decide) (Nat.le_of_ble_eq_true rfl) ?_
  intro p e s m args below meth c Q A hQ S hr hlk hN hK hP hD hS ls hl
  have S : CallFix p m c cX1_reached 3 s args wt RX1 := S
  have hl : lv_has ls 3 [(0, .ref (a 0))] := hl
  have hz := hV.S
  refine lv_aload_n S.1 S.2.1 dX1_reached_0 rfl (lv_at hl 0 rfl) ?_
  refine wrVv S cv_RX1_75 (c_X1_findDepths hV) hK hN hP hD hS (rp_rv hK hP) ⟨Nat.le_of_ble_eq_true rfl, Nat.le_of_ble_eq_true rfl⟩ ⟨Nat.zero_le _, Nat.zero_le _⟩ rfl hl.1 rfl (Nat.le_of_ble_eq_true rfl) dX1_reached_1 (fun H locs hP hS _ => ?_)
  have hD : va_D A (RPw cI cL a (depC dk N cn P M dep) true N pl pe cn P M) := D_same hD rfl
  refine lv_iconst (v := nI 0) S.1 S.2.1 dX1_reached_4 (by decide) ?_
  refine lv_istore_n (lv' := [(1, .int (nI 0)), (0, .ref (a 0))]) S.1 S.2.1 dX1_reached_5 rfl hl (by decide) rfl (fun ls hl => ?_)
  refine lv_iconst (v := nI 0) S.1 S.2.1 dX1_reached_6 (by decide) ?_
  refine lv_istore_n (lv' := [(2, .int (nI 0)), (1, .int (nI 0)), (0, .ref (a 0))]) S.1 S.2.1 dX1_reached_7 rfl hl (by decide) rfl (fun ls hl => ?_)
  have loop8 : ∀ (nf : Nat) (i : Nat) (x : Nat) (H : Heap) (locs : List Loc) (ls : Array Slot), 2 ^ N - i < nf → i ≤ 2 ^ N → fd (cntF (fun i => !decide ((depC dk N cn P M dep) i = -1))) (2 ^ N) i x = reC N (depC dk N cn P M dep) → va_P D classes (RPw cI cL a (depC dk N cn P M dep) true N pl pe cn P M) H → va_D A (RPw cI cL a (depC dk N cn P M dep) true N pl pe cn P M) → va_S A s.heap H locs → lv_has ls 3 [(2, .int (nI i)), (1, .int (nI x)), (0, .ref (a 0))] → W p l e (rmd 5) s m args below meth c H locs 0 0 Q (F0 m 8 ls []) := by
    intro nf
    induction nf with
    | zero => exact fun i x H locs ls hn => absurd hn (Nat.not_lt_zero _)
    | succ nf ih8 =>
      intro i x H locs ls hn hi hv hP hD hS hl
      refine lv_iload_n S.1 S.2.1 dX1_reached_8 rfl (lv_at hl 0 rfl) ?_
      refine lv_aload_n S.1 S.2.1 dX1_reached_9 rfl (lv_at hl 2 rfl) ?_
      refine rdV S cv_RX1_78 (c_X1_stateCount hV) hK hN hP (rp_rv hK hP) ⟨Nat.le_of_ble_eq_true rfl, Nat.le_of_ble_eq_true rfl⟩ ⟨Nat.zero_le _, Nat.zero_le _⟩ rfl hl.1 rfl (Nat.le_of_ble_eq_true rfl) dX1_reached_10 ?_
      refine lv_icmp_ge (tgt := 35) S.1 S.2.1 dX1_reached_13 (by decide) (fun h13 => ?_) (fun h13 => ?_)
      · have h13 := ge_n (by omega) (by omega) h13
        refine lv_iload_n S.1 S.2.1 dX1_reached_35 rfl (lv_at hl 1 rfl) ?_
        exact wr_ret hQ S hr hlk hP hS rfl (by rw [← hv, fd_d h13]) dX1_reached_36
      · have h13 := ge_f (by omega) (by omega) h13
        refine lv_aload_n S.1 S.2.1 dX1_reached_16 rfl (lv_at hl 2 rfl) ?_
        refine g1_depths S hK hP dX1_reached_17 ?_
        refine lv_iload_n S.1 S.2.1 dX1_reached_20 rfl (lv_at hl 0 rfl) ?_
        refine a1_dep (by omega) S hK hP dX1_reached_21 ?_
        refine lv_iconst (v := -1) S.1 S.2.1 dX1_reached_22 (by decide) ?_
        refine lv_icmp_eq (tgt := 29) S.1 S.2.1 dX1_reached_23 (by decide) (fun h23 => ?_) (fun h23 => ?_)
        · refine lv_iinc (v := nI (i + 1)) (lv' := [(2, .int (nI (i + 1))), (1, .int (nI x)), (0, .ref (a 0))]) S.1 S.2.1 dX1_reached_29 hl (k := 0) rfl (nI_1 _) (by decide) rfl (fun ls hl => ?_)
          refine lv_goto (tgt := 8) S.1 S.2.1 dX1_reached_32 (by decide) ?_
          exact ih8 (i + 1) _ _ _ ls (by omega) (by omega) (fd_b h13 hv (by simp [cntF, h23])) hP hD hS (lv_sub hl [0, 1, 2] rfl)
        · refine lv_iinc (v := nI (x + 1)) (lv' := [(1, .int (nI (x + 1))), (2, .int (nI i)), (0, .ref (a 0))]) S.1 S.2.1 dX1_reached_26 hl (k := 1) rfl (nI_1 _) (by decide) rfl (fun ls hl => ?_)
          refine lv_iinc (v := nI (i + 1)) (lv' := [(2, .int (nI (i + 1))), (1, .int (nI (x + 1))), (0, .ref (a 0))]) S.1 S.2.1 dX1_reached_29 hl (k := 1) rfl (nI_1 _) (by decide) rfl (fun ls hl => ?_)
          refine lv_goto (tgt := 8) S.1 S.2.1 dX1_reached_32 (by decide) ?_
          exact ih8 (i + 1) _ _ _ ls (by omega) (by omega) (fd_b h13 hv (by simp [cntF, h23])) hP hD hS (lv_sub hl [0, 1, 2] rfl)
  exact loop8 _ 0 0 _ _ ls (Nat.lt_succ_self _) (Nat.zero_le _) rfl hP hD hS (lv_sub hl [0, 1, 2] rfl)
set_option maxHeartbeats 4000000 in
set_option maxRecDepth 100000 in
theorem c_X1_walk_f {l : Launch} {D : va_G} {cI cL : ClassId} {a : Nat → Nat} {dep : Nat → Int32} {dk : Bool} {N pl : Nat} {pe : Int32} {cn : Nat → Nat} {P M : Nat → Nat → Int32} {x : Int32} (hb : waB N pl pe cn P M x = false) (hp : pl ≤ 64)  (hV : RInv N cn) : MetR l yX1_walk cX1_walk 3 (some .int) 2 [.ref (a 0), .int x] D cI cL (RPw cI cL a dep dk N pl pe cn P M) (-1) := by
  refine MetR.mk (by decide) (Nat.le_of_ble_eq_true rfl) ?_
  intro p e s m args below meth c Q hQ S hr hlk hN hK hP ls hl
  have S : CallFix p m c cX1_walk 3 s args wt RX1 := S
  have hl : lv_has ls 3 [(0, .ref (a 0)), (1, .int x)] := hl
  refine lv_aload_n S.1 S.2.1 dX1_walk_0 rfl (lv_at hl 0 rfl) ?_
  refine lv_iload_n S.1 S.2.1 dX1_walk_1 rfl (lv_at hl 1 rfl) ?_
  refine rdV S cv_RX1_62 (c_X1_isState (x := x) hV) hK hN hP (rp_rv hK hP) ⟨Nat.le_of_ble_eq_true rfl, Nat.le_of_ble_eq_true rfl⟩ ⟨Nat.zero_le _, Nat.zero_le _⟩ rfl hl.1 rfl (Nat.le_of_ble_eq_true rfl) dX1_walk_2 ?_
  refine lv_if_eq (tgt := 17) S.1 S.2.1 dX1_walk_5 (by decide) (fun h5 => ?_) (fun h5 => ?_)
  · have h5 : (stB N x) = false := bI_f h5
    refine lv_iconst (v := -1) S.1 S.2.1 dX1_walk_17 (by decide) ?_
    exact rd_ret hQ S hr hlk rfl dX1_walk_18
  · have h5 : (stB N x) = true := bI_t h5
    refine lv_aload_n S.1 S.2.1 dX1_walk_8 rfl (lv_at hl 0 rfl) ?_
    refine g1_pathLength S hK hP dX1_walk_9 ?_
    refine lv_bipush (v := nI 64) S.1 S.2.1 dX1_walk_12 (by decide) ?_
    refine lv_icmp_lt (tgt := 19) S.1 S.2.1 dX1_walk_14 (by decide) (fun h14 => ?_) (fun h14 => ?_)
    · have h14 := lt_n (by omega) (by decide) h14
      refine lv_aload_n S.1 S.2.1 dX1_walk_19 rfl (lv_at hl 0 rfl) ?_
      refine g1_pathLength S hK hP dX1_walk_20 ?_
      refine lv_if_ne (tgt := 35) S.1 S.2.1 dX1_walk_23 (by decide) (fun h23 => ?_) (fun h23 => ?_)
      · refine lv_aload_n S.1 S.2.1 dX1_walk_35 rfl (lv_at hl 0 rfl) ?_
        refine lv_aload_n S.1 S.2.1 dX1_walk_36 rfl (lv_at hl 0 rfl) ?_
        refine g1_pathEnd S hK hP dX1_walk_37 ?_
        refine lv_iload_n S.1 S.2.1 dX1_walk_40 rfl (lv_at hl 1 rfl) ?_
        refine rdV S cv_RX1_65 (c_X1_canGo (f := pe) (t := x) hV) hK hN hP (rp_rv hK hP) ⟨Nat.le_of_ble_eq_true rfl, Nat.le_of_ble_eq_true rfl⟩ ⟨Nat.zero_le _, Nat.zero_le _⟩ rfl hl.1 rfl (Nat.le_of_ble_eq_true rfl) dX1_walk_41 ?_
        refine lv_istore_n (lv' := [(2, .int (bI (goC N cn P M pe x))), (0, .ref (a 0)), (1, .int x)]) S.1 S.2.1 dX1_walk_44 rfl hl (by decide) rfl (fun ls hl => ?_)
        refine lv_iload_n S.1 S.2.1 dX1_walk_45 rfl (lv_at hl 0 rfl) ?_
        refine lv_if_ne (tgt := 51) S.1 S.2.1 dX1_walk_46 (by decide) (fun h46 => ?_) (fun h46 => ?_)
        · have h46 : (goC N cn P M pe x) = true := bI_t h46
          exact absurd hb (by rw [waB_t h5 h14 (Or.inr ⟨h23, h46⟩)]; decide)
        · have h46 : (goC N cn P M pe x) = false := bI_f h46
          refine lv_iconst (v := -1) S.1 S.2.1 dX1_walk_49 (by decide) ?_
          exact rd_ret hQ S hr hlk rfl dX1_walk_50
      · refine lv_aload_n S.1 S.2.1 dX1_walk_26 rfl (lv_at hl 0 rfl) ?_
        refine lv_iconst (v := nI 0) S.1 S.2.1 dX1_walk_27 (by decide) ?_
        refine lv_iload_n S.1 S.2.1 dX1_walk_28 rfl (lv_at hl 1 rfl) ?_
        refine rdV S cv_RX1_68 (c_X1_isIn (k := 0) (x := x) (by decide) hV) hK hN hP (rp_rv hK hP) ⟨Nat.le_of_ble_eq_true rfl, Nat.le_of_ble_eq_true rfl⟩ ⟨Nat.zero_le _, Nat.zero_le _⟩ rfl hl.1 rfl (Nat.le_of_ble_eq_true rfl) dX1_walk_29 ?_
        refine lv_goto (tgt := 44) S.1 S.2.1 dX1_walk_32 (by decide) ?_
        refine lv_istore_n (lv' := [(2, .int (bI (inC cn P M 0 x))), (0, .ref (a 0)), (1, .int x)]) S.1 S.2.1 dX1_walk_44 rfl hl (by decide) rfl (fun ls hl => ?_)
        refine lv_iload_n S.1 S.2.1 dX1_walk_45 rfl (lv_at hl 0 rfl) ?_
        refine lv_if_ne (tgt := 51) S.1 S.2.1 dX1_walk_46 (by decide) (fun h46 => ?_) (fun h46 => ?_)
        · have h46 : (inC cn P M 0 x) = true := bI_t h46
          exact absurd hb (by rw [waB_t h5 h14 (Or.inl ⟨h23, h46⟩)]; decide)
        · have h46 : (inC cn P M 0 x) = false := bI_f h46
          refine lv_iconst (v := -1) S.1 S.2.1 dX1_walk_49 (by decide) ?_
          exact rd_ret hQ S hr hlk rfl dX1_walk_50
    · refine lv_iconst (v := -1) S.1 S.2.1 dX1_walk_17 (by decide) ?_
      exact rd_ret hQ S hr hlk rfl dX1_walk_18
set_option maxHeartbeats 4000000 in
set_option maxRecDepth 100000 in
theorem c_X1_walk_t {l : Launch} {D : va_G} {cI cL : ClassId} {a : Nat → Nat} {dep : Nat → Int32} {dk : Bool} {N pl : Nat} {pe : Int32} {cn : Nat → Nat} {P M : Nat → Nat → Int32} {x : Int32} (hb : waB N pl pe cn P M x = true)  (hV : RInv N cn) : MetW l yX1_walk cX1_walk 3 (some .int) 2 [.ref (a 0), .int x] D cI cL (RPw cI cL a dep dk N pl pe cn P M) (some (.int (nI (pl + 1)))) (RPw cI cL a dep dk N (pl + 1) x cn P M) := by
  refine MetW.mk (by decide) (Nat.le_of_ble_eq_true rfl) ?_
  intro p e s m args below meth c Q A hQ S hr hlk hN hK hP hD hS ls hl
  have S : CallFix p m c cX1_walk 3 s args wt RX1 := S
  have hl : lv_has ls 3 [(0, .ref (a 0)), (1, .int x)] := hl
  obtain ⟨hs, hp, hc⟩ := waB_e hb
  refine lv_aload_n S.1 S.2.1 dX1_walk_0 rfl (lv_at hl 0 rfl) ?_
  refine lv_iload_n S.1 S.2.1 dX1_walk_1 rfl (lv_at hl 1 rfl) ?_
  refine rdV S cv_RX1_62 (c_X1_isState (x := x) hV) hK hN hP (rp_rv hK hP) ⟨Nat.le_of_ble_eq_true rfl, Nat.le_of_ble_eq_true rfl⟩ ⟨Nat.zero_le _, Nat.zero_le _⟩ rfl hl.1 rfl (Nat.le_of_ble_eq_true rfl) dX1_walk_2 ?_
  refine lv_if_eq (tgt := 17) S.1 S.2.1 dX1_walk_5 (by decide) (fun hh => absurd hh (by rw [hs]; decide)) (fun _ => ?_)
  refine lv_aload_n S.1 S.2.1 dX1_walk_8 rfl (lv_at hl 0 rfl) ?_
  refine g1_pathLength S hK hP dX1_walk_9 ?_
  refine lv_bipush (v := nI 64) S.1 S.2.1 dX1_walk_12 (by decide) ?_
  refine lv_icmp_lt (tgt := 19) S.1 S.2.1 dX1_walk_14 (by decide) (fun _ => ?_) (fun hh => absurd ((nI_ltI (by omega) (by decide)).mpr hp) hh)
  refine lv_aload_n S.1 S.2.1 dX1_walk_19 rfl (lv_at hl 0 rfl) ?_
  refine g1_pathLength S hK hP dX1_walk_20 ?_
  refine lv_if_ne (tgt := 35) S.1 S.2.1 dX1_walk_23 (by decide) (fun h23 => ?_) (fun h23 => ?_)
  · refine lv_aload_n S.1 S.2.1 dX1_walk_35 rfl (lv_at hl 0 rfl) ?_
    refine lv_aload_n S.1 S.2.1 dX1_walk_36 rfl (lv_at hl 0 rfl) ?_
    refine g1_pathEnd S hK hP dX1_walk_37 ?_
    refine lv_iload_n S.1 S.2.1 dX1_walk_40 rfl (lv_at hl 1 rfl) ?_
    refine rdV S cv_RX1_65 (c_X1_canGo (f := pe) (t := x) hV) hK hN hP (rp_rv hK hP) ⟨Nat.le_of_ble_eq_true rfl, Nat.le_of_ble_eq_true rfl⟩ ⟨Nat.zero_le _, Nat.zero_le _⟩ rfl hl.1 rfl (Nat.le_of_ble_eq_true rfl) dX1_walk_41 ?_
    refine lv_istore_n (lv' := [(2, .int (bI (goC N cn P M pe x))), (0, .ref (a 0)), (1, .int x)]) S.1 S.2.1 dX1_walk_44 rfl hl (by decide) rfl (fun ls hl => ?_)
    refine lv_iload_n S.1 S.2.1 dX1_walk_45 rfl (lv_at hl 0 rfl) ?_
    refine lv_if_ne (tgt := 51) S.1 S.2.1 dX1_walk_46 (by decide) (fun _ => ?_) (fun hh => absurd hh (by rw [hc.2 h23]; decide))
    refine lv_aload_n S.1 S.2.1 dX1_walk_51 rfl (lv_at hl 1 rfl) ?_
    refine lv_iload_n S.1 S.2.1 dX1_walk_52 rfl (lv_at hl 2 rfl) ?_
    refine p1_pathEnd (x := x) S hK hP hD hS dX1_walk_53 (fun H locs hP hD hS => ?_)
    refine lv_aload_n S.1 S.2.1 dX1_walk_56 rfl (lv_at hl 1 rfl) ?_
    refine lv_dup S.1 S.2.1 dX1_walk_57 rfl ?_
    refine g1_pathLength S hK hP dX1_walk_58 ?_
    refine lv_iconst (v := nI 1) S.1 S.2.1 dX1_walk_61 (by decide) ?_
    refine lv_iadd S.1 S.2.1 dX1_walk_62 ?_
    refine tp (y := nI (pl + 1)) (nI_1 _) ?_
    refine p1_pathLength (x := (pl + 1)) S hK hP hD hS dX1_walk_63 (fun H locs hP hD hS => ?_)
    refine lv_aload_n S.1 S.2.1 dX1_walk_66 rfl (lv_at hl 1 rfl) ?_
    refine g1_pathLength S hK hP dX1_walk_67 ?_
    exact wr_ret hQ S hr hlk hP hS rfl rfl dX1_walk_70
  · refine lv_aload_n S.1 S.2.1 dX1_walk_26 rfl (lv_at hl 0 rfl) ?_
    refine lv_iconst (v := nI 0) S.1 S.2.1 dX1_walk_27 (by decide) ?_
    refine lv_iload_n S.1 S.2.1 dX1_walk_28 rfl (lv_at hl 1 rfl) ?_
    refine rdV S cv_RX1_68 (c_X1_isIn (k := 0) (x := x) (by decide) hV) hK hN hP (rp_rv hK hP) ⟨Nat.le_of_ble_eq_true rfl, Nat.le_of_ble_eq_true rfl⟩ ⟨Nat.zero_le _, Nat.zero_le _⟩ rfl hl.1 rfl (Nat.le_of_ble_eq_true rfl) dX1_walk_29 ?_
    refine lv_goto (tgt := 44) S.1 S.2.1 dX1_walk_32 (by decide) ?_
    refine lv_istore_n (lv' := [(2, .int (bI (inC cn P M 0 x))), (0, .ref (a 0)), (1, .int x)]) S.1 S.2.1 dX1_walk_44 rfl hl (by decide) rfl (fun ls hl => ?_)
    refine lv_iload_n S.1 S.2.1 dX1_walk_45 rfl (lv_at hl 0 rfl) ?_
    refine lv_if_ne (tgt := 51) S.1 S.2.1 dX1_walk_46 (by decide) (fun _ => ?_) (fun hh => absurd hh (by rw [hc.1 h23]; decide))
    refine lv_aload_n S.1 S.2.1 dX1_walk_51 rfl (lv_at hl 1 rfl) ?_
    refine lv_iload_n S.1 S.2.1 dX1_walk_52 rfl (lv_at hl 2 rfl) ?_
    refine p1_pathEnd (x := x) S hK hP hD hS dX1_walk_53 (fun H locs hP hD hS => ?_)
    refine lv_aload_n S.1 S.2.1 dX1_walk_56 rfl (lv_at hl 1 rfl) ?_
    refine lv_dup S.1 S.2.1 dX1_walk_57 rfl ?_
    refine g1_pathLength S hK hP dX1_walk_58 ?_
    refine lv_iconst (v := nI 1) S.1 S.2.1 dX1_walk_61 (by decide) ?_
    refine lv_iadd S.1 S.2.1 dX1_walk_62 ?_
    refine tp (y := nI (pl + 1)) (nI_1 _) ?_
    refine p1_pathLength (x := (pl + 1)) S hK hP hD hS dX1_walk_63 (fun H locs hP hD hS => ?_)
    refine lv_aload_n S.1 S.2.1 dX1_walk_66 rfl (lv_at hl 1 rfl) ?_
    refine g1_pathLength S hK hP dX1_walk_67 ?_
    exact wr_ret hQ S hr hlk hP hS rfl rfl dX1_walk_70
