theorem okc_1 {p m x : Int32} (h : ¬ p &&& x = 0) : okc p m x = true := by
  unfold okc
  rw [decide_eq_false h]
  rfl
theorem okc_2 {p m x : Int32} (h : ¬ m &&& (x ^^^ (-1)) = 0) : okc p m x = true := by
  unfold okc
  rw [decide_eq_false h, Bool.and_false]
  rfl
theorem okc_0 {p m x : Int32} (h1 : p &&& x = 0) (h : m &&& (x ^^^ (-1)) = 0) : okc p m x = false := by
  unfold okc
  rw [decide_eq_true h, decide_eq_true h1]
  rfl
theorem liB_t {x : Int32} (h : liB x = true) : ∃ k : Nat, k < 4 ∧ x = nI k := by
  unfold liB at h
  simp only [Bool.and_eq_true, Bool.not_eq_true', decide_eq_false_iff_not] at h
  rcases pk_ix x (n := 4) (by decide) with h1 | h1 | h1
  · exact absurd h1 h.1
  · exact absurd h1 h.2
  · exact h1
theorem fo_inK (q : Nat → Bool) : ∀ (k i r : Nat), foK q k i = some r → i ≤ r ∧ r < i + k ∧ q r = true
  | 0, i, r, h => by simp [foK] at h
  | k + 1, i, r, h => by
    unfold foK at h
    by_cases hq : q i = true
    · rw [if_pos hq] at h
      cases h
      exact ⟨Nat.le_refl _, by omega, hq⟩
    · rw [if_neg hq] at h
      obtain ⟨h1, h2, h3⟩ := fo_inK q k (i + 1) r h
      exact ⟨by omega, by omega, h3⟩
theorem fo_in {q : Nat → Bool} {S i r : Nat} (h : fo q S i = some r) : i ≤ r ∧ r < S := by
  obtain ⟨h1, h2, -⟩ := fo_inK q (S - i) i r h
  exact ⟨h1, by omega⟩
def hoC (N : Nat) (cn : Nat → Nat) (P M : Nat → Nat → Int32) (li x y : Int32) : Bool := liB li && (stB N x && (if li = nI 1 then stB N y && goC N cn P M x y else inC cn P M li.toNatClampNeg x))
set_option maxHeartbeats 4000000 in
set_option maxRecDepth 100000 in
theorem c_X0_allHold {l : Launch} {D : va_G} {cI cL : ClassId} {a : Nat → Nat} {dep : Nat → Int32} {dk : Bool} {N pl : Nat} {pe : Int32} {cn : Nat → Nat} {P M : Nat → Nat → Int32} {k : Nat} {x : Int32} (hk : k < 4)  (hV : RInv N cn) : MetR l yX0_allHold cX0_allHold 3 (some .boolean) 0 [.ref (a (3 + 3 * k)), .int x] D cI cL (RPw cI cL a dep dk N pl pe cn P M) (bI (inC cn P M k x)) := by
  refine MetR.mk (by decide) (Nat.le_of_ble_eq_true rfl) ?_
  intro p e s m args below meth c Q hQ S hr hlk hN hK hP ls hl
  have S : CallFix p m c cX0_allHold 3 s args wt RX0 := S
  have hl : lv_has ls 3 [(0, .ref (a (3 + 3 * k))), (1, .int x)] := hl
  have hc := hV.2.2 k hk
  refine lv_iconst (v := nI 0) S.1 S.2.1 dX0_allHold_0 (by decide) ?_
  refine lv_istore_n (lv' := [(2, .int (nI 0)), (0, .ref (a (3 + 3 * k))), (1, .int x)]) S.1 S.2.1 dX0_allHold_1 rfl hl (by decide) rfl (fun ls hl => ?_)
  have loop2 : ∀ (nf : Nat) (i : Nat) (ls : Array Slot), cn k - i < nf → i ≤ cn k → al (fun i => okc (P k i) (M k i) x) (cn k) i = inC cn P M k x → lv_has ls 3 [(2, .int (nI i)), (0, .ref (a (3 + 3 * k))), (1, .int x)] → W p l e (rmd 0) s m args below meth c s.heap [] 0 0 Q (F0 m 2 ls []) := by
    intro nf
    induction nf with
    | zero => exact fun i ls hn => absurd hn (Nat.not_lt_zero _)
    | succ nf ih2 =>
      intro i ls hn hi hv hl
      refine lv_iload_n S.1 S.2.1 dX0_allHold_2 rfl (lv_at hl 0 rfl) ?_
      refine lv_aload_n S.1 S.2.1 dX0_allHold_3 rfl (lv_at hl 1 rfl) ?_
      refine g0_size hk S hK hP dX0_allHold_4 ?_
      refine lv_icmp_ge (tgt := 42) S.1 S.2.1 dX0_allHold_7 (by decide) (fun h7 => ?_) (fun h7 => ?_)
      · have h7 := ge_n (by omega) (by omega) h7
        refine lv_iconst (v := nI 1) S.1 S.2.1 dX0_allHold_42 (by decide) ?_
        exact rd_retz hQ S hr hlk (r1 (by rw [← hv, al_d h7])) dX0_allHold_43
      · have h7 := ge_f (by omega) (by omega) h7
        refine lv_aload_n S.1 S.2.1 dX0_allHold_10 rfl (lv_at hl 1 rfl) ?_
        refine g0_pluses hk S hK hP dX0_allHold_11 ?_
        refine lv_iload_n S.1 S.2.1 dX0_allHold_14 rfl (lv_at hl 0 rfl) ?_
        refine a0_pl hk (by omega) S hK hP dX0_allHold_15 ?_
        refine lv_iload_n S.1 S.2.1 dX0_allHold_16 rfl (lv_at hl 2 rfl) ?_
        refine lv_iand S.1 S.2.1 dX0_allHold_17 ?_
        refine lv_if_ne (tgt := 36) S.1 S.2.1 dX0_allHold_18 (by decide) (fun h18 => ?_) (fun h18 => ?_)
        · refine lv_iinc (v := nI (i + 1)) (lv' := [(2, .int (nI (i + 1))), (0, .ref (a (3 + 3 * k))), (1, .int x)]) S.1 S.2.1 dX0_allHold_36 hl (k := 0) rfl (nI_1 _) (by decide) rfl (fun ls hl => ?_)
          refine lv_goto (tgt := 2) S.1 S.2.1 dX0_allHold_39 (by decide) ?_
          exact ih2 (i + 1) ls (by omega) (by omega) (by rw [← hv, al_s h7]; simp only [okc_1 h18, Bool.true_and]) (lv_sub hl [0, 1, 2] rfl)
        · refine lv_aload_n S.1 S.2.1 dX0_allHold_21 rfl (lv_at hl 1 rfl) ?_
          refine g0_minuses hk S hK hP dX0_allHold_22 ?_
          refine lv_iload_n S.1 S.2.1 dX0_allHold_25 rfl (lv_at hl 0 rfl) ?_
          refine a0_mi hk (by omega) S hK hP dX0_allHold_26 ?_
          refine lv_iload_n S.1 S.2.1 dX0_allHold_27 rfl (lv_at hl 2 rfl) ?_
          refine lv_iconst (v := -1) S.1 S.2.1 dX0_allHold_28 (by decide) ?_
          refine lv_ixor S.1 S.2.1 dX0_allHold_29 ?_
          refine lv_iand S.1 S.2.1 dX0_allHold_30 ?_
          refine lv_if_ne (tgt := 36) S.1 S.2.1 dX0_allHold_31 (by decide) (fun h31 => ?_) (fun h31 => ?_)
          · refine lv_iinc (v := nI (i + 1)) (lv' := [(2, .int (nI (i + 1))), (0, .ref (a (3 + 3 * k))), (1, .int x)]) S.1 S.2.1 dX0_allHold_36 hl (k := 0) rfl (nI_1 _) (by decide) rfl (fun ls hl => ?_)
            refine lv_goto (tgt := 2) S.1 S.2.1 dX0_allHold_39 (by decide) ?_
            exact ih2 (i + 1) ls (by omega) (by omega) (by rw [← hv, al_s h7]; simp only [okc_2 h31, Bool.true_and]) (lv_sub hl [0, 1, 2] rfl)
          · refine lv_iconst (v := nI 0) S.1 S.2.1 dX0_allHold_34 (by decide) ?_
            exact rd_retz hQ S hr hlk (r0 (by rw [← hv, al_s h7]; simp only [okc_0 h18 h31, Bool.false_and])) dX0_allHold_35
  exact loop2 _ 0 ls (Nat.lt_succ_self _) (Nat.zero_le _) rfl (lv_sub hl [0, 1, 2] rfl)
set_option maxHeartbeats 4000000 in
set_option maxRecDepth 100000 in
theorem c_X0_isFull {l : Launch} {D : va_G} {cI cL : ClassId} {a : Nat → Nat} {dep : Nat → Int32} {dk : Bool} {N pl : Nat} {pe : Int32} {cn : Nat → Nat} {P M : Nat → Nat → Int32} {k : Nat} (hk : k < 4)   : MetR l yX0_isFull cX0_isFull 1 (some .boolean) 0 [.ref (a (3 + 3 * k))] D cI cL (RPw cI cL a dep dk N pl pe cn P M) (bI (!decide (nI (cn k) < nI 24))) := by
  refine MetR.mk (by decide) (Nat.le_of_ble_eq_true rfl) ?_
  intro p e s m args below meth c Q hQ S hr hlk hN hK hP ls hl
  have S : CallFix p m c cX0_isFull 1 s args wt RX0 := S
  have hl : lv_has ls 1 [(0, .ref (a (3 + 3 * k)))] := hl
  refine lv_aload_n S.1 S.2.1 dX0_isFull_0 rfl (lv_at hl 0 rfl) ?_
  refine g0_size hk S hK hP dX0_isFull_1 ?_
  refine lv_bipush (v := nI 24) S.1 S.2.1 dX0_isFull_4 (by decide) ?_
  refine lv_icmp_lt (tgt := 13) S.1 S.2.1 dX0_isFull_6 (by decide) (fun h6 => ?_) (fun h6 => ?_)
  · refine lv_iconst (v := nI 0) S.1 S.2.1 dX0_isFull_13 (by decide) ?_
    exact rd_retz hQ S hr hlk (r0 (by simp [h6])) dX0_isFull_14
  · refine lv_iconst (v := nI 1) S.1 S.2.1 dX0_isFull_9 (by decide) ?_
    refine lv_goto (tgt := 14) S.1 S.2.1 dX0_isFull_10 (by decide) ?_
    exact rd_retz hQ S hr hlk (r1 (by simp [h6])) dX0_isFull_14
set_option maxHeartbeats 4000000 in
set_option maxRecDepth 100000 in
theorem c_X1_stateCount {l : Launch} {D : va_G} {cI cL : ClassId} {a : Nat → Nat} {dep : Nat → Int32} {dk : Bool} {N pl : Nat} {pe : Int32} {cn : Nat → Nat} {P M : Nat → Nat → Int32}  (hV : RInv N cn) : MetR l yX1_stateCount cX1_stateCount 1 (some .int) 0 [.ref (a 0)] D cI cL (RPw cI cL a dep dk N pl pe cn P M) (nI (2 ^ N)) := by
  refine MetR.mk (by decide) (Nat.le_of_ble_eq_true rfl) ?_
  intro p e s m args below meth c Q hQ S hr hlk hN hK hP ls hl
  have S : CallFix p m c cX1_stateCount 1 s args wt RX1 := S
  have hl : lv_has ls 1 [(0, .ref (a 0))] := hl
  refine lv_iconst (v := nI 1) S.1 S.2.1 dX1_stateCount_0 (by decide) ?_
  refine lv_aload_n S.1 S.2.1 dX1_stateCount_1 rfl (lv_at hl 0 rfl) ?_
  refine g1_switchCount S hK hP dX1_stateCount_2 ?_
  refine lv_ishl S.1 S.2.1 dX1_stateCount_5 ?_
  refine tp (y := nI (2 ^ N)) (sh1 N (by have := hV.2.1; omega)) ?_
  exact rd_ret hQ S hr hlk rfl dX1_stateCount_6
set_option maxHeartbeats 4000000 in
set_option maxRecDepth 100000 in
theorem c_X1_isState {l : Launch} {D : va_G} {cI cL : ClassId} {a : Nat → Nat} {dep : Nat → Int32} {dk : Bool} {N pl : Nat} {pe : Int32} {cn : Nat → Nat} {P M : Nat → Nat → Int32} {x : Int32}  (hV : RInv N cn) : MetR l yX1_isState cX1_isState 2 (some .boolean) 1 [.ref (a 0), .int x] D cI cL (RPw cI cL a dep dk N pl pe cn P M) (bI (stB N x)) := by
  refine MetR.mk (by decide) (Nat.le_of_ble_eq_true rfl) ?_
  intro p e s m args below meth c Q hQ S hr hlk hN hK hP ls hl
  have S : CallFix p m c cX1_isState 2 s args wt RX1 := S
  have hl : lv_has ls 2 [(0, .ref (a 0)), (1, .int x)] := hl
  refine lv_iload_n S.1 S.2.1 dX1_isState_0 rfl (lv_at hl 1 rfl) ?_
  refine lv_if_lt (tgt := 16) S.1 S.2.1 dX1_isState_1 (by decide) (fun h1 => ?_) (fun h1 => ?_)
  · refine lv_iconst (v := nI 0) S.1 S.2.1 dX1_isState_16 (by decide) ?_
    exact rd_retz hQ S hr hlk (r0 (by simp [stB, h1])) dX1_isState_17
  · refine lv_iload_n S.1 S.2.1 dX1_isState_4 rfl (lv_at hl 1 rfl) ?_
    refine lv_aload_n S.1 S.2.1 dX1_isState_5 rfl (lv_at hl 0 rfl) ?_
    refine rdV S cv_RX1_78 (c_X1_stateCount hV) hK hN hP (rp_rv hK hP) ⟨Nat.le_of_ble_eq_true rfl, Nat.le_of_ble_eq_true rfl⟩ ⟨Nat.zero_le _, Nat.zero_le _⟩ rfl hl.1 rfl (Nat.le_of_ble_eq_true rfl) dX1_isState_6 ?_
    refine lv_icmp_ge (tgt := 16) S.1 S.2.1 dX1_isState_9 (by decide) (fun h9 => ?_) (fun h9 => ?_)
    · refine lv_iconst (v := nI 0) S.1 S.2.1 dX1_isState_16 (by decide) ?_
      exact rd_retz hQ S hr hlk (r0 (by simp [stB, h1, h9])) dX1_isState_17
    · refine lv_iconst (v := nI 1) S.1 S.2.1 dX1_isState_12 (by decide) ?_
      refine lv_goto (tgt := 17) S.1 S.2.1 dX1_isState_13 (by decide) ?_
      exact rd_retz hQ S hr hlk (r1 (by simp [stB, h1, h9])) dX1_isState_17
set_option maxHeartbeats 4000000 in
set_option maxRecDepth 100000 in
theorem c_X1_isList {l : Launch} {D : va_G} {cI cL : ClassId} {a : Nat → Nat} {dep : Nat → Int32} {dk : Bool} {N pl : Nat} {pe : Int32} {cn : Nat → Nat} {P M : Nat → Nat → Int32} {x : Int32}   : MetR l yX1_isList cX1_isList 1 (some .boolean) 0 [.int x] D cI cL (RPw cI cL a dep dk N pl pe cn P M) (bI (liB x)) := by
  refine MetR.mk (by decide) (Nat.le_of_ble_eq_true rfl) ?_
  intro p e s m args below meth c Q hQ S hr hlk hN hK hP ls hl
  have S : CallFix p m c cX1_isList 1 s args wt RX1 := S
  have hl : lv_has ls 1 [(0, .int x)] := hl
  refine lv_iload_n S.1 S.2.1 dX1_isList_0 rfl (lv_at hl 0 rfl) ?_
  refine lv_if_lt (tgt := 13) S.1 S.2.1 dX1_isList_1 (by decide) (fun h1 => ?_) (fun h1 => ?_)
  · refine lv_iconst (v := nI 0) S.1 S.2.1 dX1_isList_13 (by decide) ?_
    exact rd_retz hQ S hr hlk (r0 (by simp [liB, h1])) dX1_isList_14
  · refine lv_iload_n S.1 S.2.1 dX1_isList_4 rfl (lv_at hl 0 rfl) ?_
    refine lv_iconst (v := nI 4) S.1 S.2.1 dX1_isList_5 (by decide) ?_
    refine lv_icmp_ge (tgt := 13) S.1 S.2.1 dX1_isList_6 (by decide) (fun h6 => ?_) (fun h6 => ?_)
    · refine lv_iconst (v := nI 0) S.1 S.2.1 dX1_isList_13 (by decide) ?_
      exact rd_retz hQ S hr hlk (r0 (by simp [liB, h1, h6])) dX1_isList_14
    · refine lv_iconst (v := nI 1) S.1 S.2.1 dX1_isList_9 (by decide) ?_
      refine lv_goto (tgt := 14) S.1 S.2.1 dX1_isList_10 (by decide) ?_
      exact rd_retz hQ S hr hlk (r1 (by simp [liB, h1, h6])) dX1_isList_14
set_option maxHeartbeats 4000000 in
set_option maxRecDepth 100000 in
theorem c_X1_isSetOf {l : Launch} {D : va_G} {cI cL : ClassId} {a : Nat → Nat} {dep : Nat → Int32} {dk : Bool} {N pl : Nat} {pe : Int32} {cn : Nat → Nat} {P M : Nat → Nat → Int32} {li x : Int32}  (hV : RInv N cn) : MetR l yX1_isSetOf cX1_isSetOf 4 (some .boolean) 0 [.ref (a 0), .int li, .int x] D cI cL (RPw cI cL a dep dk N pl pe cn P M) (bI (seB N li x)) := by
  refine MetR.mk (by decide) (Nat.le_of_ble_eq_true rfl) ?_
  intro p e s m args below meth c Q hQ S hr hlk hN hK hP ls hl
  have S : CallFix p m c cX1_isSetOf 4 s args wt RX1 := S
  have hl : lv_has ls 4 [(0, .ref (a 0)), (1, .int li), (2, .int x)] := hl
  have h6 := hV.2.1
  refine lv_iload_n S.1 S.2.1 dX1_isSetOf_0 rfl (lv_at hl 1 rfl) ?_
  refine lv_iconst (v := nI 1) S.1 S.2.1 dX1_isSetOf_1 (by decide) ?_
  refine lv_icmp_ne (tgt := 14) S.1 S.2.1 dX1_isSetOf_2 (by decide) (fun h2 => ?_) (fun h2 => ?_)
  · refine lv_aload_n S.1 S.2.1 dX1_isSetOf_14 rfl (lv_at hl 0 rfl) ?_
    refine g1_switchCount S hK hP dX1_isSetOf_15 ?_
    refine lv_istore_n (lv' := [(3, .int (nI N)), (0, .ref (a 0)), (1, .int li), (2, .int x)]) S.1 S.2.1 dX1_isSetOf_18 rfl hl (by decide) rfl (fun ls hl => ?_)
    refine lv_iload_n S.1 S.2.1 dX1_isSetOf_19 rfl (lv_at hl 3 rfl) ?_
    refine lv_if_lt (tgt := 34) S.1 S.2.1 dX1_isSetOf_20 (by decide) (fun h20 => ?_) (fun h20 => ?_)
    · refine lv_iconst (v := nI 0) S.1 S.2.1 dX1_isSetOf_34 (by decide) ?_
      exact rd_retz hQ S hr hlk (r0 (by simp [seB, h2, h20])) dX1_isSetOf_35
    · refine lv_iload_n S.1 S.2.1 dX1_isSetOf_23 rfl (lv_at hl 3 rfl) ?_
      refine lv_iconst (v := nI 1) S.1 S.2.1 dX1_isSetOf_24 (by decide) ?_
      refine lv_iload_n S.1 S.2.1 dX1_isSetOf_25 rfl (lv_at hl 0 rfl) ?_
      refine lv_ishl S.1 S.2.1 dX1_isSetOf_26 ?_
      refine tp (y := nI (2 ^ N)) (sh1 _ (by omega)) ?_
      refine lv_icmp_ge (tgt := 34) S.1 S.2.1 dX1_isSetOf_27 (by decide) (fun h27 => ?_) (fun h27 => ?_)
      · refine lv_iconst (v := nI 0) S.1 S.2.1 dX1_isSetOf_34 (by decide) ?_
        exact rd_retz hQ S hr hlk (r0 (by simp [seB, h2, h20, h27])) dX1_isSetOf_35
      · refine lv_iconst (v := nI 1) S.1 S.2.1 dX1_isSetOf_30 (by decide) ?_
        refine lv_goto (tgt := 35) S.1 S.2.1 dX1_isSetOf_31 (by decide) ?_
        exact rd_retz hQ S hr hlk (r1 (by simp [seB, h2, h20, h27])) dX1_isSetOf_35
  · refine lv_iconst (v := nI 2) S.1 S.2.1 dX1_isSetOf_5 (by decide) ?_
    refine lv_aload_n S.1 S.2.1 dX1_isSetOf_6 rfl (lv_at hl 0 rfl) ?_
    refine g1_switchCount S hK hP dX1_isSetOf_7 ?_
    refine lv_imul S.1 S.2.1 dX1_isSetOf_10 ?_
    refine tp (y := nI (2 * N)) (ml 2 N) ?_
    refine lv_goto (tgt := 18) S.1 S.2.1 dX1_isSetOf_11 (by decide) ?_
    refine lv_istore_n (lv' := [(3, .int (nI (2 * N))), (0, .ref (a 0)), (1, .int li), (2, .int x)]) S.1 S.2.1 dX1_isSetOf_18 rfl hl (by decide) rfl (fun ls hl => ?_)
    refine lv_iload_n S.1 S.2.1 dX1_isSetOf_19 rfl (lv_at hl 3 rfl) ?_
    refine lv_if_lt (tgt := 34) S.1 S.2.1 dX1_isSetOf_20 (by decide) (fun h20 => ?_) (fun h20 => ?_)
    · refine lv_iconst (v := nI 0) S.1 S.2.1 dX1_isSetOf_34 (by decide) ?_
      exact rd_retz hQ S hr hlk (r0 (by simp [seB, h2, h20])) dX1_isSetOf_35
    · refine lv_iload_n S.1 S.2.1 dX1_isSetOf_23 rfl (lv_at hl 3 rfl) ?_
      refine lv_iconst (v := nI 1) S.1 S.2.1 dX1_isSetOf_24 (by decide) ?_
      refine lv_iload_n S.1 S.2.1 dX1_isSetOf_25 rfl (lv_at hl 0 rfl) ?_
      refine lv_ishl S.1 S.2.1 dX1_isSetOf_26 ?_
      refine tp (y := nI (2 ^ ((2 * N)))) (sh1 _ (by omega)) ?_
      refine lv_icmp_ge (tgt := 34) S.1 S.2.1 dX1_isSetOf_27 (by decide) (fun h27 => ?_) (fun h27 => ?_)
      · refine lv_iconst (v := nI 0) S.1 S.2.1 dX1_isSetOf_34 (by decide) ?_
        exact rd_retz hQ S hr hlk (r0 (by simp [seB, h2, h20, h27])) dX1_isSetOf_35
      · refine lv_iconst (v := nI 1) S.1 S.2.1 dX1_isSetOf_30 (by decide) ?_
        refine lv_goto (tgt := 35) S.1 S.2.1 dX1_isSetOf_31 (by decide) ?_
        exact rd_retz hQ S hr hlk (r1 (by simp [seB, h2, h20, h27])) dX1_isSetOf_35
set_option maxHeartbeats 4000000 in
set_option maxRecDepth 100000 in
theorem c_X1_isIn {l : Launch} {D : va_G} {cI cL : ClassId} {a : Nat → Nat} {dep : Nat → Int32} {dk : Bool} {N pl : Nat} {pe : Int32} {cn : Nat → Nat} {P M : Nat → Nat → Int32} {k : Nat} {x : Int32} (hk : k < 4)  (hV : RInv N cn) : MetR l yX1_isIn cX1_isIn 3 (some .boolean) 1 [.ref (a 0), .int (nI k), .int x] D cI cL (RPw cI cL a dep dk N pl pe cn P M) (bI (inC cn P M k x)) := by
  refine MetR.mk (by decide) (Nat.le_of_ble_eq_true rfl) ?_
  intro p e s m args below meth c Q hQ S hr hlk hN hK hP ls hl
  have S : CallFix p m c cX1_isIn 3 s args wt RX1 := S
  have hl : lv_has ls 3 [(0, .ref (a 0)), (1, .int (nI k)), (2, .int x)] := hl
  refine lv_aload_n S.1 S.2.1 dX1_isIn_0 rfl (lv_at hl 0 rfl) ?_
  refine g1_lists S hK hP dX1_isIn_1 ?_
  refine lv_iload_n S.1 S.2.1 dX1_isIn_4 rfl (lv_at hl 1 rfl) ?_
  refine a1_lists (k := k) hk S hK hP dX1_isIn_5 ?_
  refine lv_iload_n S.1 S.2.1 dX1_isIn_6 rfl (lv_at hl 2 rfl) ?_
  refine rdN S cm_X0_allHold hN.2.2.2.2.2.1 (c_X0_allHold (k := k) (x := x) hk hV) hK hN hP (rp_rvk hk hK hP) ⟨Nat.le_of_ble_eq_true rfl, Nat.le_of_ble_eq_true rfl⟩ ⟨Nat.zero_le _, Nat.zero_le _⟩ rfl hl.1 rfl (Nat.le_of_ble_eq_true rfl) dX1_isIn_7 ?_
  exact rd_retz hQ S hr hlk rfl dX1_isIn_10
set_option maxHeartbeats 4000000 in
set_option maxRecDepth 100000 in
theorem c_X1_canGo {l : Launch} {D : va_G} {cI cL : ClassId} {a : Nat → Nat} {dep : Nat → Int32} {dk : Bool} {N pl : Nat} {pe : Int32} {cn : Nat → Nat} {P M : Nat → Nat → Int32} {f t : Int32}  (hV : RInv N cn) : MetR l yX1_canGo cX1_canGo 3 (some .boolean) 1 [.ref (a 0), .int f, .int t] D cI cL (RPw cI cL a dep dk N pl pe cn P M) (bI (goC N cn P M f t)) := by
  refine MetR.mk (by decide) (Nat.le_of_ble_eq_true rfl) ?_
  intro p e s m args below meth c Q hQ S hr hlk hN hK hP ls hl
  have S : CallFix p m c cX1_canGo 3 s args wt RX1 := S
  have hl : lv_has ls 3 [(0, .ref (a 0)), (1, .int f), (2, .int t)] := hl
  refine lv_aload_n S.1 S.2.1 dX1_canGo_0 rfl (lv_at hl 0 rfl) ?_
  refine g1_lists S hK hP dX1_canGo_1 ?_
  refine lv_iconst (v := nI 1) S.1 S.2.1 dX1_canGo_4 (by decide) ?_
  refine a1_lists (k := 1) (by decide) S hK hP dX1_canGo_5 ?_
  refine lv_iload_n S.1 S.2.1 dX1_canGo_6 rfl (lv_at hl 1 rfl) ?_
  refine lv_iload_n S.1 S.2.1 dX1_canGo_7 rfl (lv_at hl 2 rfl) ?_
  refine lv_aload_n S.1 S.2.1 dX1_canGo_8 rfl (lv_at hl 0 rfl) ?_
  refine g1_switchCount S hK hP dX1_canGo_9 ?_
  refine lv_ishl S.1 S.2.1 dX1_canGo_12 ?_
  refine lv_ior S.1 S.2.1 dX1_canGo_13 ?_
  refine rdN S cm_X0_allHold hN.2.2.2.2.2.1 (c_X0_allHold (k := 1) (x := f ||| (t <<< ((nI N) &&& 31))) (by decide) hV) hK hN hP (rp_rvk (by decide) hK hP) ⟨Nat.le_of_ble_eq_true rfl, Nat.le_of_ble_eq_true rfl⟩ ⟨Nat.zero_le _, Nat.zero_le _⟩ rfl hl.1 rfl (Nat.le_of_ble_eq_true rfl) dX1_canGo_14 ?_
  exact rd_retz hQ S hr hlk rfl dX1_canGo_17
set_option maxHeartbeats 4000000 in
set_option maxRecDepth 100000 in
theorem c_X1_isReachedBad {l : Launch} {D : va_G} {cI cL : ClassId} {a : Nat → Nat} {dep : Nat → Int32} {dk : Bool} {N pl : Nat} {pe : Int32} {cn : Nat → Nat} {P M : Nat → Nat → Int32} {i : Nat} (hi : i < 64)  (hV : RInv N cn) : MetR l yX1_isReachedBad cX1_isReachedBad 2 (some .boolean) 2 [.ref (a 0), .int (nI i)] D cI cL (RPw cI cL a dep dk N pl pe cn P M) (bI (rbC dep cn P M i)) := by
  refine MetR.mk (by decide) (Nat.le_of_ble_eq_true rfl) ?_
  intro p e s m args below meth c Q hQ S hr hlk hN hK hP ls hl
  have S : CallFix p m c cX1_isReachedBad 2 s args wt RX1 := S
  have hl : lv_has ls 2 [(0, .ref (a 0)), (1, .int (nI i))] := hl
  refine lv_aload_n S.1 S.2.1 dX1_isReachedBad_0 rfl (lv_at hl 0 rfl) ?_
  refine g1_depths S hK hP dX1_isReachedBad_1 ?_
  refine lv_iload_n S.1 S.2.1 dX1_isReachedBad_4 rfl (lv_at hl 1 rfl) ?_
  refine a1_dep hi S hK hP dX1_isReachedBad_5 ?_
  refine lv_iconst (v := -1) S.1 S.2.1 dX1_isReachedBad_6 (by decide) ?_
  refine lv_icmp_eq (tgt := 23) S.1 S.2.1 dX1_isReachedBad_7 (by decide) (fun h7 => ?_) (fun h7 => ?_)
  · refine lv_iconst (v := nI 0) S.1 S.2.1 dX1_isReachedBad_23 (by decide) ?_
    exact rd_retz hQ S hr hlk (r0 (by simp [rbC, h7])) dX1_isReachedBad_24
  · refine lv_aload_n S.1 S.2.1 dX1_isReachedBad_10 rfl (lv_at hl 0 rfl) ?_
    refine lv_iconst (v := nI 2) S.1 S.2.1 dX1_isReachedBad_11 (by decide) ?_
    refine lv_iload_n S.1 S.2.1 dX1_isReachedBad_12 rfl (lv_at hl 1 rfl) ?_
    refine rdV S cv_RX1_68 (c_X1_isIn (k := 2) (x := nI i) (by decide) hV) hK hN hP (rp_rv hK hP) ⟨Nat.le_of_ble_eq_true rfl, Nat.le_of_ble_eq_true rfl⟩ ⟨Nat.zero_le _, Nat.zero_le _⟩ rfl hl.1 rfl (Nat.le_of_ble_eq_true rfl) dX1_isReachedBad_13 ?_
    refine lv_if_eq (tgt := 23) S.1 S.2.1 dX1_isReachedBad_16 (by decide) (fun h16 => ?_) (fun h16 => ?_)
    · have h16 : (inC cn P M 2 (nI i)) = false := bI_f h16
      refine lv_iconst (v := nI 0) S.1 S.2.1 dX1_isReachedBad_23 (by decide) ?_
      exact rd_retz hQ S hr hlk (r0 (by simp [rbC, h7, h16])) dX1_isReachedBad_24
    · have h16 : (inC cn P M 2 (nI i)) = true := bI_t h16
      refine lv_iconst (v := nI 1) S.1 S.2.1 dX1_isReachedBad_19 (by decide) ?_
      refine lv_goto (tgt := 24) S.1 S.2.1 dX1_isReachedBad_20 (by decide) ?_
      exact rd_retz hQ S hr hlk (r1 (by simp [rbC, h7, h16])) dX1_isReachedBad_24
set_option maxHeartbeats 4000000 in
set_option maxRecDepth 100000 in
theorem c_X1_canLeaveClaim {l : Launch} {D : va_G} {cI cL : ClassId} {a : Nat → Nat} {dep : Nat → Int32} {dk : Bool} {N pl : Nat} {pe : Int32} {cn : Nat → Nat} {P M : Nat → Nat → Int32} {i : Nat}  (hV : RInv N cn) : MetR l yX1_canLeaveClaim cX1_canLeaveClaim 3 (some .boolean) 2 [.ref (a 0), .int (nI i)] D cI cL (RPw cI cL a dep dk N pl pe cn P M) (bI (leC N cn P M i)) := by
  refine MetR.mk (by decide) (Nat.le_of_ble_eq_true rfl) ?_
  intro p e s m args below meth c Q hQ S hr hlk hN hK hP ls hl
  have S : CallFix p m c cX1_canLeaveClaim 3 s args wt RX1 := S
  have hl : lv_has ls 3 [(0, .ref (a 0)), (1, .int (nI i))] := hl
  have hz := hV.S
  refine lv_iconst (v := nI 0) S.1 S.2.1 dX1_canLeaveClaim_0 (by decide) ?_
  refine lv_istore_n (lv' := [(2, .int (nI 0)), (0, .ref (a 0)), (1, .int (nI i))]) S.1 S.2.1 dX1_canLeaveClaim_1 rfl hl (by decide) rfl (fun ls hl => ?_)
  have loop2 : ∀ (nf : Nat) (t : Nat) (ls : Array Slot), 2 ^ N - t < nf → t ≤ 2 ^ N → an (fun t => !inC cn P M 3 (nI t) && goC N cn P M (nI i) (nI t)) (2 ^ N) t = leC N cn P M i → lv_has ls 3 [(2, .int (nI t)), (0, .ref (a 0)), (1, .int (nI i))] → W p l e (rmd 2) s m args below meth c s.heap [] 0 0 Q (F0 m 2 ls []) := by
    intro nf
    induction nf with
    | zero => exact fun t ls hn => absurd hn (Nat.not_lt_zero _)
    | succ nf ih2 =>
      intro t ls hn ht hv hl
      refine lv_iload_n S.1 S.2.1 dX1_canLeaveClaim_2 rfl (lv_at hl 0 rfl) ?_
      refine lv_aload_n S.1 S.2.1 dX1_canLeaveClaim_3 rfl (lv_at hl 1 rfl) ?_
      refine rdV S cv_RX1_78 (c_X1_stateCount hV) hK hN hP (rp_rv hK hP) ⟨Nat.le_of_ble_eq_true rfl, Nat.le_of_ble_eq_true rfl⟩ ⟨Nat.zero_le _, Nat.zero_le _⟩ rfl hl.1 rfl (Nat.le_of_ble_eq_true rfl) dX1_canLeaveClaim_4 ?_
      refine lv_icmp_ge (tgt := 36) S.1 S.2.1 dX1_canLeaveClaim_7 (by decide) (fun h7 => ?_) (fun h7 => ?_)
      · have h7 := ge_n (by omega) (by omega) h7
        refine lv_iconst (v := nI 0) S.1 S.2.1 dX1_canLeaveClaim_36 (by decide) ?_
        exact rd_retz hQ S hr hlk (r0 (by rw [← hv, an_d h7])) dX1_canLeaveClaim_37
      · have h7 := ge_f (by omega) (by omega) h7
        refine lv_aload_n S.1 S.2.1 dX1_canLeaveClaim_10 rfl (lv_at hl 1 rfl) ?_
        refine lv_iconst (v := nI 3) S.1 S.2.1 dX1_canLeaveClaim_11 (by decide) ?_
        refine lv_iload_n S.1 S.2.1 dX1_canLeaveClaim_12 rfl (lv_at hl 0 rfl) ?_
        refine rdV S cv_RX1_68 (c_X1_isIn (k := 3) (x := nI t) (by decide) hV) hK hN hP (rp_rv hK hP) ⟨Nat.le_of_ble_eq_true rfl, Nat.le_of_ble_eq_true rfl⟩ ⟨Nat.zero_le _, Nat.zero_le _⟩ rfl hl.1 rfl (Nat.le_of_ble_eq_true rfl) dX1_canLeaveClaim_13 ?_
        refine lv_if_ne (tgt := 30) S.1 S.2.1 dX1_canLeaveClaim_16 (by decide) (fun h16 => ?_) (fun h16 => ?_)
        · have h16 : (inC cn P M 3 (nI t)) = true := bI_t h16
          refine lv_iinc (v := nI (t + 1)) (lv' := [(2, .int (nI (t + 1))), (0, .ref (a 0)), (1, .int (nI i))]) S.1 S.2.1 dX1_canLeaveClaim_30 hl (k := 0) rfl (nI_1 _) (by decide) rfl (fun ls hl => ?_)
          refine lv_goto (tgt := 2) S.1 S.2.1 dX1_canLeaveClaim_33 (by decide) ?_
          exact ih2 (t + 1) ls (by omega) (by omega) (by rw [← hv, an_s h7]; simp [h16]) (lv_sub hl [0, 1, 2] rfl)
        · have h16 : (inC cn P M 3 (nI t)) = false := bI_f h16
          refine lv_aload_n S.1 S.2.1 dX1_canLeaveClaim_19 rfl (lv_at hl 1 rfl) ?_
          refine lv_iload_n S.1 S.2.1 dX1_canLeaveClaim_20 rfl (lv_at hl 2 rfl) ?_
          refine lv_iload_n S.1 S.2.1 dX1_canLeaveClaim_21 rfl (lv_at hl 0 rfl) ?_
          refine rdV S cv_RX1_65 (c_X1_canGo (f := nI i) (t := nI t) hV) hK hN hP (rp_rv hK hP) ⟨Nat.le_of_ble_eq_true rfl, Nat.le_of_ble_eq_true rfl⟩ ⟨Nat.zero_le _, Nat.zero_le _⟩ rfl hl.1 rfl (Nat.le_of_ble_eq_true rfl) dX1_canLeaveClaim_22 ?_
          refine lv_if_eq (tgt := 30) S.1 S.2.1 dX1_canLeaveClaim_25 (by decide) (fun h25 => ?_) (fun h25 => ?_)
          · have h25 : (goC N cn P M (nI i) (nI t)) = false := bI_f h25
            refine lv_iinc (v := nI (t + 1)) (lv' := [(2, .int (nI (t + 1))), (0, .ref (a 0)), (1, .int (nI i))]) S.1 S.2.1 dX1_canLeaveClaim_30 hl (k := 0) rfl (nI_1 _) (by decide) rfl (fun ls hl => ?_)
            refine lv_goto (tgt := 2) S.1 S.2.1 dX1_canLeaveClaim_33 (by decide) ?_
            exact ih2 (t + 1) ls (by omega) (by omega) (by rw [← hv, an_s h7]; simp [h16, h25]) (lv_sub hl [0, 1, 2] rfl)
          · have h25 : (goC N cn P M (nI i) (nI t)) = true := bI_t h25
            refine lv_iconst (v := nI 1) S.1 S.2.1 dX1_canLeaveClaim_28 (by decide) ?_
            exact rd_retz hQ S hr hlk (r1 (by rw [← hv, an_s h7]; simp [h16, h25])) dX1_canLeaveClaim_29
  exact loop2 _ 0 ls (Nat.lt_succ_self _) (Nat.zero_le _) rfl (lv_sub hl [0, 1, 2] rfl)
set_option maxHeartbeats 4000000 in
set_option maxRecDepth 100000 in
theorem c_X1_breaks {l : Launch} {D : va_G} {cI cL : ClassId} {a : Nat → Nat} {dep : Nat → Int32} {dk : Bool} {N pl : Nat} {pe : Int32} {cn : Nat → Nat} {P M : Nat → Nat → Int32} {r i : Nat} (hr1 : r = 1 ∨ r = 2 ∨ r = 3)  (hV : RInv N cn) : MetR l yX1_breaks cX1_breaks 3 (some .boolean) 3 [.ref (a 0), .int (nI r), .int (nI i)] D cI cL (RPw cI cL a dep dk N pl pe cn P M) (bI (brC N cn P M r i)) := by
  refine MetR.mk (by decide) (Nat.le_of_ble_eq_true rfl) ?_
  intro p e s m args below meth c Q hQ S hr hlk hN hK hP ls hl
  have S : CallFix p m c cX1_breaks 3 s args wt RX1 := S
  have hl : lv_has ls 3 [(0, .ref (a 0)), (1, .int (nI r)), (2, .int (nI i))] := hl
  rcases hr1 with rfl | rfl | rfl
  · refine lv_iload_n S.1 S.2.1 dX1_breaks_0 rfl (lv_at hl 1 rfl) ?_
    refine lv_tableIn (off := 27) (tgt := 28) S.1 S.2.1 dX1_breaks_1 (by decide) (by decide) (by decide) (by decide) ?_
    refine lv_aload_n S.1 S.2.1 dX1_breaks_28 rfl (lv_at hl 0 rfl) ?_
    refine lv_iconst (v := nI 0) S.1 S.2.1 dX1_breaks_29 (by decide) ?_
    refine lv_iload_n S.1 S.2.1 dX1_breaks_30 rfl (lv_at hl 2 rfl) ?_
    refine rdV S cv_RX1_68 (c_X1_isIn (k := 0) (x := nI i) (by decide) hV) hK hN hP (rp_rv hK hP) ⟨Nat.le_of_ble_eq_true rfl, Nat.le_of_ble_eq_true rfl⟩ ⟨Nat.zero_le _, Nat.zero_le _⟩ rfl hl.1 rfl (Nat.le_of_ble_eq_true rfl) dX1_breaks_31 ?_
    refine lv_if_eq (tgt := 50) S.1 S.2.1 dX1_breaks_34 (by decide) (fun h34 => ?_) (fun h34 => ?_)
    · have h34 : (inC cn P M 0 (nI i)) = false := bI_f h34
      refine lv_iconst (v := nI 0) S.1 S.2.1 dX1_breaks_50 (by decide) ?_
      exact rd_retz hQ S hr hlk (r0 (by simp [brC, h34])) dX1_breaks_51
    · have h34 : (inC cn P M 0 (nI i)) = true := bI_t h34
      refine lv_aload_n S.1 S.2.1 dX1_breaks_37 rfl (lv_at hl 0 rfl) ?_
      refine lv_iconst (v := nI 3) S.1 S.2.1 dX1_breaks_38 (by decide) ?_
      refine lv_iload_n S.1 S.2.1 dX1_breaks_39 rfl (lv_at hl 2 rfl) ?_
      refine rdV S cv_RX1_68 (c_X1_isIn (k := 3) (x := nI i) (by decide) hV) hK hN hP (rp_rv hK hP) ⟨Nat.le_of_ble_eq_true rfl, Nat.le_of_ble_eq_true rfl⟩ ⟨Nat.zero_le _, Nat.zero_le _⟩ rfl hl.1 rfl (Nat.le_of_ble_eq_true rfl) dX1_breaks_40 ?_
      refine lv_if_ne (tgt := 50) S.1 S.2.1 dX1_breaks_43 (by decide) (fun h43 => ?_) (fun h43 => ?_)
      · have h43 : (inC cn P M 3 (nI i)) = true := bI_t h43
        refine lv_iconst (v := nI 0) S.1 S.2.1 dX1_breaks_50 (by decide) ?_
        exact rd_retz hQ S hr hlk (r0 (by simp [brC, h34, h43])) dX1_breaks_51
      · have h43 : (inC cn P M 3 (nI i)) = false := bI_f h43
        refine lv_iconst (v := nI 1) S.1 S.2.1 dX1_breaks_46 (by decide) ?_
        refine lv_goto (tgt := 51) S.1 S.2.1 dX1_breaks_47 (by decide) ?_
        exact rd_retz hQ S hr hlk (r1 (by simp [brC, h34, h43])) dX1_breaks_51
  · refine lv_iload_n S.1 S.2.1 dX1_breaks_0 rfl (lv_at hl 1 rfl) ?_
    refine lv_tableIn (off := 51) (tgt := 52) S.1 S.2.1 dX1_breaks_1 (by decide) (by decide) (by decide) (by decide) ?_
    refine lv_aload_n S.1 S.2.1 dX1_breaks_52 rfl (lv_at hl 0 rfl) ?_
    refine lv_iconst (v := nI 3) S.1 S.2.1 dX1_breaks_53 (by decide) ?_
    refine lv_iload_n S.1 S.2.1 dX1_breaks_54 rfl (lv_at hl 2 rfl) ?_
    refine rdV S cv_RX1_68 (c_X1_isIn (k := 3) (x := nI i) (by decide) hV) hK hN hP (rp_rv hK hP) ⟨Nat.le_of_ble_eq_true rfl, Nat.le_of_ble_eq_true rfl⟩ ⟨Nat.zero_le _, Nat.zero_le _⟩ rfl hl.1 rfl (Nat.le_of_ble_eq_true rfl) dX1_breaks_55 ?_
    refine lv_if_eq (tgt := 73) S.1 S.2.1 dX1_breaks_58 (by decide) (fun h58 => ?_) (fun h58 => ?_)
    · have h58 : (inC cn P M 3 (nI i)) = false := bI_f h58
      refine lv_iconst (v := nI 0) S.1 S.2.1 dX1_breaks_73 (by decide) ?_
      exact rd_retz hQ S hr hlk (r0 (by simp [brC, h58])) dX1_breaks_74
    · have h58 : (inC cn P M 3 (nI i)) = true := bI_t h58
      refine lv_aload_n S.1 S.2.1 dX1_breaks_61 rfl (lv_at hl 0 rfl) ?_
      refine lv_iload_n S.1 S.2.1 dX1_breaks_62 rfl (lv_at hl 2 rfl) ?_
      refine rdV S cv_RX1_104 (c_X1_canLeaveClaim (i := i) hV) hK hN hP (rp_rv hK hP) ⟨Nat.le_of_ble_eq_true rfl, Nat.le_of_ble_eq_true rfl⟩ ⟨Nat.zero_le _, Nat.zero_le _⟩ rfl hl.1 rfl (Nat.le_of_ble_eq_true rfl) dX1_breaks_63 ?_
      refine lv_if_eq (tgt := 73) S.1 S.2.1 dX1_breaks_66 (by decide) (fun h66 => ?_) (fun h66 => ?_)
      · have h66 : (leC N cn P M i) = false := bI_f h66
        refine lv_iconst (v := nI 0) S.1 S.2.1 dX1_breaks_73 (by decide) ?_
        exact rd_retz hQ S hr hlk (r0 (by simp [brC, h58, h66])) dX1_breaks_74
      · have h66 : (leC N cn P M i) = true := bI_t h66
        refine lv_iconst (v := nI 1) S.1 S.2.1 dX1_breaks_69 (by decide) ?_
        refine lv_goto (tgt := 74) S.1 S.2.1 dX1_breaks_70 (by decide) ?_
        exact rd_retz hQ S hr hlk (r1 (by simp [brC, h58, h66])) dX1_breaks_74
  · refine lv_iload_n S.1 S.2.1 dX1_breaks_0 rfl (lv_at hl 1 rfl) ?_
    refine lv_tableIn (off := 74) (tgt := 75) S.1 S.2.1 dX1_breaks_1 (by decide) (by decide) (by decide) (by decide) ?_
    refine lv_aload_n S.1 S.2.1 dX1_breaks_75 rfl (lv_at hl 0 rfl) ?_
    refine lv_iconst (v := nI 3) S.1 S.2.1 dX1_breaks_76 (by decide) ?_
    refine lv_iload_n S.1 S.2.1 dX1_breaks_77 rfl (lv_at hl 2 rfl) ?_
    refine rdV S cv_RX1_68 (c_X1_isIn (k := 3) (x := nI i) (by decide) hV) hK hN hP (rp_rv hK hP) ⟨Nat.le_of_ble_eq_true rfl, Nat.le_of_ble_eq_true rfl⟩ ⟨Nat.zero_le _, Nat.zero_le _⟩ rfl hl.1 rfl (Nat.le_of_ble_eq_true rfl) dX1_breaks_78 ?_
    refine lv_if_eq (tgt := 97) S.1 S.2.1 dX1_breaks_81 (by decide) (fun h81 => ?_) (fun h81 => ?_)
    · have h81 : (inC cn P M 3 (nI i)) = false := bI_f h81
      refine lv_iconst (v := nI 0) S.1 S.2.1 dX1_breaks_97 (by decide) ?_
      exact rd_retz hQ S hr hlk (r0 (by simp [brC, h81])) dX1_breaks_98
    · have h81 : (inC cn P M 3 (nI i)) = true := bI_t h81
      refine lv_aload_n S.1 S.2.1 dX1_breaks_84 rfl (lv_at hl 0 rfl) ?_
      refine lv_iconst (v := nI 2) S.1 S.2.1 dX1_breaks_85 (by decide) ?_
      refine lv_iload_n S.1 S.2.1 dX1_breaks_86 rfl (lv_at hl 2 rfl) ?_
      refine rdV S cv_RX1_68 (c_X1_isIn (k := 2) (x := nI i) (by decide) hV) hK hN hP (rp_rv hK hP) ⟨Nat.le_of_ble_eq_true rfl, Nat.le_of_ble_eq_true rfl⟩ ⟨Nat.zero_le _, Nat.zero_le _⟩ rfl hl.1 rfl (Nat.le_of_ble_eq_true rfl) dX1_breaks_87 ?_
      refine lv_if_eq (tgt := 97) S.1 S.2.1 dX1_breaks_90 (by decide) (fun h90 => ?_) (fun h90 => ?_)
      · have h90 : (inC cn P M 2 (nI i)) = false := bI_f h90
        refine lv_iconst (v := nI 0) S.1 S.2.1 dX1_breaks_97 (by decide) ?_
        exact rd_retz hQ S hr hlk (r0 (by simp [brC, h81, h90])) dX1_breaks_98
      · have h90 : (inC cn P M 2 (nI i)) = true := bI_t h90
        refine lv_iconst (v := nI 1) S.1 S.2.1 dX1_breaks_93 (by decide) ?_
        refine lv_goto (tgt := 98) S.1 S.2.1 dX1_breaks_94 (by decide) ?_
        exact rd_retz hQ S hr hlk (r1 (by simp [brC, h81, h90])) dX1_breaks_98
set_option maxHeartbeats 4000000 in
set_option maxRecDepth 100000 in
theorem c_X1_leastBreaking {l : Launch} {D : va_G} {cI cL : ClassId} {a : Nat → Nat} {dep : Nat → Int32} {dk : Bool} {N pl : Nat} {pe : Int32} {cn : Nat → Nat} {P M : Nat → Nat → Int32} {r : Nat} (hr1 : r = 1 ∨ r = 2 ∨ r = 3)  (hV : RInv N cn) : MetR l yX1_leastBreaking cX1_leastBreaking 3 (some .int) 4 [.ref (a 0), .int (nI r)] D cI cL (RPw cI cL a dep dk N pl pe cn P M) (oI (-1) (lbC N cn P M r)) := by
  refine MetR.mk (by decide) (Nat.le_of_ble_eq_true rfl) ?_
  intro p e s m args below meth c Q hQ S hr hlk hN hK hP ls hl
  have S : CallFix p m c cX1_leastBreaking 3 s args wt RX1 := S
  have hl : lv_has ls 3 [(0, .ref (a 0)), (1, .int (nI r))] := hl
  have hz := hV.S
  refine lv_iconst (v := nI 0) S.1 S.2.1 dX1_leastBreaking_0 (by decide) ?_
  refine lv_istore_n (lv' := [(2, .int (nI 0)), (0, .ref (a 0)), (1, .int (nI r))]) S.1 S.2.1 dX1_leastBreaking_1 rfl hl (by decide) rfl (fun ls hl => ?_)
  have loop2 : ∀ (nf : Nat) (t : Nat) (ls : Array Slot), 2 ^ N - t < nf → t ≤ 2 ^ N → fo (brC N cn P M r) (2 ^ N) t = lbC N cn P M r → lv_has ls 3 [(2, .int (nI t)), (0, .ref (a 0)), (1, .int (nI r))] → W p l e (rmd 4) s m args below meth c s.heap [] 0 0 Q (F0 m 2 ls []) := by
    intro nf
    induction nf with
    | zero => exact fun t ls hn => absurd hn (Nat.not_lt_zero _)
    | succ nf ih2 =>
      intro t ls hn ht hv hl
      refine lv_iload_n S.1 S.2.1 dX1_leastBreaking_2 rfl (lv_at hl 0 rfl) ?_
      refine lv_aload_n S.1 S.2.1 dX1_leastBreaking_3 rfl (lv_at hl 1 rfl) ?_
      refine rdV S cv_RX1_78 (c_X1_stateCount hV) hK hN hP (rp_rv hK hP) ⟨Nat.le_of_ble_eq_true rfl, Nat.le_of_ble_eq_true rfl⟩ ⟨Nat.zero_le _, Nat.zero_le _⟩ rfl hl.1 rfl (Nat.le_of_ble_eq_true rfl) dX1_leastBreaking_4 ?_
      refine lv_icmp_ge (tgt := 27) S.1 S.2.1 dX1_leastBreaking_7 (by decide) (fun h7 => ?_) (fun h7 => ?_)
      · have h7 := ge_n (by omega) (by omega) h7
        refine lv_iconst (v := -1) S.1 S.2.1 dX1_leastBreaking_27 (by decide) ?_
        exact rd_ret hQ S hr hlk (by rw [← hv, fo_d h7]; rfl) dX1_leastBreaking_28
      · have h7 := ge_f (by omega) (by omega) h7
        refine lv_aload_n S.1 S.2.1 dX1_leastBreaking_10 rfl (lv_at hl 1 rfl) ?_
        refine lv_iload_n S.1 S.2.1 dX1_leastBreaking_11 rfl (lv_at hl 2 rfl) ?_
        refine lv_iload_n S.1 S.2.1 dX1_leastBreaking_12 rfl (lv_at hl 0 rfl) ?_
        refine rdV S cv_RX1_101 (c_X1_breaks (r := r) (i := t) hr1 hV) hK hN hP (rp_rv hK hP) ⟨Nat.le_of_ble_eq_true rfl, Nat.le_of_ble_eq_true rfl⟩ ⟨Nat.zero_le _, Nat.zero_le _⟩ rfl hl.1 rfl (Nat.le_of_ble_eq_true rfl) dX1_leastBreaking_13 ?_
        refine lv_if_eq (tgt := 21) S.1 S.2.1 dX1_leastBreaking_16 (by decide) (fun h16 => ?_) (fun h16 => ?_)
        · have h16 : (brC N cn P M r t) = false := bI_f h16
          refine lv_iinc (v := nI (t + 1)) (lv' := [(2, .int (nI (t + 1))), (0, .ref (a 0)), (1, .int (nI r))]) S.1 S.2.1 dX1_leastBreaking_21 hl (k := 0) rfl (nI_1 _) (by decide) rfl (fun ls hl => ?_)
          refine lv_goto (tgt := 2) S.1 S.2.1 dX1_leastBreaking_24 (by decide) ?_
          exact ih2 (t + 1) ls (by omega) (by omega) (by rw [← hv, fo_s h7, if_neg (by rw [h16]; decide)]) (lv_sub hl [0, 1, 2] rfl)
        · have h16 : (brC N cn P M r t) = true := bI_t h16
          refine lv_iload_n S.1 S.2.1 dX1_leastBreaking_19 rfl (lv_at hl 0 rfl) ?_
          exact rd_ret hQ S hr hlk (by rw [← hv, fo_s h7, if_pos h16]; rfl) dX1_leastBreaking_20
  exact loop2 _ 0 ls (Nat.lt_succ_self _) (Nat.zero_le _) rfl (lv_sub hl [0, 1, 2] rfl)
set_option maxHeartbeats 4000000 in
set_option maxRecDepth 100000 in
theorem c_X1_check {l : Launch} {D : va_G} {cI cL : ClassId} {a : Nat → Nat} {dep : Nat → Int32} {dk : Bool} {N pl : Nat} {pe : Int32} {cn : Nat → Nat} {P M : Nat → Nat → Int32}  (hV : RInv N cn) : MetR l yX1_check cX1_check 2 (some .int) 5 [.ref (a 0)] D cI cL (RPw cI cL a dep dk N pl pe cn P M) (oI 0 (chC N cn P M)) := by
  refine MetR.mk (by decide) (Nat.le_of_ble_eq_true rfl) ?_
  intro p e s m args below meth c Q hQ S hr hlk hN hK hP ls hl
  have S : CallFix p m c cX1_check 2 s args wt RX1 := S
  have hl : lv_has ls 2 [(0, .ref (a 0))] := hl
  refine lv_iconst (v := nI 1) S.1 S.2.1 dX1_check_0 (by decide) ?_
  refine lv_istore_n (lv' := [(1, .int (nI 1)), (0, .ref (a 0))]) S.1 S.2.1 dX1_check_1 rfl hl (by decide) rfl (fun ls hl => ?_)
  have loop2 : ∀ (nf : Nat) (r : Nat) (ls : Array Slot), 4 - r < nf → 1 ≤ r → r ≤ 4 → fo (fun r => !decide (oI (-1) (lbC N cn P M r) = -1)) 4 r = chC N cn P M → lv_has ls 2 [(1, .int (nI r)), (0, .ref (a 0))] → W p l e (rmd 5) s m args below meth c s.heap [] 0 0 Q (F0 m 2 ls []) := by
    intro nf
    induction nf with
    | zero => exact fun r ls hn => absurd hn (Nat.not_lt_zero _)
    | succ nf ih2 =>
      intro r ls hn h1 h2 hv hl
      refine lv_iload_n S.1 S.2.1 dX1_check_2 rfl (lv_at hl 0 rfl) ?_
      refine lv_iconst (v := nI 3) S.1 S.2.1 dX1_check_3 (by decide) ?_
      refine lv_icmp_gt (tgt := 24) S.1 S.2.1 dX1_check_4 (by decide) (fun h4 => ?_) (fun h4 => ?_)
      · have h4 := lt_n (by omega) (by omega) h4
        refine lv_iconst (v := nI 0) S.1 S.2.1 dX1_check_24 (by decide) ?_
        exact rd_ret hQ S hr hlk (by rw [← hv, fo_d (by omega)]; rfl) dX1_check_25
      · have h4 := lt_f (by omega) (by omega) h4
        refine lv_aload_n S.1 S.2.1 dX1_check_7 rfl (lv_at hl 1 rfl) ?_
        refine lv_iload_n S.1 S.2.1 dX1_check_8 rfl (lv_at hl 0 rfl) ?_
        refine rdV S cv_RX1_84 (c_X1_leastBreaking (r := r) (by omega) hV) hK hN hP (rp_rv hK hP) ⟨Nat.le_of_ble_eq_true rfl, Nat.le_of_ble_eq_true rfl⟩ ⟨Nat.zero_le _, Nat.zero_le _⟩ rfl hl.1 rfl (Nat.le_of_ble_eq_true rfl) dX1_check_9 ?_
        refine lv_iconst (v := -1) S.1 S.2.1 dX1_check_12 (by decide) ?_
        refine lv_icmp_eq (tgt := 18) S.1 S.2.1 dX1_check_13 (by decide) (fun h13 => ?_) (fun h13 => ?_)
        · refine lv_iinc (v := nI (r + 1)) (lv' := [(1, .int (nI (r + 1))), (0, .ref (a 0))]) S.1 S.2.1 dX1_check_18 hl (k := 0) rfl (nI_1 _) (by decide) rfl (fun ls hl => ?_)
          refine lv_goto (tgt := 2) S.1 S.2.1 dX1_check_21 (by decide) ?_
          exact ih2 (r + 1) ls (by omega) (by omega) (by omega) (by rw [← hv, fo_s (i := r) (by omega), if_neg (by simp [h13])]) (lv_sub hl [0, 1] rfl)
        · refine lv_iload_n S.1 S.2.1 dX1_check_16 rfl (lv_at hl 0 rfl) ?_
          exact rd_ret hQ S hr hlk (by rw [← hv, fo_s (by omega), if_pos (by simp [h13])]; rfl) dX1_check_17
  exact loop2 _ 1 ls (Nat.lt_succ_self _) (by decide) (by decide) rfl (lv_sub hl [0, 1] rfl)
set_option maxHeartbeats 4000000 in
set_option maxRecDepth 100000 in
theorem c_X1_flaw {l : Launch} {D : va_G} {cI cL : ClassId} {a : Nat → Nat} {dep : Nat → Int32} {dk : Bool} {N pl : Nat} {pe : Int32} {cn : Nat → Nat} {P M : Nat → Nat → Int32}  (hV : RInv N cn) : MetR l yX1_flaw cX1_flaw 2 (some .int) 6 [.ref (a 0)] D cI cL (RPw cI cL a dep dk N pl pe cn P M) (flC N cn P M) := by
  refine MetR.mk (by decide) (Nat.le_of_ble_eq_true rfl) ?_
  intro p e s m args below meth c Q hQ S hr hlk hN hK hP ls hl
  have S : CallFix p m c cX1_flaw 2 s args wt RX1 := S
  have hl : lv_has ls 2 [(0, .ref (a 0))] := hl
  refine lv_aload_n S.1 S.2.1 dX1_flaw_0 rfl (lv_at hl 0 rfl) ?_
  refine rdV S cv_RX1_88 (c_X1_check hV) hK hN hP (rp_rv hK hP) ⟨Nat.le_of_ble_eq_true rfl, Nat.le_of_ble_eq_true rfl⟩ ⟨Nat.zero_le _, Nat.zero_le _⟩ rfl hl.1 rfl (Nat.le_of_ble_eq_true rfl) dX1_flaw_1 ?_
  refine lv_istore_n (lv' := [(1, .int (oI 0 (chC N cn P M))), (0, .ref (a 0))]) S.1 S.2.1 dX1_flaw_4 rfl hl (by decide) rfl (fun ls hl => ?_)
  have hc : ∀ r, chC N cn P M = some r → r = 1 ∨ r = 2 ∨ r = 3 := fun r h => by have := fo_in h; omega
  rcases hch : chC N cn P M with _ | r
  · rw [hch] at hl
    have hl : lv_has ls 2 [(1, .int (nI 0)), (0, .ref (a 0))] := hl
    refine lv_iload_n S.1 S.2.1 dX1_flaw_5 rfl (lv_at hl 0 rfl) ?_
    refine lv_if_ne (tgt := 13) S.1 S.2.1 dX1_flaw_6 (by decide) (fun hh => absurd (by decide) hh) (fun _ => ?_)
    refine lv_iconst (v := -1) S.1 S.2.1 dX1_flaw_9 (by decide) ?_
    refine lv_goto (tgt := 18) S.1 S.2.1 dX1_flaw_10 (by decide) ?_
    exact rd_ret hQ S hr hlk (by simp [flC, hch]) dX1_flaw_18
  · rw [hch] at hl
    have hl : lv_has ls 2 [(1, .int (nI r)), (0, .ref (a 0))] := hl
    have hr3 := hc r hch
    refine lv_iload_n S.1 S.2.1 dX1_flaw_5 rfl (lv_at hl 0 rfl) ?_
    refine lv_if_ne (tgt := 13) S.1 S.2.1 dX1_flaw_6 (by decide) (fun _ => ?_) (fun hh => absurd hh (fun q => by rcases hr3 with rfl | rfl | rfl <;> exact absurd q (by decide)))
    refine lv_aload_n S.1 S.2.1 dX1_flaw_13 rfl (lv_at hl 1 rfl) ?_
    refine lv_iload_n S.1 S.2.1 dX1_flaw_14 rfl (lv_at hl 0 rfl) ?_
    refine rdV S cv_RX1_84 (c_X1_leastBreaking (r := r) hr3 hV) hK hN hP (rp_rv hK hP) ⟨Nat.le_of_ble_eq_true rfl, Nat.le_of_ble_eq_true rfl⟩ ⟨Nat.zero_le _, Nat.zero_le _⟩ rfl hl.1 rfl (Nat.le_of_ble_eq_true rfl) dX1_flaw_15 ?_
    exact rd_ret hQ S hr hlk (by simp [flC, hch]) dX1_flaw_18
set_option maxHeartbeats 4000000 in
set_option maxRecDepth 100000 in
theorem c_X1_switches {l : Launch} {D : va_G} {cI cL : ClassId} {a : Nat → Nat} {dep : Nat → Int32} {dk : Bool} {N pl : Nat} {pe : Int32} {cn : Nat → Nat} {P M : Nat → Nat → Int32}   : MetR l yX1_switches cX1_switches 1 (some .int) 0 [.ref (a 0)] D cI cL (RPw cI cL a dep dk N pl pe cn P M) (nI N) := by
  refine MetR.mk (by decide) (Nat.le_of_ble_eq_true rfl) ?_
  intro p e s m args below meth c Q hQ S hr hlk hN hK hP ls hl
  have S : CallFix p m c cX1_switches 1 s args wt RX1 := S
  have hl : lv_has ls 1 [(0, .ref (a 0))] := hl
  refine lv_aload_n S.1 S.2.1 dX1_switches_0 rfl (lv_at hl 0 rfl) ?_
  refine g1_switchCount S hK hP dX1_switches_1 ?_
  exact rd_ret hQ S hr hlk rfl dX1_switches_4
set_option maxHeartbeats 4000000 in
set_option maxRecDepth 100000 in
theorem c_X1_count {l : Launch} {D : va_G} {cI cL : ClassId} {a : Nat → Nat} {dep : Nat → Int32} {dk : Bool} {N pl : Nat} {pe : Int32} {cn : Nat → Nat} {P M : Nat → Nat → Int32} {x : Int32}   : MetR l yX1_count cX1_count 2 (some .int) 1 [.ref (a 0), .int x] D cI cL (RPw cI cL a dep dk N pl pe cn P M) (if liB x = true then nI (cn x.toNatClampNeg) else -1) := by
  refine MetR.mk (by decide) (Nat.le_of_ble_eq_true rfl) ?_
  intro p e s m args below meth c Q hQ S hr hlk hN hK hP ls hl
  have S : CallFix p m c cX1_count 2 s args wt RX1 := S
  have hl : lv_has ls 2 [(0, .ref (a 0)), (1, .int x)] := hl
  rcases hb : liB x with _ | _
  · skip
    refine lv_iload_n S.1 S.2.1 dX1_count_0 rfl (lv_at hl 1 rfl) ?_
    refine rdS S ct_RX1_40 (c_X1_isList (x := x)) hK hN hP ⟨Nat.le_of_ble_eq_true rfl, Nat.le_of_ble_eq_true rfl⟩ ⟨Nat.zero_le _, Nat.zero_le _⟩ rfl hl.1 rfl (Nat.le_of_ble_eq_true rfl) dX1_count_1 ?_
    refine lv_if_eq (tgt := 19) S.1 S.2.1 dX1_count_4 (by decide) (fun _ => ?_) (fun hh => absurd (by rw [hb]; rfl) hh)
    refine lv_iconst (v := -1) S.1 S.2.1 dX1_count_19 (by decide) ?_
    exact rd_ret hQ S hr hlk (by rw [hb]; rfl) dX1_count_20
  · obtain ⟨k, hk, rfl⟩ := liB_t hb
    refine lv_iload_n S.1 S.2.1 dX1_count_0 rfl (lv_at hl 1 rfl) ?_
    refine rdS S ct_RX1_40 (c_X1_isList (x := nI k)) hK hN hP ⟨Nat.le_of_ble_eq_true rfl, Nat.le_of_ble_eq_true rfl⟩ ⟨Nat.zero_le _, Nat.zero_le _⟩ rfl hl.1 rfl (Nat.le_of_ble_eq_true rfl) dX1_count_1 ?_
    refine lv_if_eq (tgt := 19) S.1 S.2.1 dX1_count_4 (by decide) (fun hh => absurd hh (by rw [hb]; decide)) (fun _ => ?_)
    refine lv_aload_n S.1 S.2.1 dX1_count_7 rfl (lv_at hl 0 rfl) ?_
    refine g1_lists S hK hP dX1_count_8 ?_
    refine lv_iload_n S.1 S.2.1 dX1_count_11 rfl (lv_at hl 1 rfl) ?_
    refine a1_lists (k := k) hk S hK hP dX1_count_12 ?_
    refine g1_size hk S hN hK hP dX1_count_13 ?_
    refine lv_goto (tgt := 20) S.1 S.2.1 dX1_count_16 (by decide) ?_
    exact rd_ret hQ S hr hlk (by rw [if_pos hb, nI_clamp (by omega)]) dX1_count_20
set_option maxHeartbeats 4000000 in
set_option maxRecDepth 100000 in
theorem c_X1_holds {l : Launch} {D : va_G} {cI cL : ClassId} {a : Nat → Nat} {dep : Nat → Int32} {dk : Bool} {N pl : Nat} {pe : Int32} {cn : Nat → Nat} {P M : Nat → Nat → Int32} {li x y : Int32}  (hV : RInv N cn) : MetR l yX1_holds cX1_holds 4 (some .boolean) 2 [.ref (a 0), .int li, .int x, .int y] D cI cL (RPw cI cL a dep dk N pl pe cn P M) (bI (hoC N cn P M li x y)) := by
  refine MetR.mk (by decide) (Nat.le_of_ble_eq_true rfl) ?_
  intro p e s m args below meth c Q hQ S hr hlk hN hK hP ls hl
  have S : CallFix p m c cX1_holds 4 s args wt RX1 := S
  have hl : lv_has ls 4 [(0, .ref (a 0)), (1, .int li), (2, .int x), (3, .int y)] := hl
  rcases hb : liB li with _ | _
  · skip
    refine lv_iload_n S.1 S.2.1 dX1_holds_0 rfl (lv_at hl 1 rfl) ?_
    refine rdS S ct_RX1_40 (c_X1_isList (x := li)) hK hN hP ⟨Nat.le_of_ble_eq_true rfl, Nat.le_of_ble_eq_true rfl⟩ ⟨Nat.zero_le _, Nat.zero_le _⟩ rfl hl.1 rfl (Nat.le_of_ble_eq_true rfl) dX1_holds_1 ?_
    refine lv_if_eq (tgt := 15) S.1 S.2.1 dX1_holds_4 (by decide) (fun _ => ?_) (fun hh => absurd (by rw [hb]; rfl) hh)
    refine lv_iconst (v := nI 0) S.1 S.2.1 dX1_holds_15 (by decide) ?_
    exact rd_retz hQ S hr hlk (r0 (by simp [hoC, hb])) dX1_holds_16
  · obtain ⟨k, hk, rfl⟩ := liB_t hb
    refine lv_iload_n S.1 S.2.1 dX1_holds_0 rfl (lv_at hl 1 rfl) ?_
    refine rdS S ct_RX1_40 (c_X1_isList (x := nI k)) hK hN hP ⟨Nat.le_of_ble_eq_true rfl, Nat.le_of_ble_eq_true rfl⟩ ⟨Nat.zero_le _, Nat.zero_le _⟩ rfl hl.1 rfl (Nat.le_of_ble_eq_true rfl) dX1_holds_1 ?_
    refine lv_if_eq (tgt := 15) S.1 S.2.1 dX1_holds_4 (by decide) (fun hh => absurd hh (by rw [hb]; decide)) (fun _ => ?_)
    refine lv_aload_n S.1 S.2.1 dX1_holds_7 rfl (lv_at hl 0 rfl) ?_
    refine lv_iload_n S.1 S.2.1 dX1_holds_8 rfl (lv_at hl 2 rfl) ?_
    refine rdV S cv_RX1_62 (c_X1_isState (x := x) hV) hK hN hP (rp_rv hK hP) ⟨Nat.le_of_ble_eq_true rfl, Nat.le_of_ble_eq_true rfl⟩ ⟨Nat.zero_le _, Nat.zero_le _⟩ rfl hl.1 rfl (Nat.le_of_ble_eq_true rfl) dX1_holds_9 ?_
    refine lv_if_ne (tgt := 17) S.1 S.2.1 dX1_holds_12 (by decide) (fun h12 => ?_) (fun h12 => ?_)
    · have h12 : (stB N x) = true := bI_t h12
      refine lv_iload_n S.1 S.2.1 dX1_holds_17 rfl (lv_at hl 1 rfl) ?_
      refine lv_iconst (v := nI 1) S.1 S.2.1 dX1_holds_18 (by decide) ?_
      refine lv_icmp_ne (tgt := 45) S.1 S.2.1 dX1_holds_19 (by decide) (fun h19 => ?_) (fun h19 => ?_)
      · refine lv_aload_n S.1 S.2.1 dX1_holds_45 rfl (lv_at hl 0 rfl) ?_
        refine lv_iload_n S.1 S.2.1 dX1_holds_46 rfl (lv_at hl 1 rfl) ?_
        refine lv_iload_n S.1 S.2.1 dX1_holds_47 rfl (lv_at hl 2 rfl) ?_
        refine rdV S cv_RX1_68 (c_X1_isIn (k := k) (x := x) hk hV) hK hN hP (rp_rv hK hP) ⟨Nat.le_of_ble_eq_true rfl, Nat.le_of_ble_eq_true rfl⟩ ⟨Nat.zero_le _, Nat.zero_le _⟩ rfl hl.1 rfl (Nat.le_of_ble_eq_true rfl) dX1_holds_48 ?_
        exact rd_retz hQ S hr hlk (by simp [hoC, nI_clamp (show k < 2 ^ 31 by omega), hb, h12, h19]) dX1_holds_51
      · refine lv_aload_n S.1 S.2.1 dX1_holds_22 rfl (lv_at hl 0 rfl) ?_
        refine lv_iload_n S.1 S.2.1 dX1_holds_23 rfl (lv_at hl 3 rfl) ?_
        refine rdV S cv_RX1_62 (c_X1_isState (x := y) hV) hK hN hP (rp_rv hK hP) ⟨Nat.le_of_ble_eq_true rfl, Nat.le_of_ble_eq_true rfl⟩ ⟨Nat.zero_le _, Nat.zero_le _⟩ rfl hl.1 rfl (Nat.le_of_ble_eq_true rfl) dX1_holds_24 ?_
        refine lv_if_eq (tgt := 43) S.1 S.2.1 dX1_holds_27 (by decide) (fun h27 => ?_) (fun h27 => ?_)
        · have h27 : (stB N y) = false := bI_f h27
          refine lv_iconst (v := nI 0) S.1 S.2.1 dX1_holds_43 (by decide) ?_
          exact rd_retz hQ S hr hlk (r0 (by simp [hoC, show liB (nI 1) = true from by decide, hb, h12, h19, h27])) dX1_holds_44
        · have h27 : (stB N y) = true := bI_t h27
          refine lv_aload_n S.1 S.2.1 dX1_holds_30 rfl (lv_at hl 0 rfl) ?_
          refine lv_iload_n S.1 S.2.1 dX1_holds_31 rfl (lv_at hl 2 rfl) ?_
          refine lv_iload_n S.1 S.2.1 dX1_holds_32 rfl (lv_at hl 3 rfl) ?_
          refine rdV S cv_RX1_65 (c_X1_canGo (f := x) (t := y) hV) hK hN hP (rp_rv hK hP) ⟨Nat.le_of_ble_eq_true rfl, Nat.le_of_ble_eq_true rfl⟩ ⟨Nat.zero_le _, Nat.zero_le _⟩ rfl hl.1 rfl (Nat.le_of_ble_eq_true rfl) dX1_holds_33 ?_
          refine lv_if_eq (tgt := 43) S.1 S.2.1 dX1_holds_36 (by decide) (fun h36 => ?_) (fun h36 => ?_)
          · have h36 : (goC N cn P M x y) = false := bI_f h36
            refine lv_iconst (v := nI 0) S.1 S.2.1 dX1_holds_43 (by decide) ?_
            exact rd_retz hQ S hr hlk (r0 (by simp [hoC, show liB (nI 1) = true from by decide, hb, h12, h19, h27, h36])) dX1_holds_44
          · have h36 : (goC N cn P M x y) = true := bI_t h36
            refine lv_iconst (v := nI 1) S.1 S.2.1 dX1_holds_39 (by decide) ?_
            refine lv_goto (tgt := 44) S.1 S.2.1 dX1_holds_40 (by decide) ?_
            exact rd_retz hQ S hr hlk (r1 (by simp [hoC, show liB (nI 1) = true from by decide, hb, h12, h19, h27, h36])) dX1_holds_44
    · have h12 : (stB N x) = false := bI_f h12
      refine lv_iconst (v := nI 0) S.1 S.2.1 dX1_holds_15 (by decide) ?_
      exact rd_retz hQ S hr hlk (r0 (by simp [hoC, show liB (nI 1) = true from by decide, hb, h12])) dX1_holds_16
set_option maxHeartbeats 4000000 in
set_option maxRecDepth 100000 in
theorem c_X1_arrives {l : Launch} {D : va_G} {cI cL : ClassId} {a : Nat → Nat} {dep : Nat → Int32} {dk : Bool} {N pl : Nat} {pe : Int32} {cn : Nat → Nat} {P M : Nat → Nat → Int32}  (hV : RInv N cn) : MetR l yX1_arrives cX1_arrives 1 (some .boolean) 2 [.ref (a 0)] D cI cL (RPw cI cL a dep dk N pl pe cn P M) (bI (!decide (nI pl ≤ 0) && inC cn P M 2 pe)) := by
  refine MetR.mk (by decide) (Nat.le_of_ble_eq_true rfl) ?_
  intro p e s m args below meth c Q hQ S hr hlk hN hK hP ls hl
  have S : CallFix p m c cX1_arrives 1 s args wt RX1 := S
  have hl : lv_has ls 1 [(0, .ref (a 0))] := hl
  refine lv_aload_n S.1 S.2.1 dX1_arrives_0 rfl (lv_at hl 0 rfl) ?_
  refine g1_pathLength S hK hP dX1_arrives_1 ?_
  refine lv_if_le (tgt := 23) S.1 S.2.1 dX1_arrives_4 (by decide) (fun h4 => ?_) (fun h4 => ?_)
  · refine lv_iconst (v := nI 0) S.1 S.2.1 dX1_arrives_23 (by decide) ?_
    exact rd_retz hQ S hr hlk (r0 (by simp [h4])) dX1_arrives_24
  · refine lv_aload_n S.1 S.2.1 dX1_arrives_7 rfl (lv_at hl 0 rfl) ?_
    refine lv_iconst (v := nI 2) S.1 S.2.1 dX1_arrives_8 (by decide) ?_
    refine lv_aload_n S.1 S.2.1 dX1_arrives_9 rfl (lv_at hl 0 rfl) ?_
    refine g1_pathEnd S hK hP dX1_arrives_10 ?_
    refine rdV S cv_RX1_68 (c_X1_isIn (k := 2) (x := pe) (by decide) hV) hK hN hP (rp_rv hK hP) ⟨Nat.le_of_ble_eq_true rfl, Nat.le_of_ble_eq_true rfl⟩ ⟨Nat.zero_le _, Nat.zero_le _⟩ rfl hl.1 rfl (Nat.le_of_ble_eq_true rfl) dX1_arrives_13 ?_
    refine lv_if_eq (tgt := 23) S.1 S.2.1 dX1_arrives_16 (by decide) (fun h16 => ?_) (fun h16 => ?_)
    · have h16 : (inC cn P M 2 pe) = false := bI_f h16
      refine lv_iconst (v := nI 0) S.1 S.2.1 dX1_arrives_23 (by decide) ?_
      exact rd_retz hQ S hr hlk (r0 (by simp [h4, h16])) dX1_arrives_24
    · have h16 : (inC cn P M 2 pe) = true := bI_t h16
      refine lv_iconst (v := nI 1) S.1 S.2.1 dX1_arrives_19 (by decide) ?_
      refine lv_goto (tgt := 24) S.1 S.2.1 dX1_arrives_20 (by decide) ?_
      exact rd_retz hQ S hr hlk (r1 (by simp [h4, h16])) dX1_arrives_24
