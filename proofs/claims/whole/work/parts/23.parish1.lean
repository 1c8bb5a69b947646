set_option maxHeartbeats 8000000 in
set_option maxRecDepth 100000 in
theorem c_X1_leastOfFarm (l : Launch) (dC : Nat → ClassId) (dI : Nat → Nat → Nat) (cI cJ cQ : ClassId) (fu : Nat)   (x0 : Int32) (r : Int32) (hd : fX1_leastOfFarm fu   x0 = some r) : mRi l yX1_leastOfFarm wsX1_leastOfFarm (gRm 0 0) [.int x0] (cq_R (dC, dI) vwCl (gty cI cJ cQ) ([] : va_W)) r := by
  refine Met.ofW (cc := cX1_leastOfFarm) (maxL := 1) (ret := (some .int)) (by decide) rfl ?_
  intro p e s m args below meth c s₁ B hml hv
  obtain ⟨hav, hP, hK⟩ := hv
  have hx := B.exec
  have hb := B.bytes
  have hr := B.returns
  have hts := atoms_spec (ws := wsX1_leastOfFarm) B.pre
  have hown : s.vm.findClass RX1 = some m.cls := findClass_of_methodNamed B.named
  have hlocks := B.notSynchronized
  have hcf : CallFix p m c cX1_leastOfFarm 1 s args wsX1_leastOfFarm RX1 := ⟨hx, hb, hml, hown, hts⟩
  have hg : entryFrame m args 1 = entryFrame m ([.int x0] : List Value).toArray 1 := by rw [hav]
  rw [hg, lg_entry_eq]
  have hl := lv_entry ([.int x0]) (n := 1) (Nat.le_of_ble_eq_true rfl)
  generalize (lg_sl ([.int x0]) ++ List.replicate (1 - (lg_sl ([.int x0])).length) Slot.unset).toArray = ls at hl ⊢
  have hl : lv_has ls 1 [(0, .int x0)] := hl
  clear hg
  unfold fX1_leastOfFarm at hd
  refine lv_iload_n hx hb dX1_leastOfFarm_0 rfl (lv_at hl 0 rfl) ?_
  refine lv_iconst (v := 3) hx hb dX1_leastOfFarm_1 ki_3 ?_
  refine rx_icmp_ne hx hb 9 dX1_leastOfFarm_2 rfl hd (fun hd => ?_) (fun hd => ?_)
  · refine lv_iconst (v := 0) hx hb dX1_leastOfFarm_9 ki_0 ?_
    exact rx_retRi hx hb hr hlocks hd dX1_leastOfFarm_10
  refine lv_iconst (v := -1) hx hb dX1_leastOfFarm_5 ki_m1 ?_
  refine lv_goto (tgt := 10) hx hb dX1_leastOfFarm_6 rfl ?_
  exact rx_retRi hx hb hr hlocks hd dX1_leastOfFarm_10
theorem fiX1_mostOfFarm_X1 : ∀ w ∈ wsX10, w ∈ wsX1_mostOfFarm := mem_r _ [2, 3, 4, 5, 6, 7, 8, 9, 10, 11, 12, 13] rfl
set_option maxHeartbeats 8000000 in
set_option maxRecDepth 100000 in
theorem c_X1_mostOfFarm (l : Launch) (dC : Nat → ClassId) (dI : Nat → Nat → Nat) (cI cJ cQ : ClassId) (fu : Nat) (a_h : Nat → Nat) (s_h : PS) (x1 : Int32) (r : Int32) (hd : fX1_mostOfFarm fu  s_h x1 = some r) : mRi l yX1_mostOfFarm wsX1_mostOfFarm (gRm 0 0) [.ref (a_h 0), .int x1] (cq_R (dC, dI) vwCl (gty cI cJ cQ) (wP cI cJ a_h s_h)) r := by
  refine Met.ofW (cc := cX1_mostOfFarm) (maxL := 2) (ret := (some .int)) (by decide) rfl ?_
  intro p e s m args below meth c s₁ B hml hv
  obtain ⟨hav, hP, hK⟩ := hv
  have hx := B.exec
  have hb := B.bytes
  have hr := B.returns
  have hts := atoms_spec (ws := wsX1_mostOfFarm) B.pre
  have hown : s.vm.findClass RX1 = some m.cls := findClass_of_methodNamed B.named
  have hlocks := B.notSynchronized
  have hcf : CallFix p m c cX1_mostOfFarm 2 s args wsX1_mostOfFarm RX1 := ⟨hx, hb, hml, hown, hts⟩
  have fl_32 := hts (.fieldLink RX1 32 "BucketGift$Parish" "people" "I") (List.mem_of_getElem? (i := 1) rfl)
  have hg : entryFrame m args 2 = entryFrame m ([.ref (a_h 0), .int x1] : List Value).toArray 2 := by rw [hav]
  rw [hg, lg_entry_eq]
  have hl := lv_entry ([.ref (a_h 0), .int x1]) (n := 2) (Nat.le_of_ble_eq_true rfl)
  generalize (lg_sl ([.ref (a_h 0), .int x1]) ++ List.replicate (2 - (lg_sl ([.ref (a_h 0), .int x1])).length) Slot.unset).toArray = ls at hl ⊢
  have hl : lv_has ls 2 [(0, .ref (a_h 0)), (1, .int x1)] := hl
  clear hg
  unfold fX1_mostOfFarm at hd
  refine lv_iload_n hx hb dX1_mostOfFarm_0 rfl (lv_at hl 1 rfl) ?_
  refine rx_look hx hb (0 : Int32) (0) rfl 28 dX1_mostOfFarm_1 (by decide) rfl rfl hd (fun hd => ?_) (fun n_0 hd => ?_)
  · refine lv_bipush (v := 20) hx hb dX1_mostOfFarm_28 kb_20 ?_
    exact rx_retRi hx hb hr hlocks hd dX1_mostOfFarm_30
  refine rx_look hx hb (3 : Int32) (3) rfl 31 dX1_mostOfFarm_1 (by decide) rfl rfl hd (fun hd => ?_) (fun n_3 hd => ?_)
  · refine lv_aload_n hx hb dX1_mostOfFarm_31 rfl (lv_at hl 0 rfl) ?_
    refine rx_get hx hb hts fiX1_mostOfFarm_X1 hown hK hP 0 rfl rfl 7 (Nat.le_of_ble_eq_true rfl) fl_32 rfl rfl dX1_mostOfFarm_32 ?_
    refine lv_iconst (v := 1) hx hb dX1_mostOfFarm_35 ki_1 ?_
    refine lv_isub hx hb dX1_mostOfFarm_36 ?_
    exact rx_retRi hx hb hr hlocks hd dX1_mostOfFarm_37
  refine lv_lookup (tgt := 38) (off := 37) hx hb dX1_mostOfFarm_1 (by decide) (by simp [Op.lookupswitch.offset, Ne.symm n_0, n_0, Ne.symm n_3, n_3]) rfl ?_
  refine lv_sipush (v := 9999) hx hb dX1_mostOfFarm_38 ks_9999 ?_
  exact rx_retRi hx hb hr hlocks hd dX1_mostOfFarm_41
theorem fiX1_rowOfFarms_X1 : ∀ w ∈ wsX10, w ∈ wsX1_rowOfFarms := mem_r _ [5, 6, 7, 8, 9, 10, 11, 12, 13, 14, 15, 16] rfl
set_option maxHeartbeats 8000000 in
set_option maxRecDepth 100000 in
theorem c_X1_rowOfFarms (l : Launch) (dC : Nat → ClassId) (dI : Nat → Nat → Nat) (cI cJ cQ : ClassId) (fu : Nat) (a_h : Nat → Nat) (s_h : PS) (x1 : Int32) (r : Nat) (hd : fX1_rowOfFarms fu  s_h x1 = some r) : mRr l yX1_rowOfFarms wsX1_rowOfFarms (gRm 0 0) [.ref (a_h 0), .int x1] (cq_R (dC, dI) vwCl (gty cI cJ cQ) (wP cI cJ a_h s_h)) (fun k => .ref (a_h k)) r := by
  refine Met.ofW (cc := cX1_rowOfFarms) (maxL := 2) (ret := (some (.array .int))) (by decide) rfl ?_
  intro p e s m args below meth c s₁ B hml hv
  obtain ⟨hav, hP, hK⟩ := hv
  have hx := B.exec
  have hb := B.bytes
  have hr := B.returns
  have hts := atoms_spec (ws := wsX1_rowOfFarms) B.pre
  have hown : s.vm.findClass RX1 = some m.cls := findClass_of_methodNamed B.named
  have hlocks := B.notSynchronized
  have hcf : CallFix p m c cX1_rowOfFarms 2 s args wsX1_rowOfFarms RX1 := ⟨hx, hb, hml, hown, hts⟩
  have fl_7 := hts (.fieldLink RX1 7 "BucketGift$Parish" "need" "[I") (List.mem_of_getElem? (i := 1) rfl)
  have fl_13 := hts (.fieldLink RX1 13 "BucketGift$Parish" "store" "[I") (List.mem_of_getElem? (i := 2) rfl)
  have fl_16 := hts (.fieldLink RX1 16 "BucketGift$Parish" "thirst" "[I") (List.mem_of_getElem? (i := 3) rfl)
  have fl_19 := hts (.fieldLink RX1 19 "BucketGift$Parish" "sends" "[I") (List.mem_of_getElem? (i := 4) rfl)
  have hg : entryFrame m args 2 = entryFrame m ([.ref (a_h 0), .int x1] : List Value).toArray 2 := by rw [hav]
  rw [hg, lg_entry_eq]
  have hl := lv_entry ([.ref (a_h 0), .int x1]) (n := 2) (Nat.le_of_ble_eq_true rfl)
  generalize (lg_sl ([.ref (a_h 0), .int x1]) ++ List.replicate (2 - (lg_sl ([.ref (a_h 0), .int x1])).length) Slot.unset).toArray = ls at hl ⊢
  have hl : lv_has ls 2 [(0, .ref (a_h 0)), (1, .int x1)] := hl
  clear hg
  unfold fX1_rowOfFarms at hd
  refine lv_iload_n hx hb dX1_rowOfFarms_0 rfl (lv_at hl 1 rfl) ?_
  refine rx_tab hx hb (0 : Int32) (0) rfl 28 dX1_rowOfFarms_1 (by decide) (by decide) rfl rfl hd (fun hd => ?_) (fun n_0 hd => ?_)
  · refine lv_aload_n hx hb dX1_rowOfFarms_28 rfl (lv_at hl 0 rfl) ?_
    refine rx_get hx hb hts fiX1_rowOfFarms_X1 hown hK hP 0 rfl rfl 0 (Nat.le_of_ble_eq_true rfl) fl_7 rfl rfl dX1_rowOfFarms_29 ?_
    exact rx_retRr (v := 1) (ad := (fun k => .ref (a_h k))) hx hb hr (Or.inr ⟨_, rfl⟩) hlocks ⟨_, rfl⟩ hd dX1_rowOfFarms_32
  refine rx_tab hx hb (1 : Int32) (1) rfl 33 dX1_rowOfFarms_1 (by decide) (by decide) rfl rfl hd (fun hd => ?_) (fun n_1 hd => ?_)
  · refine lv_aload_n hx hb dX1_rowOfFarms_33 rfl (lv_at hl 0 rfl) ?_
    refine rx_get hx hb hts fiX1_rowOfFarms_X1 hown hK hP 0 rfl rfl 1 (Nat.le_of_ble_eq_true rfl) fl_13 rfl rfl dX1_rowOfFarms_34 ?_
    exact rx_retRr (v := 2) (ad := (fun k => .ref (a_h k))) hx hb hr (Or.inr ⟨_, rfl⟩) hlocks ⟨_, rfl⟩ hd dX1_rowOfFarms_37
  refine rx_tab hx hb (2 : Int32) (2) rfl 38 dX1_rowOfFarms_1 (by decide) (by decide) rfl rfl hd (fun hd => ?_) (fun n_2 hd => ?_)
  · refine lv_aload_n hx hb dX1_rowOfFarms_38 rfl (lv_at hl 0 rfl) ?_
    refine rx_get hx hb hts fiX1_rowOfFarms_X1 hown hK hP 0 rfl rfl 2 (Nat.le_of_ble_eq_true rfl) fl_16 rfl rfl dX1_rowOfFarms_39 ?_
    exact rx_retRr (v := 3) (ad := (fun k => .ref (a_h k))) hx hb hr (Or.inr ⟨_, rfl⟩) hlocks ⟨_, rfl⟩ hd dX1_rowOfFarms_42
  refine lv_tableOut (tgt := 43) hx hb dX1_rowOfFarms_1 (by omega) rfl ?_
  refine lv_aload_n hx hb dX1_rowOfFarms_43 rfl (lv_at hl 0 rfl) ?_
  refine rx_get hx hb hts fiX1_rowOfFarms_X1 hown hK hP 0 rfl rfl 3 (Nat.le_of_ble_eq_true rfl) fl_19 rfl rfl dX1_rowOfFarms_44 ?_
  exact rx_retRr (v := 4) (ad := (fun k => .ref (a_h k))) hx hb hr (Or.inr ⟨_, rfl⟩) hlocks ⟨_, rfl⟩ hd dX1_rowOfFarms_47
theorem fiX1_addPerson_X1 : ∀ w ∈ wsX10, w ∈ wsX1_addPerson := mem_r _ [6, 7, 8, 9, 10, 11, 12, 13, 14, 15, 16, 17] rfl
set_option maxHeartbeats 8000000 in
set_option maxRecDepth 100000 in
theorem c_X1_addPerson (l : Launch) (dC : Nat → ClassId) (dI : Nat → Nat → Nat) (cI cJ cQ : ClassId) (fu : Nat) (a_h : Nat → Nat) (sz : Nat) (s_h : PS) (x1 : Int32) (r : Int32 × PS) (hd : fX1_addPerson fu  s_h x1 = some r) : mUi l yX1_addPerson wsX1_addPerson (gRm 0 0) [.ref (a_h 0), .int x1] (dC, dI) vwCl (gty cI cJ cQ) (wP cI cJ a_h s_h) sz (fun u : PS => (wP cI cJ a_h u)) r := by
  refine Met.ofW (cc := cX1_addPerson) (maxL := 3) (ret := (some .int)) (by decide) rfl ?_
  intro p e s m args below meth c s₁ B hml hv
  obtain ⟨hav, hsz, hP, hK, hD0⟩ := hv
  subst hsz
  have hD := hD0.self (sz := s.heap.size)
  generalize hAe : va_A (wP cI cJ a_h s_h) s.heap.size = A at hD ⊢
  have hA : ∀ q : Nat, s.heap.size ≤ q → A q := fun q h => by rw [← hAe]; exact Or.inr h
  have hS : va_S A s.heap s.heap [] := va_S.rf
  have hx := B.exec
  have hb := B.bytes
  have hr := B.returns
  have hts := atoms_spec (ws := wsX1_addPerson) B.pre
  have hown : s.vm.findClass RX1 = some m.cls := findClass_of_methodNamed B.named
  have hlocks := B.notSynchronized
  have hcf : CallFix p m c cX1_addPerson 3 s args wsX1_addPerson RX1 := ⟨hx, hb, hml, hown, hts⟩
  have fl_32 := hts (.fieldLink RX1 32 "BucketGift$Parish" "people" "I") (List.mem_of_getElem? (i := 1) rfl)
  have fl_35 := hts (.fieldLink RX1 35 "BucketGift$Parish" "kinds" "[I") (List.mem_of_getElem? (i := 2) rfl)
  have fl_38 := hts (.fieldLink RX1 38 "BucketGift$Parish" "deeds" "[I") (List.mem_of_getElem? (i := 3) rfl)
  have fl_41 := hts (.fieldLink RX1 41 "BucketGift$Parish" "steps" "[I") (List.mem_of_getElem? (i := 4) rfl)
  have fl_44 := hts (.fieldLink RX1 44 "BucketGift$Parish" "asked" "[I") (List.mem_of_getElem? (i := 5) rfl)
  have hg : entryFrame m args 3 = entryFrame m ([.ref (a_h 0), .int x1] : List Value).toArray 3 := by rw [hav]
  rw [hg, lg_entry_eq]
  have hl := lv_entry ([.ref (a_h 0), .int x1]) (n := 3) (Nat.le_of_ble_eq_true rfl)
  generalize (lg_sl ([.ref (a_h 0), .int x1]) ++ List.replicate (3 - (lg_sl ([.ref (a_h 0), .int x1])).length) Slot.unset).toArray = ls at hl ⊢
  have hl : lv_has ls 3 [(0, .ref (a_h 0)), (1, .int x1)] := hl
  clear hg
  unfold fX1_addPerson at hd
  refine lv_aload_n hx hb dX1_addPerson_0 rfl (lv_at hl 0 rfl) ?_
  refine rx_get hx hb hts fiX1_addPerson_X1 hown hK hP 0 rfl rfl 7 (Nat.le_of_ble_eq_true rfl) fl_32 rfl rfl dX1_addPerson_1 ?_
  refine lv_bipush (v := 8) hx hb dX1_addPerson_4 kb_8 ?_
  refine rx_icmp_lt hx hb 11 dX1_addPerson_6 rfl hd (fun hd => ?_) (fun hd => ?_)
  · refine lv_aload_n hx hb dX1_addPerson_11 rfl (lv_at hl 0 rfl) ?_
    refine rx_get hx hb hts fiX1_addPerson_X1 hown hK hP 0 rfl rfl 7 (Nat.le_of_ble_eq_true rfl) fl_32 rfl rfl dX1_addPerson_12 ?_
    refine rx_topi hd (fun x2_15 hd => ?_)
    refine lv_istore_n (lv' := [(2, .int x2_15), (0, .ref (a_h 0)), (1, .int x1)]) hx hb dX1_addPerson_15 rfl hl (Nat.le_of_ble_eq_true rfl) rfl (fun ls hl => ?_)
    refine lv_aload_n hx hb dX1_addPerson_16 rfl (lv_at hl 1 rfl) ?_
    refine rx_get hx hb hts fiX1_addPerson_X1 hown hK hP 0 rfl rfl 8 (Nat.le_of_ble_eq_true rfl) fl_35 rfl rfl dX1_addPerson_17 ?_
    refine lv_iload_n hx hb dX1_addPerson_20 rfl (lv_at hl 0 rfl) ?_
    refine lv_iload_n hx hb dX1_addPerson_21 rfl (lv_at hl 2 rfl) ?_
    refine rx_iast (wP cI cJ a_h (puKinds s_h (Int32.toNatClampNeg x2_15) x1)) hx hb hK hP hD hS 6 0 rfl rfl hd (wP_uKinds ..) dX1_addPerson_22 (fun hd H locs hP hD hS => ?_)
    refine lv_aload_n hx hb dX1_addPerson_23 rfl (lv_at hl 1 rfl) ?_
    refine rx_get hx hb hts fiX1_addPerson_X1 hown hK hP 0 rfl rfl 9 (Nat.le_of_ble_eq_true rfl) fl_38 rfl rfl dX1_addPerson_24 ?_
    refine lv_iload_n hx hb dX1_addPerson_27 rfl (lv_at hl 0 rfl) ?_
    refine lv_iconst (v := 0) hx hb dX1_addPerson_28 ki_0 ?_
    refine rx_iast (wP cI cJ a_h (puDeeds (puKinds s_h (Int32.toNatClampNeg x2_15) x1) (Int32.toNatClampNeg x2_15) (0 : Int32))) hx hb hK hP hD hS 7 0 rfl rfl hd (wP_uDeeds ..) dX1_addPerson_29 (fun hd H locs hP hD hS => ?_)
    refine lv_aload_n hx hb dX1_addPerson_30 rfl (lv_at hl 1 rfl) ?_
    refine rx_get hx hb hts fiX1_addPerson_X1 hown hK hP 0 rfl rfl 10 (Nat.le_of_ble_eq_true rfl) fl_41 rfl rfl dX1_addPerson_31 ?_
    refine lv_iload_n hx hb dX1_addPerson_34 rfl (lv_at hl 0 rfl) ?_
    refine lv_iload_n hx hb dX1_addPerson_35 rfl (lv_at hl 0 rfl) ?_
    refine rx_iast (wP cI cJ a_h (puSteps (puDeeds (puKinds s_h (Int32.toNatClampNeg x2_15) x1) (Int32.toNatClampNeg x2_15) (0 : Int32)) (Int32.toNatClampNeg x2_15) x2_15)) hx hb hK hP hD hS 8 0 rfl rfl hd (wP_uSteps ..) dX1_addPerson_36 (fun hd H locs hP hD hS => ?_)
    refine lv_aload_n hx hb dX1_addPerson_37 rfl (lv_at hl 1 rfl) ?_
    refine rx_get hx hb hts fiX1_addPerson_X1 hown hK hP 0 rfl rfl 11 (Nat.le_of_ble_eq_true rfl) fl_44 rfl rfl dX1_addPerson_38 ?_
    refine lv_iload_n hx hb dX1_addPerson_41 rfl (lv_at hl 0 rfl) ?_
    refine lv_iconst (v := 0) hx hb dX1_addPerson_42 ki_0 ?_
    refine rx_iast (wP cI cJ a_h (puAsked (puSteps (puDeeds (puKinds s_h (Int32.toNatClampNeg x2_15) x1) (Int32.toNatClampNeg x2_15) (0 : Int32)) (Int32.toNatClampNeg x2_15) x2_15) (Int32.toNatClampNeg x2_15) (0 : Int32))) hx hb hK hP hD hS 9 0 rfl rfl hd (wP_uAsked ..) dX1_addPerson_43 (fun hd H locs hP hD hS => ?_)
    refine lv_aload_n hx hb dX1_addPerson_44 rfl (lv_at hl 1 rfl) ?_
    refine lv_dup hx hb dX1_addPerson_45 rfl ?_
    refine rx_get hx hb hts fiX1_addPerson_X1 hown hK hP 0 rfl rfl 7 (Nat.le_of_ble_eq_true rfl) fl_32 rfl rfl dX1_addPerson_46 ?_
    refine lv_iconst (v := 1) hx hb dX1_addPerson_49 ki_1 ?_
    refine lv_iadd hx hb dX1_addPerson_50 ?_
    refine rx_puti (wP cI cJ a_h (psPeople (puAsked (puSteps (puDeeds (puKinds s_h (Int32.toNatClampNeg x2_15) x1) (Int32.toNatClampNeg x2_15) (0 : Int32)) (Int32.toNatClampNeg x2_15) x2_15) (Int32.toNatClampNeg x2_15) (0 : Int32)) ((pgPeople (puAsked (puSteps (puDeeds (puKinds s_h (Int32.toNatClampNeg x2_15) x1) (Int32.toNatClampNeg x2_15) (0 : Int32)) (Int32.toNatClampNeg x2_15) x2_15) (Int32.toNatClampNeg x2_15) (0 : Int32))) + (1 : Int32)))) hx hb hts fiX1_addPerson_X1 tyX1 tyX1_ok nmX1 hown hK hP hD hS 0 rfl rfl 7 (Nat.le_of_ble_eq_true rfl) fl_32 rfl rfl rfl (Nat.le_of_ble_eq_true rfl) (wP_sPeople ..) dX1_addPerson_51 (fun H locs hP hD hS => ?_)
    refine lv_iload_n hx hb dX1_addPerson_54 rfl (lv_at hl 0 rfl) ?_
    exact rx_retUi (u := (psPeople (puAsked (puSteps (puDeeds (puKinds s_h (Int32.toNatClampNeg x2_15) x1) (Int32.toNatClampNeg x2_15) (0 : Int32)) (Int32.toNatClampNeg x2_15) x2_15) (Int32.toNatClampNeg x2_15) (0 : Int32)) ((pgPeople (puAsked (puSteps (puDeeds (puKinds s_h (Int32.toNatClampNeg x2_15) x1) (Int32.toNatClampNeg x2_15) (0 : Int32)) (Int32.toNatClampNeg x2_15) x2_15) (Int32.toNatClampNeg x2_15) (0 : Int32))) + (1 : Int32)))) (w1 := (fun u : PS => (wP cI cJ a_h u))) hx hb hr hlocks hd hK hP hD hS dX1_addPerson_55
  refine lv_iconst (v := -1) hx hb dX1_addPerson_9 ki_m1 ?_
  exact rx_retUi (u := s_h) (w1 := (fun u : PS => (wP cI cJ a_h u))) hx hb hr hlocks hd hK hP hD hS dX1_addPerson_10
theorem fiX1_isThere_X1 : ∀ w ∈ wsX10, w ∈ wsX1_isThere := mem_r _ [2, 3, 4, 5, 6, 7, 8, 9, 10, 11, 12, 13] rfl
set_option maxHeartbeats 8000000 in
set_option maxRecDepth 100000 in
theorem c_X1_isThere (l : Launch) (dC : Nat → ClassId) (dI : Nat → Nat → Nat) (cI cJ cQ : ClassId) (fu : Nat) (a_h : Nat → Nat) (s_h : PS) (x1 : Int32) (r : Int32) (hd : fX1_isThere fu  s_h x1 = some r) : mRi l yX1_isThere wsX1_isThere (gRm 0 0) [.ref (a_h 0), .int x1] (cq_R (dC, dI) vwCl (gty cI cJ cQ) (wP cI cJ a_h s_h)) r := by
  refine Met.ofW (cc := cX1_isThere) (maxL := 2) (ret := (some .boolean)) (by decide) rfl ?_
  intro p e s m args below meth c s₁ B hml hv
  obtain ⟨hav, hP, hK⟩ := hv
  have hx := B.exec
  have hb := B.bytes
  have hr := B.returns
  have hts := atoms_spec (ws := wsX1_isThere) B.pre
  have hown : s.vm.findClass RX1 = some m.cls := findClass_of_methodNamed B.named
  have hlocks := B.notSynchronized
  have hcf : CallFix p m c cX1_isThere 2 s args wsX1_isThere RX1 := ⟨hx, hb, hml, hown, hts⟩
  have fl_32 := hts (.fieldLink RX1 32 "BucketGift$Parish" "people" "I") (List.mem_of_getElem? (i := 1) rfl)
  have hg : entryFrame m args 2 = entryFrame m ([.ref (a_h 0), .int x1] : List Value).toArray 2 := by rw [hav]
  rw [hg, lg_entry_eq]
  have hl := lv_entry ([.ref (a_h 0), .int x1]) (n := 2) (Nat.le_of_ble_eq_true rfl)
  generalize (lg_sl ([.ref (a_h 0), .int x1]) ++ List.replicate (2 - (lg_sl ([.ref (a_h 0), .int x1])).length) Slot.unset).toArray = ls at hl ⊢
  have hl : lv_has ls 2 [(0, .ref (a_h 0)), (1, .int x1)] := hl
  clear hg
  unfold fX1_isThere at hd
  refine lv_iload_n hx hb dX1_isThere_0 rfl (lv_at hl 1 rfl) ?_
  refine rx_if_lt hx hb 16 dX1_isThere_1 rfl hd (fun hd => ?_) (fun hd => ?_)
  · refine lv_iconst (v := 0) hx hb dX1_isThere_16 ki_0 ?_
    exact rx_retRz hx hb hr hlocks hd dX1_isThere_17
  refine lv_iload_n hx hb dX1_isThere_4 rfl (lv_at hl 1 rfl) ?_
  refine lv_aload_n hx hb dX1_isThere_5 rfl (lv_at hl 0 rfl) ?_
  refine rx_get hx hb hts fiX1_isThere_X1 hown hK hP 0 rfl rfl 7 (Nat.le_of_ble_eq_true rfl) fl_32 rfl rfl dX1_isThere_6 ?_
  refine rx_icmp_ge hx hb 16 dX1_isThere_9 rfl hd (fun hd => ?_) (fun hd => ?_)
  · refine lv_iconst (v := 0) hx hb dX1_isThere_16 ki_0 ?_
    exact rx_retRz hx hb hr hlocks hd dX1_isThere_17
  refine lv_iconst (v := 1) hx hb dX1_isThere_12 ki_1 ?_
  refine lv_goto (tgt := 17) hx hb dX1_isThere_13 rfl ?_
  exact rx_retRz hx hb hr hlocks hd dX1_isThere_17
theorem fiX1_deservedBy_X1 : ∀ w ∈ wsX10, w ∈ wsX1_deservedBy := mem_r _ [18, 19, 20, 21, 22, 23, 24, 25, 26, 27, 28, 29] rfl
set_option maxHeartbeats 8000000 in
set_option maxRecDepth 100000 in
theorem c_X1_deservedBy (l : Launch) (dC : Nat → ClassId) (dI : Nat → Nat → Nat) (cI cJ cQ : ClassId) (fu : Nat) (a_h : Nat → Nat) (s_h : PS) (x1 : Int32) (r : Int32) (hd : fX1_deservedBy fu  s_h x1 = some r) : mRi l yX1_deservedBy wsX1_deservedBy (gRm 2 44) [.ref (a_h 0), .int x1] (cq_R (dC, dI) vwCl (gty cI cJ cQ) (wP cI cJ a_h s_h)) r := by
  refine Met.ofW (cc := cX1_deservedBy) (maxL := 2) (ret := (some .int)) (by decide) rfl ?_
  intro p e s m args below meth c s₁ B hml hv
  obtain ⟨hav, hP, hK⟩ := hv
  have hx := B.exec
  have hb := B.bytes
  have hr := B.returns
  have hts := atoms_spec (ws := wsX1_deservedBy) B.pre
  have hown : s.vm.findClass RX1 = some m.cls := findClass_of_methodNamed B.named
  have hlocks := B.notSynchronized
  have hcf : CallFix p m c cX1_deservedBy 2 s args wsX1_deservedBy RX1 := ⟨hx, hb, hml, hown, hts⟩
  have fl_35 := hts (.fieldLink RX1 35 "BucketGift$Parish" "kinds" "[I") (List.mem_of_getElem? (i := 1) rfl)
  have fl_38 := hts (.fieldLink RX1 38 "BucketGift$Parish" "deeds" "[I") (List.mem_of_getElem? (i := 2) rfl)
  have hg : entryFrame m args 2 = entryFrame m ([.ref (a_h 0), .int x1] : List Value).toArray 2 := by rw [hav]
  rw [hg, lg_entry_eq]
  have hl := lv_entry ([.ref (a_h 0), .int x1]) (n := 2) (Nat.le_of_ble_eq_true rfl)
  generalize (lg_sl ([.ref (a_h 0), .int x1]) ++ List.replicate (2 - (lg_sl ([.ref (a_h 0), .int x1])).length) Slot.unset).toArray = ls at hl ⊢
  have hl : lv_has ls 2 [(0, .ref (a_h 0)), (1, .int x1)] := hl
  clear hg
  unfold fX1_deservedBy at hd
  refine lv_aload_n hx hb dX1_deservedBy_0 rfl (lv_at hl 0 rfl) ?_
  refine rx_get hx hb hts fiX1_deservedBy_X1 hown hK hP 0 rfl rfl 8 (Nat.le_of_ble_eq_true rfl) fl_35 rfl rfl dX1_deservedBy_1 ?_
  refine lv_iload_n hx hb dX1_deservedBy_4 rfl (lv_at hl 1 rfl) ?_
  refine rx_iald hx hb hK hP 6 0 rfl rfl hd dX1_deservedBy_5 (fun v5 hd => ?_)
  refine lv_aload_n hx hb dX1_deservedBy_6 rfl (lv_at hl 0 rfl) ?_
  refine rx_get hx hb hts fiX1_deservedBy_X1 hown hK hP 0 rfl rfl 9 (Nat.le_of_ble_eq_true rfl) fl_38 rfl rfl dX1_deservedBy_7 ?_
  refine lv_iload_n hx hb dX1_deservedBy_10 rfl (lv_at hl 1 rfl) ?_
  refine rx_iald hx hb hK hP 7 0 rfl rfl hd dX1_deservedBy_11 (fun v11 hd => ?_)
  refine rx_roi hd (fun v hv => W.runS (As := [.int v5, .int v11]) (rest := []) hcf (c_X0_deserved l dC dI cI cJ cQ fu    v5 v11 v hv) (va_cwS 2 hts gX1_deservedBy_X0_deserved rfl rfl rfl cd_X0_deserved ⟨(Nat.le_of_ble_eq_true rfl), (Nat.le_of_ble_eq_true rfl)⟩) (cq_R_S hK hP [] rfl) rfl rfl hl.1 rfl (lv_room (Nat.le_of_ble_eq_true rfl)) dX1_deservedBy_12 ⟨Nat.le_refl _, Nat.le_refl _⟩) (fun u12 hd => ?_)
  exact rx_retRi hx hb hr hlocks hd dX1_deservedBy_15
theorem fiX1_gift_X1 : ∀ w ∈ wsX10, w ∈ wsX1_gift := mem_r _ [24, 25, 26, 27, 28, 29, 30, 31, 32, 33, 34, 35] rfl
set_option maxHeartbeats 8000000 in
set_option maxRecDepth 100000 in
theorem c_X1_gift (l : Launch) (dC : Nat → ClassId) (dI : Nat → Nat → Nat) (cI cJ cQ : ClassId) (fu : Nat) (a_h : Nat → Nat) (s_h : PS) (x1 : Int32) (x2 : Int32) (x3 : Int32) (x4 : Int32) (r : Int32) (hd : fX1_gift fu  s_h x1 x2 x3 x4 = some r) : mRi l yX1_gift wsX1_gift (gRm 2 44) [.ref (a_h 0), .int x1, .int x2, .int x3, .int x4] (cq_R (dC, dI) vwCl (gty cI cJ cQ) (wP cI cJ a_h s_h)) r := by
  refine Met.ofW (cc := cX1_gift) (maxL := 6) (ret := (some .int)) (by decide) rfl ?_
  intro p e s m args below meth c s₁ B hml hv
  obtain ⟨hav, hP, hK⟩ := hv
  have hx := B.exec
  have hb := B.bytes
  have hr := B.returns
  have hts := atoms_spec (ws := wsX1_gift) B.pre
  have hown : s.vm.findClass RX1 = some m.cls := findClass_of_methodNamed B.named
  have hlocks := B.notSynchronized
  have hcf : CallFix p m c cX1_gift 6 s args wsX1_gift RX1 := ⟨hx, hb, hml, hown, hts⟩
  have fl_22 := hts (.fieldLink RX1 22 "BucketGift$Parish" "water" "[I") (List.mem_of_getElem? (i := 3) rfl)
  have fl_44 := hts (.fieldLink RX1 44 "BucketGift$Parish" "asked" "[I") (List.mem_of_getElem? (i := 8) rfl)
  have fl_35 := hts (.fieldLink RX1 35 "BucketGift$Parish" "kinds" "[I") (List.mem_of_getElem? (i := 1) rfl)
  have fl_38 := hts (.fieldLink RX1 38 "BucketGift$Parish" "deeds" "[I") (List.mem_of_getElem? (i := 2) rfl)
  have hg : entryFrame m args 6 = entryFrame m ([.ref (a_h 0), .int x1, .int x2, .int x3, .int x4] : List Value).toArray 6 := by rw [hav]
  rw [hg, lg_entry_eq]
  have hl := lv_entry ([.ref (a_h 0), .int x1, .int x2, .int x3, .int x4]) (n := 6) (Nat.le_of_ble_eq_true rfl)
  generalize (lg_sl ([.ref (a_h 0), .int x1, .int x2, .int x3, .int x4]) ++ List.replicate (6 - (lg_sl ([.ref (a_h 0), .int x1, .int x2, .int x3, .int x4])).length) Slot.unset).toArray = ls at hl ⊢
  have hl : lv_has ls 6 [(0, .ref (a_h 0)), (1, .int x1), (2, .int x2), (3, .int x3), (4, .int x4)] := hl
  clear hg
  unfold fX1_gift at hd
  have b60 : ∀ (x1 : Int32) (x5 : Int32), fX1_gift_b60 fu s_h   x1 x5 = some r → bk_R p l e (headSpec wsX1_gift (gRm 2 44)).room s m args below meth c (qRi below args s r) 6 60 [(0, .ref (a_h 0)), (1, .int x1), (5, .int x5)] [] := by
    intro x1 x5 hd
    intro ls hl
    unfold fX1_gift_b60 at hd
    refine lv_iload hx hb dX1_gift_60 (lv_at hl 2 rfl) ?_
    refine lv_aload_n hx hb dX1_gift_62 rfl (lv_at hl 0 rfl) ?_
    refine rx_get hx hb hts fiX1_gift_X1 hown hK hP 0 rfl rfl 11 (Nat.le_of_ble_eq_true rfl) fl_44 rfl rfl dX1_gift_63 ?_
    refine lv_iload_n hx hb dX1_gift_66 rfl (lv_at hl 1 rfl) ?_
    refine rx_iald hx hb hK hP 9 0 rfl rfl hd dX1_gift_67 (fun v67 hd => ?_)
    refine lv_ishr hx hb dX1_gift_68 ?_
    refine lv_aload_n hx hb dX1_gift_69 rfl (lv_at hl 0 rfl) ?_
    refine rx_get hx hb hts fiX1_gift_X1 hown hK hP 0 rfl rfl 4 (Nat.le_of_ble_eq_true rfl) fl_22 rfl rfl dX1_gift_70 ?_
    refine lv_iconst (v := 0) hx hb dX1_gift_73 ki_0 ?_
    refine rx_iald hx hb hK hP 5 0 rfl rfl hd dX1_gift_74 (fun v74 hd => ?_)
    refine va_mmin hx hb (hml.trans hl.1.symm) hown (hts _ (List.mem_of_getElem? (i := 9) rfl)) (hts _ (List.mem_of_getElem? (i := 10) rfl)) (hts _ (List.mem_of_getElem? (i := 6) rfl)) (hts _ (List.mem_of_getElem? (i := 11) rfl)) (Nat.le_of_ble_eq_true rfl) (Nat.le_of_ble_eq_true rfl) (Nat.zero_le _) (Nat.zero_le _) dX1_gift_75 ?_
    exact rx_retRi hx hb hr hlocks hd dX1_gift_78
  have b46 : ∀ (x1 : Int32) (x2 : Int32) (x3 : Int32), fX1_gift_b46 fu s_h   x1 x2 x3 = some r → bk_R p l e (headSpec wsX1_gift (gRm 2 44)).room s m args below meth c (qRi below args s r) 6 46 [(0, .ref (a_h 0)), (1, .int x1), (2, .int x2), (3, .int x3)] [] := by
    intro x1 x2 x3 hd
    intro ls hl
    unfold fX1_gift_b46 at hd
    refine lv_iload_n hx hb dX1_gift_46 rfl (lv_at hl 2 rfl) ?_
    refine lv_iload_n hx hb dX1_gift_47 rfl (lv_at hl 3 rfl) ?_
    refine rx_roi hd (fun v hv => W.runS (As := [.int x2, .int x3]) (rest := []) hcf (c_X0_deserved l dC dI cI cJ cQ fu    x2 x3 v hv) (va_cwS 2 hts gX1_gift_X0_deserved rfl rfl rfl cd_X0_deserved ⟨(Nat.le_of_ble_eq_true rfl), (Nat.le_of_ble_eq_true rfl)⟩) (cq_R_S hK hP [] rfl) rfl rfl hl.1 rfl (lv_room (Nat.le_of_ble_eq_true rfl)) dX1_gift_48 ⟨Nat.le_refl _, Nat.le_refl _⟩) (fun u48 hd => ?_)
    refine lv_aload_n hx hb dX1_gift_51 rfl (lv_at hl 0 rfl) ?_
    refine rx_get hx hb hts fiX1_gift_X1 hown hK hP 0 rfl rfl 4 (Nat.le_of_ble_eq_true rfl) fl_22 rfl rfl dX1_gift_52 ?_
    refine lv_iconst (v := 2) hx hb dX1_gift_55 ki_2 ?_
    refine rx_iald hx hb hK hP 5 0 rfl rfl hd dX1_gift_56 (fun v56 hd => ?_)
    refine lv_iadd hx hb dX1_gift_57 ?_
    refine rx_topi hd (fun x5_58 hd => ?_)
    refine lv_istore (lv' := [(5, .int x5_58), (0, .ref (a_h 0)), (1, .int x1), (2, .int x2), (3, .int x3)]) hx hb dX1_gift_58 hl (Nat.le_of_ble_eq_true rfl) rfl (fun ls hl => ?_)
    exact b60   x1 x5_58 hd _ (lv_sub hl [1, 2, 0] rfl)
  refine lv_iload_n hx hb dX1_gift_0 rfl (lv_at hl 2 rfl) ?_
  refine lv_iconst (v := 4) hx hb dX1_gift_1 ki_4 ?_
  refine rx_icmp_ne hx hb 46 dX1_gift_2 rfl hd (fun hd => ?_) (fun hd => ?_)
  · exact b46   x1 x2 x3 hd _ (lv_sub hl [0, 1, 2, 3] rfl)
  refine lv_iload hx hb dX1_gift_5 (lv_at hl 4 rfl) ?_
  refine lv_iload_n hx hb dX1_gift_7 rfl (lv_at hl 1 rfl) ?_
  refine rx_icmp_eq hx hb 46 dX1_gift_8 rfl hd (fun hd => ?_) (fun hd => ?_)
  · exact b46   x1 x2 x3 hd _ (lv_sub hl [0, 1, 2, 3] rfl)
  refine lv_iconst (v := 0) hx hb dX1_gift_11 ki_0 ?_
  refine lv_aload_n hx hb dX1_gift_12 rfl (lv_at hl 0 rfl) ?_
  refine rx_get hx hb hts fiX1_gift_X1 hown hK hP 0 rfl rfl 8 (Nat.le_of_ble_eq_true rfl) fl_35 rfl rfl dX1_gift_13 ?_
  refine lv_iload hx hb dX1_gift_16 (lv_at hl 4 rfl) ?_
  refine rx_iald hx hb hK hP 6 0 rfl rfl hd dX1_gift_18 (fun v18 hd => ?_)
  refine lv_aload_n hx hb dX1_gift_19 rfl (lv_at hl 0 rfl) ?_
  refine rx_get hx hb hts fiX1_gift_X1 hown hK hP 0 rfl rfl 9 (Nat.le_of_ble_eq_true rfl) fl_38 rfl rfl dX1_gift_20 ?_
  refine lv_iload hx hb dX1_gift_23 (lv_at hl 4 rfl) ?_
  refine rx_iald hx hb hK hP 7 0 rfl rfl hd dX1_gift_25 (fun v25 hd => ?_)
  refine rx_roi hd (fun v hv => W.runS (As := [.int v18, .int v25]) (rest := [.int (0 : Int32)]) hcf (c_X0_deserved l dC dI cI cJ cQ fu    v18 v25 v hv) (va_cwS 2 hts gX1_gift_X0_deserved rfl rfl rfl cd_X0_deserved ⟨(Nat.le_of_ble_eq_true rfl), (Nat.le_of_ble_eq_true rfl)⟩) (cq_R_S hK hP [] rfl) rfl rfl hl.1 rfl (lv_room (Nat.le_of_ble_eq_true rfl)) dX1_gift_26 ⟨Nat.le_refl _, Nat.le_refl _⟩) (fun u26 hd => ?_)
  refine lv_aload_n hx hb dX1_gift_29 rfl (lv_at hl 0 rfl) ?_
  refine rx_get hx hb hts fiX1_gift_X1 hown hK hP 0 rfl rfl 4 (Nat.le_of_ble_eq_true rfl) fl_22 rfl rfl dX1_gift_30 ?_
  refine lv_iconst (v := 2) hx hb dX1_gift_33 ki_2 ?_
  refine rx_iald hx hb hK hP 5 0 rfl rfl hd dX1_gift_34 (fun v34 hd => ?_)
  refine lv_iadd hx hb dX1_gift_35 ?_
  refine lv_iconst (v := 1) hx hb dX1_gift_36 ki_1 ?_
  refine lv_isub hx hb dX1_gift_37 ?_
  refine va_mmax hx hb (hml.trans hl.1.symm) hown (hts _ (List.mem_of_getElem? (i := 4) rfl)) (hts _ (List.mem_of_getElem? (i := 5) rfl)) (hts _ (List.mem_of_getElem? (i := 6) rfl)) (hts _ (List.mem_of_getElem? (i := 7) rfl)) (Nat.le_of_ble_eq_true rfl) (Nat.le_of_ble_eq_true rfl) (Nat.zero_le _) (Nat.zero_le _) dX1_gift_38 ?_
  refine rx_topi hd (fun x5_41 hd => ?_)
  refine lv_istore (lv' := [(5, .int x5_41), (0, .ref (a_h 0)), (1, .int x1), (2, .int x2), (3, .int x3), (4, .int x4)]) hx hb dX1_gift_41 hl (Nat.le_of_ble_eq_true rfl) rfl (fun ls hl => ?_)
  refine lv_goto (tgt := 60) hx hb dX1_gift_43 rfl ?_
  exact b60   x1 x5_41 hd _ (lv_sub hl [1, 2, 0] rfl)
theorem fiX1_givenTo_X1 : ∀ w ∈ wsX10, w ∈ wsX1_givenTo := mem_r _ [30, 31, 32, 33, 34, 35, 36, 37, 38, 39, 40, 41] rfl
set_option maxHeartbeats 8000000 in
set_option maxRecDepth 100000 in
theorem c_X1_givenTo (l : Launch) (dC : Nat → ClassId) (dI : Nat → Nat → Nat) (cI cJ cQ : ClassId) (fu : Nat) (a_h : Nat → Nat) (s_h : PS) (x1 : Int32) (r : Int32) (hd : fX1_givenTo fu  s_h x1 = some r) : mRi l yX1_givenTo wsX1_givenTo (gRm 3 69) [.ref (a_h 0), .int x1] (cq_R (dC, dI) vwCl (gty cI cJ cQ) (wP cI cJ a_h s_h)) r := by
  refine Met.ofW (cc := cX1_givenTo) (maxL := 2) (ret := (some .int)) (by decide) rfl ?_
  intro p e s m args below meth c s₁ B hml hv
  obtain ⟨hav, hP, hK⟩ := hv
  have hx := B.exec
  have hb := B.bytes
  have hr := B.returns
  have hts := atoms_spec (ws := wsX1_givenTo) B.pre
  have hown : s.vm.findClass RX1 = some m.cls := findClass_of_methodNamed B.named
  have hlocks := B.notSynchronized
  have hcf : CallFix p m c cX1_givenTo 2 s args wsX1_givenTo RX1 := ⟨hx, hb, hml, hown, hts⟩
  have fl_35 := hts (.fieldLink RX1 35 "BucketGift$Parish" "kinds" "[I") (List.mem_of_getElem? (i := 1) rfl)
  have fl_38 := hts (.fieldLink RX1 38 "BucketGift$Parish" "deeds" "[I") (List.mem_of_getElem? (i := 2) rfl)
  have fl_41 := hts (.fieldLink RX1 41 "BucketGift$Parish" "steps" "[I") (List.mem_of_getElem? (i := 3) rfl)
  have hg : entryFrame m args 2 = entryFrame m ([.ref (a_h 0), .int x1] : List Value).toArray 2 := by rw [hav]
  rw [hg, lg_entry_eq]
  have hl := lv_entry ([.ref (a_h 0), .int x1]) (n := 2) (Nat.le_of_ble_eq_true rfl)
  generalize (lg_sl ([.ref (a_h 0), .int x1]) ++ List.replicate (2 - (lg_sl ([.ref (a_h 0), .int x1])).length) Slot.unset).toArray = ls at hl ⊢
  have hl : lv_has ls 2 [(0, .ref (a_h 0)), (1, .int x1)] := hl
  clear hg
  unfold fX1_givenTo at hd
  refine lv_aload_n hx hb dX1_givenTo_0 rfl (lv_at hl 0 rfl) ?_
  refine lv_iload_n hx hb dX1_givenTo_1 rfl (lv_at hl 1 rfl) ?_
  refine lv_aload_n hx hb dX1_givenTo_2 rfl (lv_at hl 0 rfl) ?_
  refine rx_get hx hb hts fiX1_givenTo_X1 hown hK hP 0 rfl rfl 8 (Nat.le_of_ble_eq_true rfl) fl_35 rfl rfl dX1_givenTo_3 ?_
  refine lv_iload_n hx hb dX1_givenTo_6 rfl (lv_at hl 1 rfl) ?_
  refine rx_iald hx hb hK hP 6 0 rfl rfl hd dX1_givenTo_7 (fun v7 hd => ?_)
  refine lv_aload_n hx hb dX1_givenTo_8 rfl (lv_at hl 0 rfl) ?_
  refine rx_get hx hb hts fiX1_givenTo_X1 hown hK hP 0 rfl rfl 9 (Nat.le_of_ble_eq_true rfl) fl_38 rfl rfl dX1_givenTo_9 ?_
  refine lv_iload_n hx hb dX1_givenTo_12 rfl (lv_at hl 1 rfl) ?_
  refine rx_iald hx hb hK hP 7 0 rfl rfl hd dX1_givenTo_13 (fun v13 hd => ?_)
  refine lv_aload_n hx hb dX1_givenTo_14 rfl (lv_at hl 0 rfl) ?_
  refine rx_get hx hb hts fiX1_givenTo_X1 hown hK hP 0 rfl rfl 10 (Nat.le_of_ble_eq_true rfl) fl_41 rfl rfl dX1_givenTo_15 ?_
  refine lv_iload_n hx hb dX1_givenTo_18 rfl (lv_at hl 1 rfl) ?_
  refine rx_iald hx hb hK hP 8 0 rfl rfl hd dX1_givenTo_19 (fun v19 hd => ?_)
  refine rx_roi hd (fun v hv => W.runV (As := [.int x1, .int v7, .int v13, .int v19]) (rest := []) hcf (c_X1_gift l dC dI cI cJ cQ fu a_h  s_h x1 v7 v13 v19 v hv) (cwV 4 hts gX1_givenTo_X1_gift rfl rfl rfl cd_X1_gift ⟨(Nat.le_of_ble_eq_true rfl), (Nat.le_of_ble_eq_true rfl)⟩) (cq_R_V1 (q0 := 0) (ci := 0) hK hP rfl rfl) rfl rfl hl.1 rfl (lv_room (Nat.le_of_ble_eq_true rfl)) dX1_givenTo_20 ⟨Nat.le_refl _, Nat.le_refl _⟩) (fun u20 hd => ?_)
  exact rx_retRi hx hb hr hlocks hd dX1_givenTo_23
theorem fiX1_rowOfPeople_X1 : ∀ w ∈ wsX10, w ∈ wsX1_rowOfPeople := mem_r _ [5, 6, 7, 8, 9, 10, 11, 12, 13, 14, 15, 16] rfl
set_option maxHeartbeats 8000000 in
set_option maxRecDepth 100000 in
theorem c_X1_rowOfPeople (l : Launch) (dC : Nat → ClassId) (dI : Nat → Nat → Nat) (cI cJ cQ : ClassId) (fu : Nat) (a_h : Nat → Nat) (s_h : PS) (x1 : Int32) (r : Nat) (hd : fX1_rowOfPeople fu  s_h x1 = some r) : mRr l yX1_rowOfPeople wsX1_rowOfPeople (gRm 0 0) [.ref (a_h 0), .int x1] (cq_R (dC, dI) vwCl (gty cI cJ cQ) (wP cI cJ a_h s_h)) (fun k => .ref (a_h k)) r := by
  refine Met.ofW (cc := cX1_rowOfPeople) (maxL := 2) (ret := (some (.array .int))) (by decide) rfl ?_
  intro p e s m args below meth c s₁ B hml hv
  obtain ⟨hav, hP, hK⟩ := hv
  have hx := B.exec
  have hb := B.bytes
  have hr := B.returns
  have hts := atoms_spec (ws := wsX1_rowOfPeople) B.pre
  have hown : s.vm.findClass RX1 = some m.cls := findClass_of_methodNamed B.named
  have hlocks := B.notSynchronized
  have hcf : CallFix p m c cX1_rowOfPeople 2 s args wsX1_rowOfPeople RX1 := ⟨hx, hb, hml, hown, hts⟩
  have fl_38 := hts (.fieldLink RX1 38 "BucketGift$Parish" "deeds" "[I") (List.mem_of_getElem? (i := 1) rfl)
  have fl_41 := hts (.fieldLink RX1 41 "BucketGift$Parish" "steps" "[I") (List.mem_of_getElem? (i := 2) rfl)
  have fl_44 := hts (.fieldLink RX1 44 "BucketGift$Parish" "asked" "[I") (List.mem_of_getElem? (i := 3) rfl)
  have fl_35 := hts (.fieldLink RX1 35 "BucketGift$Parish" "kinds" "[I") (List.mem_of_getElem? (i := 4) rfl)
  have hg : entryFrame m args 2 = entryFrame m ([.ref (a_h 0), .int x1] : List Value).toArray 2 := by rw [hav]
  rw [hg, lg_entry_eq]
  have hl := lv_entry ([.ref (a_h 0), .int x1]) (n := 2) (Nat.le_of_ble_eq_true rfl)
  generalize (lg_sl ([.ref (a_h 0), .int x1]) ++ List.replicate (2 - (lg_sl ([.ref (a_h 0), .int x1])).length) Slot.unset).toArray = ls at hl ⊢
  have hl : lv_has ls 2 [(0, .ref (a_h 0)), (1, .int x1)] := hl
  clear hg
  unfold fX1_rowOfPeople at hd
  refine lv_iload_n hx hb dX1_rowOfPeople_0 rfl (lv_at hl 1 rfl) ?_
  refine rx_tab hx hb (1 : Int32) (1) rfl 28 dX1_rowOfPeople_1 (by decide) (by decide) rfl rfl hd (fun hd => ?_) (fun n_1 hd => ?_)
  · refine lv_aload_n hx hb dX1_rowOfPeople_28 rfl (lv_at hl 0 rfl) ?_
    refine rx_get hx hb hts fiX1_rowOfPeople_X1 hown hK hP 0 rfl rfl 9 (Nat.le_of_ble_eq_true rfl) fl_38 rfl rfl dX1_rowOfPeople_29 ?_
    exact rx_retRr (v := 7) (ad := (fun k => .ref (a_h k))) hx hb hr (Or.inr ⟨_, rfl⟩) hlocks ⟨_, rfl⟩ hd dX1_rowOfPeople_32
  refine rx_tab hx hb (2 : Int32) (2) rfl 33 dX1_rowOfPeople_1 (by decide) (by decide) rfl rfl hd (fun hd => ?_) (fun n_2 hd => ?_)
  · refine lv_aload_n hx hb dX1_rowOfPeople_33 rfl (lv_at hl 0 rfl) ?_
    refine rx_get hx hb hts fiX1_rowOfPeople_X1 hown hK hP 0 rfl rfl 10 (Nat.le_of_ble_eq_true rfl) fl_41 rfl rfl dX1_rowOfPeople_34 ?_
    exact rx_retRr (v := 8) (ad := (fun k => .ref (a_h k))) hx hb hr (Or.inr ⟨_, rfl⟩) hlocks ⟨_, rfl⟩ hd dX1_rowOfPeople_37
  refine rx_tab hx hb (3 : Int32) (3) rfl 38 dX1_rowOfPeople_1 (by decide) (by decide) rfl rfl hd (fun hd => ?_) (fun n_3 hd => ?_)
  · refine lv_aload_n hx hb dX1_rowOfPeople_38 rfl (lv_at hl 0 rfl) ?_
    refine rx_get hx hb hts fiX1_rowOfPeople_X1 hown hK hP 0 rfl rfl 11 (Nat.le_of_ble_eq_true rfl) fl_44 rfl rfl dX1_rowOfPeople_39 ?_
    exact rx_retRr (v := 9) (ad := (fun k => .ref (a_h k))) hx hb hr (Or.inr ⟨_, rfl⟩) hlocks ⟨_, rfl⟩ hd dX1_rowOfPeople_42
  refine lv_tableOut (tgt := 43) hx hb dX1_rowOfPeople_1 (by omega) rfl ?_
  refine lv_aload_n hx hb dX1_rowOfPeople_43 rfl (lv_at hl 0 rfl) ?_
  refine rx_get hx hb hts fiX1_rowOfPeople_X1 hown hK hP 0 rfl rfl 8 (Nat.le_of_ble_eq_true rfl) fl_35 rfl rfl dX1_rowOfPeople_44 ?_
  exact rx_retRr (v := 6) (ad := (fun k => .ref (a_h k))) hx hb hr (Or.inr ⟨_, rfl⟩) hlocks ⟨_, rfl⟩ hd dX1_rowOfPeople_47
theorem fiX1_mostOfPerson_X1 : ∀ w ∈ wsX10, w ∈ wsX1_mostOfPerson := mem_r _ [2, 3, 4, 5, 6, 7, 8, 9, 10, 11, 12, 13] rfl
set_option maxHeartbeats 8000000 in
set_option maxRecDepth 100000 in
theorem c_X1_mostOfPerson (l : Launch) (dC : Nat → ClassId) (dI : Nat → Nat → Nat) (cI cJ cQ : ClassId) (fu : Nat) (a_h : Nat → Nat) (s_h : PS) (x1 : Int32) (r : Int32) (hd : fX1_mostOfPerson fu  s_h x1 = some r) : mRi l yX1_mostOfPerson wsX1_mostOfPerson (gRm 0 0) [.ref (a_h 0), .int x1] (cq_R (dC, dI) vwCl (gty cI cJ cQ) (wP cI cJ a_h s_h)) r := by
  refine Met.ofW (cc := cX1_mostOfPerson) (maxL := 2) (ret := (some .int)) (by decide) rfl ?_
  intro p e s m args below meth c s₁ B hml hv
  obtain ⟨hav, hP, hK⟩ := hv
  have hx := B.exec
  have hb := B.bytes
  have hr := B.returns
  have hts := atoms_spec (ws := wsX1_mostOfPerson) B.pre
  have hown : s.vm.findClass RX1 = some m.cls := findClass_of_methodNamed B.named
  have hlocks := B.notSynchronized
  have hcf : CallFix p m c cX1_mostOfPerson 2 s args wsX1_mostOfPerson RX1 := ⟨hx, hb, hml, hown, hts⟩
  have fl_32 := hts (.fieldLink RX1 32 "BucketGift$Parish" "people" "I") (List.mem_of_getElem? (i := 1) rfl)
  have hg : entryFrame m args 2 = entryFrame m ([.ref (a_h 0), .int x1] : List Value).toArray 2 := by rw [hav]
  rw [hg, lg_entry_eq]
  have hl := lv_entry ([.ref (a_h 0), .int x1]) (n := 2) (Nat.le_of_ble_eq_true rfl)
  generalize (lg_sl ([.ref (a_h 0), .int x1]) ++ List.replicate (2 - (lg_sl ([.ref (a_h 0), .int x1])).length) Slot.unset).toArray = ls at hl ⊢
  have hl : lv_has ls 2 [(0, .ref (a_h 0)), (1, .int x1)] := hl
  clear hg
  unfold fX1_mostOfPerson at hd
  refine lv_iload_n hx hb dX1_mostOfPerson_0 rfl (lv_at hl 1 rfl) ?_
  refine rx_look hx hb (1 : Int32) (1) rfl 28 dX1_mostOfPerson_1 (by decide) rfl rfl hd (fun hd => ?_) (fun n_1 hd => ?_)
  · refine lv_sipush (v := 255) hx hb dX1_mostOfPerson_28 ks_255 ?_
    exact rx_retRi hx hb hr hlocks hd dX1_mostOfPerson_31
  refine rx_look hx hb (2 : Int32) (2) rfl 32 dX1_mostOfPerson_1 (by decide) rfl rfl hd (fun hd => ?_) (fun n_2 hd => ?_)
  · refine lv_aload_n hx hb dX1_mostOfPerson_32 rfl (lv_at hl 0 rfl) ?_
    refine rx_get hx hb hts fiX1_mostOfPerson_X1 hown hK hP 0 rfl rfl 7 (Nat.le_of_ble_eq_true rfl) fl_32 rfl rfl dX1_mostOfPerson_33 ?_
    refine lv_iconst (v := 1) hx hb dX1_mostOfPerson_36 ki_1 ?_
    refine lv_isub hx hb dX1_mostOfPerson_37 ?_
    exact rx_retRi hx hb hr hlocks hd dX1_mostOfPerson_38
  refine lv_lookup (tgt := 39) (off := 38) hx hb dX1_mostOfPerson_1 (by decide) (by simp [Op.lookupswitch.offset, Ne.symm n_1, n_1, Ne.symm n_2, n_2]) rfl ?_
  refine lv_bipush (v := 9) hx hb dX1_mostOfPerson_39 kb_9 ?_
  exact rx_retRi hx hb hr hlocks hd dX1_mostOfPerson_41
theorem fiX1_draw_X1 : ∀ w ∈ wsX10, w ∈ wsX1_draw := mem_r _ [31, 32, 33, 34, 35, 36, 37, 38, 39, 40, 41, 42] rfl
set_option maxHeartbeats 8000000 in
set_option maxRecDepth 100000 in
theorem c_X1_draw (l : Launch) (dC : Nat → ClassId) (dI : Nat → Nat → Nat) (cI cJ cQ : ClassId) (fu : Nat) (a_h : Nat → Nat) (sz : Nat) (s_h : PS) (x1 : Int32) (x2 : Int32) (r : Int32 × PS) (hd : fX1_draw fu  s_h x1 x2 = some r) : mUi l yX1_draw wsX1_draw (gRm 3 69) [.ref (a_h 0), .int x1, .int x2] (dC, dI) vwCl (gty cI cJ cQ) (wP cI cJ a_h s_h) sz (fun u : PS => (wP cI cJ a_h u)) r := by
  refine Met.ofW (cc := cX1_draw) (maxL := 4) (ret := (some .int)) (by decide) rfl ?_
  intro p e s m args below meth c s₁ B hml hv
  obtain ⟨hav, hsz, hP, hK, hD0⟩ := hv
  subst hsz
  have hD := hD0.self (sz := s.heap.size)
  generalize hAe : va_A (wP cI cJ a_h s_h) s.heap.size = A at hD ⊢
  have hA : ∀ q : Nat, s.heap.size ≤ q → A q := fun q h => by rw [← hAe]; exact Or.inr h
  have hS : va_S A s.heap s.heap [] := va_S.rf
  have hx := B.exec
  have hb := B.bytes
  have hr := B.returns
  have hts := atoms_spec (ws := wsX1_draw) B.pre
  have hown : s.vm.findClass RX1 = some m.cls := findClass_of_methodNamed B.named
  have hlocks := B.notSynchronized
  have hcf : CallFix p m c cX1_draw 4 s args wsX1_draw RX1 := ⟨hx, hb, hml, hown, hts⟩
  have fl_35 := hts (.fieldLink RX1 35 "BucketGift$Parish" "kinds" "[I") (List.mem_of_getElem? (i := 1) rfl)
  have fl_38 := hts (.fieldLink RX1 38 "BucketGift$Parish" "deeds" "[I") (List.mem_of_getElem? (i := 2) rfl)
  have fl_41 := hts (.fieldLink RX1 41 "BucketGift$Parish" "steps" "[I") (List.mem_of_getElem? (i := 3) rfl)
  have fl_13 := hts (.fieldLink RX1 13 "BucketGift$Parish" "store" "[I") (List.mem_of_getElem? (i := 4) rfl)
  have fl_22 := hts (.fieldLink RX1 22 "BucketGift$Parish" "water" "[I") (List.mem_of_getElem? (i := 9) rfl)
  have fl_44 := hts (.fieldLink RX1 44 "BucketGift$Parish" "asked" "[I") (List.mem_of_getElem? (i := 10) rfl)
  have hg : entryFrame m args 4 = entryFrame m ([.ref (a_h 0), .int x1, .int x2] : List Value).toArray 4 := by rw [hav]
  rw [hg, lg_entry_eq]
  have hl := lv_entry ([.ref (a_h 0), .int x1, .int x2]) (n := 4) (Nat.le_of_ble_eq_true rfl)
  generalize (lg_sl ([.ref (a_h 0), .int x1, .int x2]) ++ List.replicate (4 - (lg_sl ([.ref (a_h 0), .int x1, .int x2])).length) Slot.unset).toArray = ls at hl ⊢
  have hl : lv_has ls 4 [(0, .ref (a_h 0)), (1, .int x1), (2, .int x2)] := hl
  clear hg
  unfold fX1_draw at hd
  refine lv_aload_n hx hb dX1_draw_0 rfl (lv_at hl 0 rfl) ?_
  refine lv_iload_n hx hb dX1_draw_1 rfl (lv_at hl 1 rfl) ?_
  refine lv_aload_n hx hb dX1_draw_2 rfl (lv_at hl 0 rfl) ?_
  refine rx_get hx hb hts fiX1_draw_X1 hown hK hP 0 rfl rfl 8 (Nat.le_of_ble_eq_true rfl) fl_35 rfl rfl dX1_draw_3 ?_
  refine lv_iload_n hx hb dX1_draw_6 rfl (lv_at hl 1 rfl) ?_
  refine rx_iald hx hb hK hP 6 0 rfl rfl hd dX1_draw_7 (fun v7 hd => ?_)
  refine lv_aload_n hx hb dX1_draw_8 rfl (lv_at hl 0 rfl) ?_
  refine rx_get hx hb hts fiX1_draw_X1 hown hK hP 0 rfl rfl 9 (Nat.le_of_ble_eq_true rfl) fl_38 rfl rfl dX1_draw_9 ?_
  refine lv_iload_n hx hb dX1_draw_12 rfl (lv_at hl 1 rfl) ?_
  refine rx_iald hx hb hK hP 7 0 rfl rfl hd dX1_draw_13 (fun v13 hd => ?_)
  refine lv_aload_n hx hb dX1_draw_14 rfl (lv_at hl 0 rfl) ?_
  refine rx_get hx hb hts fiX1_draw_X1 hown hK hP 0 rfl rfl 10 (Nat.le_of_ble_eq_true rfl) fl_41 rfl rfl dX1_draw_15 ?_
  refine lv_iload_n hx hb dX1_draw_18 rfl (lv_at hl 1 rfl) ?_
  refine rx_iald hx hb hK hP 8 0 rfl rfl hd dX1_draw_19 (fun v19 hd => ?_)
  refine rx_roi hd (fun v hv => W.runV (As := [.int x1, .int v7, .int v13, .int v19]) (rest := []) hcf (c_X1_gift l dC dI cI cJ cQ fu a_h  s_h x1 v7 v13 v19 v hv) (cwV 4 hts gX1_draw_X1_gift rfl rfl rfl cd_X1_gift ⟨(Nat.le_of_ble_eq_true rfl), (Nat.le_of_ble_eq_true rfl)⟩) (cq_R_V1 (q0 := 0) (ci := 0) hK hP rfl rfl) rfl rfl hl.1 rfl (lv_room (Nat.le_of_ble_eq_true rfl)) dX1_draw_20 ⟨Nat.le_refl _, Nat.le_refl _⟩) (fun u20 hd => ?_)
  refine lv_istore_n (lv' := [(3, .int u20), (0, .ref (a_h 0)), (1, .int x1), (2, .int x2)]) hx hb dX1_draw_23 rfl hl (Nat.le_of_ble_eq_true rfl) rfl (fun ls hl => ?_)
  refine lv_aload_n hx hb dX1_draw_24 rfl (lv_at hl 1 rfl) ?_
  refine rx_get hx hb hts fiX1_draw_X1 hown hK hP 0 rfl rfl 1 (Nat.le_of_ble_eq_true rfl) fl_13 rfl rfl dX1_draw_25 ?_
  refine lv_iload_n hx hb dX1_draw_28 rfl (lv_at hl 3 rfl) ?_
  refine lv_sipush (v := 9999) hx hb dX1_draw_29 ks_9999 ?_
  refine lv_aload_n hx hb dX1_draw_32 rfl (lv_at hl 1 rfl) ?_
  refine rx_get hx hb hts fiX1_draw_X1 hown hK hP 0 rfl rfl 1 (Nat.le_of_ble_eq_true rfl) fl_13 rfl rfl dX1_draw_33 ?_
  refine lv_iload_n hx hb dX1_draw_36 rfl (lv_at hl 3 rfl) ?_
  refine rx_iald hx hb hK hP 2 0 rfl rfl hd dX1_draw_37 (fun v37 hd => ?_)
  refine lv_iload_n hx hb dX1_draw_38 rfl (lv_at hl 0 rfl) ?_
  refine lv_iadd hx hb dX1_draw_39 ?_
  refine va_mmin hx hb (hml.trans hl.1.symm) hown (hts _ (List.mem_of_getElem? (i := 5) rfl)) (hts _ (List.mem_of_getElem? (i := 6) rfl)) (hts _ (List.mem_of_getElem? (i := 7) rfl)) (hts _ (List.mem_of_getElem? (i := 8) rfl)) (Nat.le_of_ble_eq_true rfl) (Nat.le_of_ble_eq_true rfl) (Nat.zero_le _) (Nat.zero_le _) dX1_draw_40 ?_
  refine rx_iast (wP cI cJ a_h (puStore s_h (Int32.toNatClampNeg x2) (if (v37 + u20) < (9999 : Int32) then (v37 + u20) else (9999 : Int32)))) hx hb hK hP hD hS 2 0 rfl rfl hd (wP_uStore ..) dX1_draw_43 (fun hd H locs hP hD hS => ?_)
  refine lv_aload_n hx hb dX1_draw_44 rfl (lv_at hl 1 rfl) ?_
  refine rx_get hx hb hts fiX1_draw_X1 hown hK hP 0 rfl rfl 4 (Nat.le_of_ble_eq_true rfl) fl_22 rfl rfl dX1_draw_45 ?_
  refine lv_iconst (v := 0) hx hb dX1_draw_48 ki_0 ?_
  refine lv_dup2_11 hx hb dX1_draw_49 rfl rfl ?_
  refine rx_iald hx hb hK hP 5 0 rfl rfl hd dX1_draw_50 (fun v50 hd => ?_)
  refine lv_iload_n hx hb dX1_draw_51 rfl (lv_at hl 0 rfl) ?_
  refine lv_isub hx hb dX1_draw_52 ?_
  refine rx_iast (wP cI cJ a_h (puWater (puStore s_h (Int32.toNatClampNeg x2) (if (v37 + u20) < (9999 : Int32) then (v37 + u20) else (9999 : Int32))) (Int32.toNatClampNeg (0 : Int32)) (v50 - u20))) hx hb hK hP hD hS 5 0 rfl rfl hd (wP_uWater ..) dX1_draw_53 (fun hd H locs hP hD hS => ?_)
  refine lv_aload_n hx hb dX1_draw_54 rfl (lv_at hl 1 rfl) ?_
  refine rx_get hx hb hts fiX1_draw_X1 hown hK hP 0 rfl rfl 11 (Nat.le_of_ble_eq_true rfl) fl_44 rfl rfl dX1_draw_55 ?_
  refine lv_iload_n hx hb dX1_draw_58 rfl (lv_at hl 2 rfl) ?_
  refine lv_bipush (v := 9) hx hb dX1_draw_59 kb_9 ?_
  refine lv_aload_n hx hb dX1_draw_61 rfl (lv_at hl 1 rfl) ?_
  refine rx_get hx hb hts fiX1_draw_X1 hown hK hP 0 rfl rfl 11 (Nat.le_of_ble_eq_true rfl) fl_44 rfl rfl dX1_draw_62 ?_
  refine lv_iload_n hx hb dX1_draw_65 rfl (lv_at hl 2 rfl) ?_
  refine rx_iald hx hb hK hP 9 0 rfl rfl hd dX1_draw_66 (fun v66 hd => ?_)
  refine lv_iconst (v := 1) hx hb dX1_draw_67 ki_1 ?_
  refine lv_iadd hx hb dX1_draw_68 ?_
  refine va_mmin hx hb (hml.trans hl.1.symm) hown (hts _ (List.mem_of_getElem? (i := 5) rfl)) (hts _ (List.mem_of_getElem? (i := 6) rfl)) (hts _ (List.mem_of_getElem? (i := 7) rfl)) (hts _ (List.mem_of_getElem? (i := 8) rfl)) (Nat.le_of_ble_eq_true rfl) (Nat.le_of_ble_eq_true rfl) (Nat.zero_le _) (Nat.zero_le _) dX1_draw_69 ?_
  refine rx_iast (wP cI cJ a_h (puAsked (puWater (puStore s_h (Int32.toNatClampNeg x2) (if (v37 + u20) < (9999 : Int32) then (v37 + u20) else (9999 : Int32))) (Int32.toNatClampNeg (0 : Int32)) (v50 - u20)) (Int32.toNatClampNeg x1) (if (v66 + (1 : Int32)) < (9 : Int32) then (v66 + (1 : Int32)) else (9 : Int32)))) hx hb hK hP hD hS 9 0 rfl rfl hd (wP_uAsked ..) dX1_draw_72 (fun hd H locs hP hD hS => ?_)
  refine lv_iload_n hx hb dX1_draw_73 rfl (lv_at hl 0 rfl) ?_
  exact rx_retUi (u := (puAsked (puWater (puStore s_h (Int32.toNatClampNeg x2) (if (v37 + u20) < (9999 : Int32) then (v37 + u20) else (9999 : Int32))) (Int32.toNatClampNeg (0 : Int32)) (v50 - u20)) (Int32.toNatClampNeg x1) (if (v66 + (1 : Int32)) < (9 : Int32) then (v66 + (1 : Int32)) else (9 : Int32)))) (w1 := (fun u : PS => (wP cI cJ a_h u))) hx hb hr hlocks hd hK hP hD hS dX1_draw_74
theorem fiX1_useNeed_X1 : ∀ w ∈ wsX10, w ∈ wsX1_useNeed := mem_r _ [9, 10, 11, 12, 13, 14, 15, 16, 17, 18, 19, 20] rfl
set_option maxHeartbeats 8000000 in
set_option maxRecDepth 100000 in
theorem c_X1_useNeed (l : Launch) (dC : Nat → ClassId) (dI : Nat → Nat → Nat) (cI cJ cQ : ClassId) (fu : Nat) (a_h : Nat → Nat) (sz : Nat) (s_h : PS) (x1 : Int32) (r : PS) (hd : fX1_useNeed fu  s_h x1 = some r) : mUv l yX1_useNeed wsX1_useNeed (gRm 1 21) [.ref (a_h 0), .int x1] (dC, dI) vwCl (gty cI cJ cQ) (wP cI cJ a_h s_h) sz (fun u : PS => (wP cI cJ a_h u)) r := by
  refine Met.ofW (cc := cX1_useNeed) (maxL := 2) (ret := none) (by decide) rfl ?_
  intro p e s m args below meth c s₁ B hml hv
  obtain ⟨hav, hsz, hP, hK, hD0⟩ := hv
  subst hsz
  have hD := hD0.self (sz := s.heap.size)
  generalize hAe : va_A (wP cI cJ a_h s_h) s.heap.size = A at hD ⊢
  have hA : ∀ q : Nat, s.heap.size ≤ q → A q := fun q h => by rw [← hAe]; exact Or.inr h
  have hS : va_S A s.heap s.heap [] := va_S.rf
  have hx := B.exec
  have hb := B.bytes
  have hr := B.returns
  have hts := atoms_spec (ws := wsX1_useNeed) B.pre
  have hown : s.vm.findClass RX1 = some m.cls := findClass_of_methodNamed B.named
  have hlocks := B.notSynchronized
  have hcf : CallFix p m c cX1_useNeed 2 s args wsX1_useNeed RX1 := ⟨hx, hb, hml, hown, hts⟩
  have fl_13 := hts (.fieldLink RX1 13 "BucketGift$Parish" "store" "[I") (List.mem_of_getElem? (i := 1) rfl)
  have fl_7 := hts (.fieldLink RX1 7 "BucketGift$Parish" "need" "[I") (List.mem_of_getElem? (i := 2) rfl)
  have fl_29 := hts (.fieldLink RX1 29 "BucketGift$Parish" "dryFarms" "I") (List.mem_of_getElem? (i := 3) rfl)
  have fl_16 := hts (.fieldLink RX1 16 "BucketGift$Parish" "thirst" "[I") (List.mem_of_getElem? (i := 4) rfl)
  have hg : entryFrame m args 2 = entryFrame m ([.ref (a_h 0), .int x1] : List Value).toArray 2 := by rw [hav]
  rw [hg, lg_entry_eq]
  have hl := lv_entry ([.ref (a_h 0), .int x1]) (n := 2) (Nat.le_of_ble_eq_true rfl)
  generalize (lg_sl ([.ref (a_h 0), .int x1]) ++ List.replicate (2 - (lg_sl ([.ref (a_h 0), .int x1])).length) Slot.unset).toArray = ls at hl ⊢
  have hl : lv_has ls 2 [(0, .ref (a_h 0)), (1, .int x1)] := hl
  clear hg
  unfold fX1_useNeed at hd
  refine lv_aload_n hx hb dX1_useNeed_0 rfl (lv_at hl 0 rfl) ?_
  refine rx_get hx hb hts fiX1_useNeed_X1 hown hK hP 0 rfl rfl 1 (Nat.le_of_ble_eq_true rfl) fl_13 rfl rfl dX1_useNeed_1 ?_
  refine lv_iload_n hx hb dX1_useNeed_4 rfl (lv_at hl 1 rfl) ?_
  refine rx_iald hx hb hK hP 2 0 rfl rfl hd dX1_useNeed_5 (fun v5 hd => ?_)
  refine lv_aload_n hx hb dX1_useNeed_6 rfl (lv_at hl 0 rfl) ?_
  refine rx_get hx hb hts fiX1_useNeed_X1 hown hK hP 0 rfl rfl 0 (Nat.le_of_ble_eq_true rfl) fl_7 rfl rfl dX1_useNeed_7 ?_
  refine lv_iload_n hx hb dX1_useNeed_10 rfl (lv_at hl 1 rfl) ?_
  refine rx_iald hx hb hK hP 1 0 rfl rfl hd dX1_useNeed_11 (fun v11 hd => ?_)
  refine rx_icmp_lt hx hb 31 dX1_useNeed_12 rfl hd (fun hd => ?_) (fun hd => ?_)
  · refine lv_aload_n hx hb dX1_useNeed_31 rfl (lv_at hl 0 rfl) ?_
    refine lv_dup hx hb dX1_useNeed_32 rfl ?_
    refine rx_get hx hb hts fiX1_useNeed_X1 hown hK hP 0 rfl rfl 6 (Nat.le_of_ble_eq_true rfl) fl_29 rfl rfl dX1_useNeed_33 ?_
    refine lv_iconst (v := 1) hx hb dX1_useNeed_36 ki_1 ?_
    refine lv_iload_n hx hb dX1_useNeed_37 rfl (lv_at hl 1 rfl) ?_
    refine lv_ishl hx hb dX1_useNeed_38 ?_
    refine lv_ior hx hb dX1_useNeed_39 ?_
    refine rx_puti (wP cI cJ a_h (psDryFarms s_h ((pgDryFarms s_h) ||| ((1 : Int32) <<< (x1 &&& (31 : Int32)))))) hx hb hts fiX1_useNeed_X1 tyX1 tyX1_ok nmX1 hown hK hP hD hS 0 rfl rfl 6 (Nat.le_of_ble_eq_true rfl) fl_29 rfl rfl rfl (Nat.le_of_ble_eq_true rfl) (wP_sDryFarms ..) dX1_useNeed_40 (fun H locs hP hD hS => ?_)
    refine lv_aload_n hx hb dX1_useNeed_43 rfl (lv_at hl 0 rfl) ?_
    refine rx_get hx hb hts fiX1_useNeed_X1 hown hK hP 0 rfl rfl 2 (Nat.le_of_ble_eq_true rfl) fl_16 rfl rfl dX1_useNeed_44 ?_
    refine lv_iload_n hx hb dX1_useNeed_47 rfl (lv_at hl 1 rfl) ?_
    refine lv_sipush (v := 9999) hx hb dX1_useNeed_48 ks_9999 ?_
    refine lv_aload_n hx hb dX1_useNeed_51 rfl (lv_at hl 0 rfl) ?_
    refine rx_get hx hb hts fiX1_useNeed_X1 hown hK hP 0 rfl rfl 2 (Nat.le_of_ble_eq_true rfl) fl_16 rfl rfl dX1_useNeed_52 ?_
    refine lv_iload_n hx hb dX1_useNeed_55 rfl (lv_at hl 1 rfl) ?_
    refine rx_iald hx hb hK hP 3 0 rfl rfl hd dX1_useNeed_56 (fun v56 hd => ?_)
    refine lv_iconst (v := 1) hx hb dX1_useNeed_57 ki_1 ?_
    refine lv_iadd hx hb dX1_useNeed_58 ?_
    refine va_mmin hx hb (hml.trans hl.1.symm) hown (hts _ (List.mem_of_getElem? (i := 5) rfl)) (hts _ (List.mem_of_getElem? (i := 6) rfl)) (hts _ (List.mem_of_getElem? (i := 7) rfl)) (hts _ (List.mem_of_getElem? (i := 8) rfl)) (Nat.le_of_ble_eq_true rfl) (Nat.le_of_ble_eq_true rfl) (Nat.zero_le _) (Nat.zero_le _) dX1_useNeed_59 ?_
    refine rx_iast (wP cI cJ a_h (puThirst (psDryFarms s_h ((pgDryFarms s_h) ||| ((1 : Int32) <<< (x1 &&& (31 : Int32))))) (Int32.toNatClampNeg x1) (if (v56 + (1 : Int32)) < (9999 : Int32) then (v56 + (1 : Int32)) else (9999 : Int32)))) hx hb hK hP hD hS 3 0 rfl rfl hd (wP_uThirst ..) dX1_useNeed_62 (fun hd H locs hP hD hS => ?_)
    refine lv_aload_n hx hb dX1_useNeed_63 rfl (lv_at hl 0 rfl) ?_
    refine rx_get hx hb hts fiX1_useNeed_X1 hown hK hP 0 rfl rfl 1 (Nat.le_of_ble_eq_true rfl) fl_13 rfl rfl dX1_useNeed_64 ?_
    refine lv_iload_n hx hb dX1_useNeed_67 rfl (lv_at hl 1 rfl) ?_
    refine lv_iconst (v := 0) hx hb dX1_useNeed_68 ki_0 ?_
    refine rx_iast (wP cI cJ a_h (puStore (puThirst (psDryFarms s_h ((pgDryFarms s_h) ||| ((1 : Int32) <<< (x1 &&& (31 : Int32))))) (Int32.toNatClampNeg x1) (if (v56 + (1 : Int32)) < (9999 : Int32) then (v56 + (1 : Int32)) else (9999 : Int32))) (Int32.toNatClampNeg x1) (0 : Int32))) hx hb hK hP hD hS 2 0 rfl rfl hd (wP_uStore ..) dX1_useNeed_69 (fun hd H locs hP hD hS => ?_)
    exact rx_retUv (u := (puStore (puThirst (psDryFarms s_h ((pgDryFarms s_h) ||| ((1 : Int32) <<< (x1 &&& (31 : Int32))))) (Int32.toNatClampNeg x1) (if (v56 + (1 : Int32)) < (9999 : Int32) then (v56 + (1 : Int32)) else (9999 : Int32))) (Int32.toNatClampNeg x1) (0 : Int32))) (w1 := (fun u : PS => (wP cI cJ a_h u))) hx hb hr hlocks hd hK hP hD hS dX1_useNeed_70
  refine lv_aload_n hx hb dX1_useNeed_15 rfl (lv_at hl 0 rfl) ?_
  refine rx_get hx hb hts fiX1_useNeed_X1 hown hK hP 0 rfl rfl 1 (Nat.le_of_ble_eq_true rfl) fl_13 rfl rfl dX1_useNeed_16 ?_
  refine lv_iload_n hx hb dX1_useNeed_19 rfl (lv_at hl 1 rfl) ?_
  refine lv_dup2_11 hx hb dX1_useNeed_20 rfl rfl ?_
  refine rx_iald hx hb hK hP 2 0 rfl rfl hd dX1_useNeed_21 (fun v21 hd => ?_)
  refine lv_aload_n hx hb dX1_useNeed_22 rfl (lv_at hl 0 rfl) ?_
  refine rx_get hx hb hts fiX1_useNeed_X1 hown hK hP 0 rfl rfl 0 (Nat.le_of_ble_eq_true rfl) fl_7 rfl rfl dX1_useNeed_23 ?_
  refine lv_iload_n hx hb dX1_useNeed_26 rfl (lv_at hl 1 rfl) ?_
  refine rx_iald hx hb hK hP 1 0 rfl rfl hd dX1_useNeed_27 (fun v27 hd => ?_)
  refine lv_isub hx hb dX1_useNeed_28 ?_
  refine rx_iast (wP cI cJ a_h (puStore s_h (Int32.toNatClampNeg x1) (v21 - v27))) hx hb hK hP hD hS 2 0 rfl rfl hd (wP_uStore ..) dX1_useNeed_29 (fun hd H locs hP hD hS => ?_)
  exact rx_retUv (u := (puStore s_h (Int32.toNatClampNeg x1) (v21 - v27))) (w1 := (fun u : PS => (wP cI cJ a_h u))) hx hb hr hlocks hd hK hP hD hS dX1_useNeed_30
theorem fiX1_passDay_X1 : ∀ w ∈ wsX10, w ∈ wsX1_passDay := mem_r _ [49, 50, 51, 52, 53, 54, 55, 56, 57, 58, 59, 60] rfl
set_option maxHeartbeats 8000000 in
set_option maxRecDepth 100000 in
theorem c_X1_passDay (l : Launch) (dC : Nat → ClassId) (dI : Nat → Nat → Nat) (cI cJ cQ : ClassId) (fu : Nat) (a_h : Nat → Nat) (sz : Nat) (s_h : PS)  (r : PS) (hd : fX1_passDay fu  s_h  = some r) : mUv l yX1_passDay wsX1_passDay (gRm 4 92) [.ref (a_h 0)] (dC, dI) vwCl (gty cI cJ cQ) (wP cI cJ a_h s_h) sz (fun u : PS => (wP cI cJ a_h u)) r := by
  refine Met.ofW (cc := cX1_passDay) (maxL := 2) (ret := none) (by decide) rfl ?_
  intro p e s m args below meth c s₁ B hml hv
  obtain ⟨hav, hsz, hP, hK, hD0⟩ := hv
  subst hsz
  have hD := hD0.self (sz := s.heap.size)
  generalize hAe : va_A (wP cI cJ a_h s_h) s.heap.size = A at hD ⊢
  have hA : ∀ q : Nat, s.heap.size ≤ q → A q := fun q h => by rw [← hAe]; exact Or.inr h
  have hS : va_S A s.heap s.heap [] := va_S.rf
  have hx := B.exec
  have hb := B.bytes
  have hr := B.returns
  have hts := atoms_spec (ws := wsX1_passDay) B.pre
  have hown : s.vm.findClass RX1 = some m.cls := findClass_of_methodNamed B.named
  have hlocks := B.notSynchronized
  have hcf : CallFix p m c cX1_passDay 2 s args wsX1_passDay RX1 := ⟨hx, hb, hml, hown, hts⟩
  have fl_29 := hts (.fieldLink RX1 29 "BucketGift$Parish" "dryFarms" "I") (List.mem_of_getElem? (i := 2) rfl)
  have fl_32 := hts (.fieldLink RX1 32 "BucketGift$Parish" "people" "I") (List.mem_of_getElem? (i := 3) rfl)
  have fl_22 := hts (.fieldLink RX1 22 "BucketGift$Parish" "water" "[I") (List.mem_of_getElem? (i := 6) rfl)
  have fl_25 := hts (.fieldLink RX1 25 "BucketGift$Parish" "day" "I") (List.mem_of_getElem? (i := 11) rfl)
  have fl_44 := hts (.fieldLink RX1 44 "BucketGift$Parish" "asked" "[I") (List.mem_of_getElem? (i := 4) rfl)
  have fl_38 := hts (.fieldLink RX1 38 "BucketGift$Parish" "deeds" "[I") (List.mem_of_getElem? (i := 5) rfl)
  have fl_19 := hts (.fieldLink RX1 19 "BucketGift$Parish" "sends" "[I") (List.mem_of_getElem? (i := 1) rfl)
  have hg : entryFrame m args 2 = entryFrame m ([.ref (a_h 0)] : List Value).toArray 2 := by rw [hav]
  rw [hg, lg_entry_eq]
  have hl := lv_entry ([.ref (a_h 0)]) (n := 2) (Nat.le_of_ble_eq_true rfl)
  generalize (lg_sl ([.ref (a_h 0)]) ++ List.replicate (2 - (lg_sl ([.ref (a_h 0)])).length) Slot.unset).toArray = ls at hl ⊢
  have hl : lv_has ls 2 [(0, .ref (a_h 0))] := hl
  clear hg
  unfold fX1_passDay at hd
  have b63 : ∀ (s_h : PS) (x1 : Int32), fX1_passDay_b63 fu     s_h x1 = some r → bk_U p l e (headSpec wsX1_passDay (gRm 4 92)).room s m args below meth c (qUv below args s (dC, dI) vwCl (gty cI cJ cQ) A (fun u : PS => (wP cI cJ a_h u)) r) (dC, dI) vwCl A 2 (wP cI cJ a_h s_h) 63 [(0, .ref (a_h 0)), (1, .int x1)] [] := by
    have L : ∀ (n : Nat) (s_h : PS) (x1 : Int32), g_lp (fun _ _ => none) (fX1_passDay_b63B fu    ) n s_h x1 = some r → bk_U p l e (headSpec wsX1_passDay (gRm 4 92)).room s m args below meth c (qUv below args s (dC, dI) vwCl (gty cI cJ cQ) A (fun u : PS => (wP cI cJ a_h u)) r) (dC, dI) vwCl A 2 (wP cI cJ a_h s_h) 63 [(0, .ref (a_h 0)), (1, .int x1)] [] := by
      intro n
      induction n with
      | zero => intro s_h x1 hd; exact absurd hd (by intro h; cases h)
      | succ n k63 =>
        intro s_h x1 hd
        intro H locs ls hP hD hS hl
        have hd : fX1_passDay_b63B fu     (g_lp (fun _ _ => none) (fX1_passDay_b63B fu    ) n) s_h x1 = some r := hd
        unfold fX1_passDay_b63B at hd
        refine lv_iload_n hx hb dX1_passDay_63 rfl (lv_at hl 1 rfl) ?_
        refine lv_aload_n hx hb dX1_passDay_64 rfl (lv_at hl 0 rfl) ?_
        refine rx_get hx hb hts fiX1_passDay_X1 hown hK hP 0 rfl rfl 7 (Nat.le_of_ble_eq_true rfl) fl_32 rfl rfl dX1_passDay_65 ?_
        refine rx_icmp_ge hx hb 101 dX1_passDay_68 rfl hd (fun hd => ?_) (fun hd => ?_)
        · refine lv_aload_n hx hb dX1_passDay_101 rfl (lv_at hl 0 rfl) ?_
          refine rx_get hx hb hts fiX1_passDay_X1 hown hK hP 0 rfl rfl 4 (Nat.le_of_ble_eq_true rfl) fl_22 rfl rfl dX1_passDay_102 ?_
          refine lv_iconst (v := 0) hx hb dX1_passDay_105 ki_0 ?_
          refine lv_sipush (v := 9999) hx hb dX1_passDay_106 ks_9999 ?_
          refine lv_aload_n hx hb dX1_passDay_109 rfl (lv_at hl 0 rfl) ?_
          refine rx_get hx hb hts fiX1_passDay_X1 hown hK hP 0 rfl rfl 4 (Nat.le_of_ble_eq_true rfl) fl_22 rfl rfl dX1_passDay_110 ?_
          refine lv_iconst (v := 0) hx hb dX1_passDay_113 ki_0 ?_
          refine rx_iald hx hb hK hP 5 0 rfl rfl hd dX1_passDay_114 (fun v114 hd => ?_)
          refine lv_aload_n hx hb dX1_passDay_115 rfl (lv_at hl 0 rfl) ?_
          refine rx_get hx hb hts fiX1_passDay_X1 hown hK hP 0 rfl rfl 4 (Nat.le_of_ble_eq_true rfl) fl_22 rfl rfl dX1_passDay_116 ?_
          refine lv_iconst (v := 1) hx hb dX1_passDay_119 ki_1 ?_
          refine rx_iald hx hb hK hP 5 0 rfl rfl hd dX1_passDay_120 (fun v120 hd => ?_)
          refine lv_iadd hx hb dX1_passDay_121 ?_
          refine va_mmin hx hb (hml.trans hl.1.symm) hown (hts _ (List.mem_of_getElem? (i := 7) rfl)) (hts _ (List.mem_of_getElem? (i := 8) rfl)) (hts _ (List.mem_of_getElem? (i := 9) rfl)) (hts _ (List.mem_of_getElem? (i := 10) rfl)) (Nat.le_of_ble_eq_true rfl) (Nat.le_of_ble_eq_true rfl) (Nat.zero_le _) (Nat.zero_le _) dX1_passDay_122 ?_
          refine rx_iast (wP cI cJ a_h (puWater s_h (Int32.toNatClampNeg (0 : Int32)) (if (v114 + v120) < (9999 : Int32) then (v114 + v120) else (9999 : Int32)))) hx hb hK hP hD hS 5 0 rfl rfl hd (wP_uWater ..) dX1_passDay_125 (fun hd H locs hP hD hS => ?_)
          refine lv_aload_n hx hb dX1_passDay_126 rfl (lv_at hl 0 rfl) ?_
          refine lv_dup hx hb dX1_passDay_127 rfl ?_
          refine rx_get hx hb hts fiX1_passDay_X1 hown hK hP 0 rfl rfl 5 (Nat.le_of_ble_eq_true rfl) fl_25 rfl rfl dX1_passDay_128 ?_
          refine lv_iconst (v := 1) hx hb dX1_passDay_131 ki_1 ?_
          refine lv_iadd hx hb dX1_passDay_132 ?_
          refine rx_puti (wP cI cJ a_h (psDay (puWater s_h (Int32.toNatClampNeg (0 : Int32)) (if (v114 + v120) < (9999 : Int32) then (v114 + v120) else (9999 : Int32))) ((pgDay (puWater s_h (Int32.toNatClampNeg (0 : Int32)) (if (v114 + v120) < (9999 : Int32) then (v114 + v120) else (9999 : Int32)))) + (1 : Int32)))) hx hb hts fiX1_passDay_X1 tyX1 tyX1_ok nmX1 hown hK hP hD hS 0 rfl rfl 5 (Nat.le_of_ble_eq_true rfl) fl_25 rfl rfl rfl (Nat.le_of_ble_eq_true rfl) (wP_sDay ..) dX1_passDay_133 (fun H locs hP hD hS => ?_)
          exact rx_retUv (u := (psDay (puWater s_h (Int32.toNatClampNeg (0 : Int32)) (if (v114 + v120) < (9999 : Int32) then (v114 + v120) else (9999 : Int32))) ((pgDay (puWater s_h (Int32.toNatClampNeg (0 : Int32)) (if (v114 + v120) < (9999 : Int32) then (v114 + v120) else (9999 : Int32)))) + (1 : Int32)))) (w1 := (fun u : PS => (wP cI cJ a_h u))) hx hb hr hlocks hd hK hP hD hS dX1_passDay_136
        refine lv_aload_n hx hb dX1_passDay_71 rfl (lv_at hl 0 rfl) ?_
        refine rx_get hx hb hts fiX1_passDay_X1 hown hK hP 0 rfl rfl 11 (Nat.le_of_ble_eq_true rfl) fl_44 rfl rfl dX1_passDay_72 ?_
        refine lv_iload_n hx hb dX1_passDay_75 rfl (lv_at hl 1 rfl) ?_
        refine lv_iconst (v := 0) hx hb dX1_passDay_76 ki_0 ?_
        refine rx_iast (wP cI cJ a_h (puAsked s_h (Int32.toNatClampNeg x1) (0 : Int32))) hx hb hK hP hD hS 9 0 rfl rfl hd (wP_uAsked ..) dX1_passDay_77 (fun hd H locs hP hD hS => ?_)
        refine lv_aload_n hx hb dX1_passDay_78 rfl (lv_at hl 0 rfl) ?_
        refine rx_get hx hb hts fiX1_passDay_X1 hown hK hP 0 rfl rfl 9 (Nat.le_of_ble_eq_true rfl) fl_38 rfl rfl dX1_passDay_79 ?_
        refine lv_iload_n hx hb dX1_passDay_82 rfl (lv_at hl 1 rfl) ?_
        refine lv_dup2_11 hx hb dX1_passDay_83 rfl rfl ?_
        refine rx_iald hx hb hK hP 7 0 rfl rfl hd dX1_passDay_84 (fun v84 hd => ?_)
        refine lv_aload_n hx hb dX1_passDay_85 rfl (lv_at hl 0 rfl) ?_
        refine rx_get hx hb hts fiX1_passDay_X1 hown hK hP 0 rfl rfl 9 (Nat.le_of_ble_eq_true rfl) fl_38 rfl rfl dX1_passDay_86 ?_
        refine lv_iload_n hx hb dX1_passDay_89 rfl (lv_at hl 1 rfl) ?_
        refine rx_iald hx hb hK hP 7 0 rfl rfl hd dX1_passDay_90 (fun v90 hd => ?_)
        refine lv_iconst (v := 1) hx hb dX1_passDay_91 ki_1 ?_
        refine lv_isub hx hb dX1_passDay_92 ?_
        refine lv_iand hx hb dX1_passDay_93 ?_
        refine rx_iast (wP cI cJ a_h (puDeeds (puAsked s_h (Int32.toNatClampNeg x1) (0 : Int32)) (Int32.toNatClampNeg x1) (v84 &&& (v90 - (1 : Int32))))) hx hb hK hP hD hS 7 0 rfl rfl hd (wP_uDeeds ..) dX1_passDay_94 (fun hd H locs hP hD hS => ?_)
        refine rx_iinc (lv' := fun z => (1, .int z) :: [(0, .ref (a_h 0))]) hx hb (j := 1) dX1_passDay_95 hl rfl ki_1 hd (Nat.le_of_ble_eq_true rfl) (fun _ => rfl) (fun x1_95 hd ls hl => ?_)
        refine lv_goto (tgt := 63) hx hb dX1_passDay_98 rfl ?_
        exact k63 (puDeeds (puAsked s_h (Int32.toNatClampNeg x1) (0 : Int32)) (Int32.toNatClampNeg x1) (v84 &&& (v90 - (1 : Int32)))) x1_95 hd _ _ _ hP hD hS (lv_sub hl [1, 0] rfl)
    exact fun s_h x1 => L fu s_h x1
  have b45 : ∀ (s_h : PS) (x1 : Int32), fX1_passDay_b45 fu     s_h x1 = some r → bk_U p l e (headSpec wsX1_passDay (gRm 4 92)).room s m args below meth c (qUv below args s (dC, dI) vwCl (gty cI cJ cQ) A (fun u : PS => (wP cI cJ a_h u)) r) (dC, dI) vwCl A 2 (wP cI cJ a_h s_h) 45 [(0, .ref (a_h 0)), (1, .int x1)] [] := by
    have L : ∀ (n : Nat) (s_h : PS) (x1 : Int32), g_lp (fun _ _ => none) (fX1_passDay_b45B fu    ) n s_h x1 = some r → bk_U p l e (headSpec wsX1_passDay (gRm 4 92)).room s m args below meth c (qUv below args s (dC, dI) vwCl (gty cI cJ cQ) A (fun u : PS => (wP cI cJ a_h u)) r) (dC, dI) vwCl A 2 (wP cI cJ a_h s_h) 45 [(0, .ref (a_h 0)), (1, .int x1)] [] := by
      intro n
      induction n with
      | zero => intro s_h x1 hd; exact absurd hd (by intro h; cases h)
      | succ n k45 =>
        intro s_h x1 hd
        intro H locs ls hP hD hS hl
        have hd : fX1_passDay_b45B fu     (g_lp (fun _ _ => none) (fX1_passDay_b45B fu    ) n) s_h x1 = some r := hd
        unfold fX1_passDay_b45B at hd
        refine lv_iload_n hx hb dX1_passDay_45 rfl (lv_at hl 1 rfl) ?_
        refine lv_iconst (v := 4) hx hb dX1_passDay_46 ki_4 ?_
        refine rx_icmp_ge hx hb 61 dX1_passDay_47 rfl hd (fun hd => ?_) (fun hd => ?_)
        · refine lv_iconst (v := 0) hx hb dX1_passDay_61 ki_0 ?_
          refine lv_istore_n (lv' := [(1, .int (0 : Int32)), (0, .ref (a_h 0))]) hx hb dX1_passDay_62 rfl hl (Nat.le_of_ble_eq_true rfl) rfl (fun ls hl => ?_)
          exact b63   s_h (0 : Int32) hd _ _ _ hP hD hS (lv_sub hl [1, 0] rfl)
        refine lv_aload_n hx hb dX1_passDay_50 rfl (lv_at hl 0 rfl) ?_
        refine lv_iload_n hx hb dX1_passDay_51 rfl (lv_at hl 1 rfl) ?_
        refine rx_upv1 hd hD hS hA (fun v hv => va_runV (As := [.int x1]) (rest := []) hcf (c_X1_useNeed l dC dI cI cJ cQ fu a_h _  s_h x1 v hv) (cwV 1 hts gX1_passDay_X1_useNeed rfl rfl rfl cd_X1_useNeed ⟨(Nat.le_of_ble_eq_true rfl), (Nat.le_of_ble_eq_true rfl)⟩) (cq_U_V1 (q0 := 0) (ci := 0) hK hP hD rfl rfl) rfl rfl hl.1 rfl (lv_room (Nat.le_of_ble_eq_true rfl)) dX1_passDay_52 ⟨Nat.le_refl _, Nat.le_refl _⟩) (fun u52 hd H locs hP hD hS => ?_)
        refine rx_iinc (lv' := fun z => (1, .int z) :: [(0, .ref (a_h 0))]) hx hb (j := 1) dX1_passDay_55 hl rfl ki_1 hd (Nat.le_of_ble_eq_true rfl) (fun _ => rfl) (fun x1_55 hd ls hl => ?_)
        refine lv_goto (tgt := 45) hx hb dX1_passDay_58 rfl ?_
        exact k45 u52 x1_55 hd _ _ _ hP hD hS (lv_sub hl [1, 0] rfl)
    exact fun s_h x1 => L fu s_h x1
  have b2 : ∀ (s_h : PS) (x1 : Int32), fX1_passDay_b2 fu     s_h x1 = some r → bk_U p l e (headSpec wsX1_passDay (gRm 4 92)).room s m args below meth c (qUv below args s (dC, dI) vwCl (gty cI cJ cQ) A (fun u : PS => (wP cI cJ a_h u)) r) (dC, dI) vwCl A 2 (wP cI cJ a_h s_h) 2 [(0, .ref (a_h 0)), (1, .int x1)] [] := by
    have L : ∀ (n : Nat) (s_h : PS) (x1 : Int32), g_lp (fun _ _ => none) (fX1_passDay_b2B fu    ) n s_h x1 = some r → bk_U p l e (headSpec wsX1_passDay (gRm 4 92)).room s m args below meth c (qUv below args s (dC, dI) vwCl (gty cI cJ cQ) A (fun u : PS => (wP cI cJ a_h u)) r) (dC, dI) vwCl A 2 (wP cI cJ a_h s_h) 2 [(0, .ref (a_h 0)), (1, .int x1)] [] := by
      intro n
      induction n with
      | zero => intro s_h x1 hd; exact absurd hd (by intro h; cases h)
      | succ n k2 =>
        intro s_h x1 hd
        intro H locs ls hP hD hS hl
        have hd : fX1_passDay_b2B fu     (g_lp (fun _ _ => none) (fX1_passDay_b2B fu    ) n) s_h x1 = some r := hd
        unfold fX1_passDay_b2B at hd
        refine lv_iload_n hx hb dX1_passDay_2 rfl (lv_at hl 1 rfl) ?_
        refine lv_iconst (v := 4) hx hb dX1_passDay_3 ki_4 ?_
        refine rx_icmp_ge hx hb 38 dX1_passDay_4 rfl hd (fun hd => ?_) (fun hd => ?_)
        · refine lv_aload_n hx hb dX1_passDay_38 rfl (lv_at hl 0 rfl) ?_
          refine lv_iconst (v := 0) hx hb dX1_passDay_39 ki_0 ?_
          refine rx_puti (wP cI cJ a_h (psDryFarms s_h (0 : Int32))) hx hb hts fiX1_passDay_X1 tyX1 tyX1_ok nmX1 hown hK hP hD hS 0 rfl rfl 6 (Nat.le_of_ble_eq_true rfl) fl_29 rfl rfl rfl (Nat.le_of_ble_eq_true rfl) (wP_sDryFarms ..) dX1_passDay_40 (fun H locs hP hD hS => ?_)
          refine lv_iconst (v := 0) hx hb dX1_passDay_43 ki_0 ?_
          refine lv_istore_n (lv' := [(1, .int (0 : Int32)), (0, .ref (a_h 0))]) hx hb dX1_passDay_44 rfl hl (Nat.le_of_ble_eq_true rfl) rfl (fun ls hl => ?_)
          exact b45   (psDryFarms s_h (0 : Int32)) (0 : Int32) hd _ _ _ hP hD hS (lv_sub hl [1, 0] rfl)
        refine lv_aload_n hx hb dX1_passDay_7 rfl (lv_at hl 0 rfl) ?_
        refine lv_aload_n hx hb dX1_passDay_8 rfl (lv_at hl 0 rfl) ?_
        refine rx_get hx hb hts fiX1_passDay_X1 hown hK hP 0 rfl rfl 3 (Nat.le_of_ble_eq_true rfl) fl_19 rfl rfl dX1_passDay_9 ?_
        refine lv_iload_n hx hb dX1_passDay_12 rfl (lv_at hl 1 rfl) ?_
        refine rx_iald hx hb hK hP 4 0 rfl rfl hd dX1_passDay_13 (fun v13 hd => ?_)
        refine rx_roi hd (fun v hv => W.runV (As := [.int v13]) (rest := []) hcf (c_X1_isThere l dC dI cI cJ cQ fu a_h  s_h v13 v hv) (cwV 1 hts gX1_passDay_X1_isThere rfl rfl rfl cd_X1_isThere ⟨(Nat.le_of_ble_eq_true rfl), (Nat.le_of_ble_eq_true rfl)⟩) (cq_R_V1 (q0 := 0) (ci := 0) hK hP rfl rfl) rfl rfl hl.1 rfl (lv_room (Nat.le_of_ble_eq_true rfl)) dX1_passDay_14 ⟨Nat.le_refl _, Nat.le_refl _⟩) (fun u14 hd => ?_)
        refine rx_if_eq hx hb 32 dX1_passDay_17 rfl hd (fun hd => ?_) (fun hd => ?_)
        · refine rx_iinc (lv' := fun z => (1, .int z) :: [(0, .ref (a_h 0))]) hx hb (j := 1) dX1_passDay_32 hl rfl ki_1 hd (Nat.le_of_ble_eq_true rfl) (fun _ => rfl) (fun x1_32 hd ls hl => ?_)
          refine lv_goto (tgt := 2) hx hb dX1_passDay_35 rfl ?_
          exact k2 s_h x1_32 hd _ _ _ hP hD hS (lv_sub hl [1, 0] rfl)
        refine lv_aload_n hx hb dX1_passDay_20 rfl (lv_at hl 0 rfl) ?_
        refine lv_aload_n hx hb dX1_passDay_21 rfl (lv_at hl 0 rfl) ?_
        refine rx_get hx hb hts fiX1_passDay_X1 hown hK hP 0 rfl rfl 3 (Nat.le_of_ble_eq_true rfl) fl_19 rfl rfl dX1_passDay_22 ?_
        refine lv_iload_n hx hb dX1_passDay_25 rfl (lv_at hl 1 rfl) ?_
        refine rx_iald hx hb hK hP 4 0 rfl rfl hd dX1_passDay_26 (fun v26 hd => ?_)
        refine lv_iload_n hx hb dX1_passDay_27 rfl (lv_at hl 1 rfl) ?_
        refine rx_upi1 hd hD hS hA (fun v hv => va_runV (As := [.int v26, .int x1]) (rest := []) hcf (c_X1_draw l dC dI cI cJ cQ fu a_h _  s_h v26 x1 v hv) (cwV 2 hts gX1_passDay_X1_draw rfl rfl rfl cd_X1_draw ⟨(Nat.le_of_ble_eq_true rfl), (Nat.le_of_ble_eq_true rfl)⟩) (cq_U_V1 (q0 := 0) (ci := 0) hK hP hD rfl rfl) rfl rfl hl.1 rfl (lv_room (Nat.le_of_ble_eq_true rfl)) dX1_passDay_28 ⟨Nat.le_refl _, Nat.le_refl _⟩) (fun u28 hd H locs hP hD hS => ?_)
        refine lv_pop hx hb dX1_passDay_31 rfl ?_
        refine rx_iinc (lv' := fun z => (1, .int z) :: [(0, .ref (a_h 0))]) hx hb (j := 1) dX1_passDay_32 hl rfl ki_1 hd (Nat.le_of_ble_eq_true rfl) (fun _ => rfl) (fun x1_32 hd ls hl => ?_)
        refine lv_goto (tgt := 2) hx hb dX1_passDay_35 rfl ?_
        exact k2 u28.2 x1_32 hd _ _ _ hP hD hS (lv_sub hl [1, 0] rfl)
    exact fun s_h x1 => L fu s_h x1
  refine lv_iconst (v := 0) hx hb dX1_passDay_0 ki_0 ?_
  refine lv_istore_n (lv' := [(1, .int (0 : Int32)), (0, .ref (a_h 0))]) hx hb dX1_passDay_1 rfl hl (Nat.le_of_ble_eq_true rfl) rfl (fun ls hl => ?_)
  exact b2   s_h (0 : Int32) hd _ _ _ hP hD hS (lv_sub hl [1, 0] rfl)
set_option maxHeartbeats 8000000 in
set_option maxRecDepth 100000 in
theorem c_X1_total (l : Launch) (dC : Nat → ClassId) (dI : Nat → Nat → Nat) (cI cJ cQ : ClassId) (fu : Nat) (a_i n_i : Nat) (s_i : (Nat → Int32))  (r : Int32) (hd : fX1_total fu n_i s_i  = some r) : mRi l yX1_total wsX1_total (gRm 0 0) [.ref a_i] (cq_R (dC, dI) vwCl (gty cI cJ cQ) (wI cI a_i n_i s_i)) r := by
  refine Met.ofW (cc := cX1_total) (maxL := 6) (ret := (some .int)) (by decide) rfl ?_
  intro p e s m args below meth c s₁ B hml hv
  obtain ⟨hav, hP, hK⟩ := hv
  have hx := B.exec
  have hb := B.bytes
  have hr := B.returns
  have hts := atoms_spec (ws := wsX1_total) B.pre
  have hown : s.vm.findClass RX1 = some m.cls := findClass_of_methodNamed B.named
  have hlocks := B.notSynchronized
  have hcf : CallFix p m c cX1_total 6 s args wsX1_total RX1 := ⟨hx, hb, hml, hown, hts⟩
  have hg : entryFrame m args 6 = entryFrame m ([.ref a_i] : List Value).toArray 6 := by rw [hav]
  rw [hg, lg_entry_eq]
  have hl := lv_entry ([.ref a_i]) (n := 6) (Nat.le_of_ble_eq_true rfl)
  generalize (lg_sl ([.ref a_i]) ++ List.replicate (6 - (lg_sl ([.ref a_i])).length) Slot.unset).toArray = ls at hl ⊢
  have hl : lv_has ls 6 [(0, .ref a_i)] := hl
  clear hg
  unfold fX1_total at hd
  have b10 : ∀ (x3 : Int32) (x1 : Int32) (x4 : Int32), fX1_total_b10 fu n_i s_i   x3 x1 x4 = some r → bk_R p l e (headSpec wsX1_total (gRm 0 0)).room s m args below meth c (qRi below args s r) 6 10 [(1, .int x1), (2, .ref a_i), (3, .int x3), (4, .int x4)] [] := by
    intro x3
    have L : ∀ (n : Nat) (x1 : Int32) (x4 : Int32), g_lp (fun _ _ => none) (fX1_total_b10B fu n_i s_i   x3) n x1 x4 = some r → bk_R p l e (headSpec wsX1_total (gRm 0 0)).room s m args below meth c (qRi below args s r) 6 10 [(1, .int x1), (2, .ref a_i), (3, .int x3), (4, .int x4)] [] := by
      intro n
      induction n with
      | zero => intro x1 x4 hd; exact absurd hd (by intro h; cases h)
      | succ n k10 =>
        intro x1 x4 hd
        intro ls hl
        have hd : fX1_total_b10B fu n_i s_i   x3 (g_lp (fun _ _ => none) (fX1_total_b10B fu n_i s_i   x3) n) x1 x4 = some r := hd
        unfold fX1_total_b10B at hd
        refine lv_iload hx hb dX1_total_10 (lv_at hl 3 rfl) ?_
        refine lv_iload_n hx hb dX1_total_12 rfl (lv_at hl 2 rfl) ?_
        refine rx_icmp_ge hx hb 33 dX1_total_13 rfl hd (fun hd => ?_) (fun hd => ?_)
        · refine lv_iload_n hx hb dX1_total_33 rfl (lv_at hl 0 rfl) ?_
          exact rx_retRi hx hb hr hlocks hd dX1_total_34
        refine lv_aload_n hx hb dX1_total_16 rfl (lv_at hl 1 rfl) ?_
        refine lv_iload hx hb dX1_total_17 (lv_at hl 3 rfl) ?_
        refine rx_iald hx hb hK hP 0 0 rfl rfl hd dX1_total_19 (fun v19 hd => ?_)
        refine lv_istore (lv' := [(5, .int v19), (1, .int x1), (2, .ref a_i), (3, .int x3), (4, .int x4)]) hx hb dX1_total_20 hl (Nat.le_of_ble_eq_true rfl) rfl (fun ls hl => ?_)
        refine lv_iload_n hx hb dX1_total_22 rfl (lv_at hl 1 rfl) ?_
        refine lv_iload hx hb dX1_total_23 (lv_at hl 0 rfl) ?_
        refine lv_iadd hx hb dX1_total_25 ?_
        refine rx_topi hd (fun x1_26 hd => ?_)
        refine lv_istore_n (lv' := [(1, .int x1_26), (5, .int v19), (2, .ref a_i), (3, .int x3), (4, .int x4)]) hx hb dX1_total_26 rfl hl (Nat.le_of_ble_eq_true rfl) rfl (fun ls hl => ?_)
        refine rx_iinc (lv' := fun z => (4, .int z) :: [(1, .int x1_26), (5, .int v19), (2, .ref a_i), (3, .int x3)]) hx hb (j := 4) dX1_total_27 hl rfl ki_1 hd (Nat.le_of_ble_eq_true rfl) (fun _ => rfl) (fun x4_27 hd ls hl => ?_)
        refine lv_goto (tgt := 10) hx hb dX1_total_30 rfl ?_
        exact k10 x1_26 x4_27 hd _ (lv_sub hl [1, 3, 4, 0] rfl)
    exact fun x1 x4 => L fu x1 x4
  refine lv_iconst (v := 0) hx hb dX1_total_0 ki_0 ?_
  refine lv_istore_n (lv' := [(1, .int (0 : Int32)), (0, .ref a_i)]) hx hb dX1_total_1 rfl hl (Nat.le_of_ble_eq_true rfl) rfl (fun ls hl => ?_)
  refine lv_aload_n hx hb dX1_total_2 rfl (lv_at hl 1 rfl) ?_
  refine lv_astore_n (lv' := [(2, .ref a_i), (1, .int (0 : Int32)), (0, .ref a_i)]) hx hb dX1_total_3 rfl hl (Nat.le_of_ble_eq_true rfl) rfl (fun ls hl => ?_)
  refine lv_aload_n hx hb dX1_total_4 rfl (lv_at hl 0 rfl) ?_
  refine va_alen (v := (Int32.ofNat n_i)) hx hb hK hP 0 0 rfl rfl rfl dX1_total_5 ?_
  refine rx_topi hd (fun x3_6 hd => ?_)
  refine lv_istore_n (lv' := [(3, .int x3_6), (2, .ref a_i), (1, .int (0 : Int32)), (0, .ref a_i)]) hx hb dX1_total_6 rfl hl (Nat.le_of_ble_eq_true rfl) rfl (fun ls hl => ?_)
  refine lv_iconst (v := 0) hx hb dX1_total_7 ki_0 ?_
  refine lv_istore (lv' := [(4, .int (0 : Int32)), (3, .int x3_6), (2, .ref a_i), (1, .int (0 : Int32)), (0, .ref a_i)]) hx hb dX1_total_8 hl (Nat.le_of_ble_eq_true rfl) rfl (fun ls hl => ?_)
  exact b10   x3_6 (0 : Int32) (0 : Int32) hd _ (lv_sub hl [3, 2, 1, 0] rfl)
theorem fiX1_wasDry_X1 : ∀ w ∈ wsX10, w ∈ wsX1_wasDry := mem_r _ [2, 3, 4, 5, 6, 7, 8, 9, 10, 11, 12, 13] rfl
set_option maxHeartbeats 8000000 in
set_option maxRecDepth 100000 in
theorem c_X1_wasDry (l : Launch) (dC : Nat → ClassId) (dI : Nat → Nat → Nat) (cI cJ cQ : ClassId) (fu : Nat) (a_h : Nat → Nat) (s_h : PS) (x1 : Int32) (r : Int32) (hd : fX1_wasDry fu  s_h x1 = some r) : mRi l yX1_wasDry wsX1_wasDry (gRm 0 0) [.ref (a_h 0), .int x1] (cq_R (dC, dI) vwCl (gty cI cJ cQ) (wP cI cJ a_h s_h)) r := by
  refine Met.ofW (cc := cX1_wasDry) (maxL := 2) (ret := (some .boolean)) (by decide) rfl ?_
  intro p e s m args below meth c s₁ B hml hv
  obtain ⟨hav, hP, hK⟩ := hv
  have hx := B.exec
  have hb := B.bytes
  have hr := B.returns
  have hts := atoms_spec (ws := wsX1_wasDry) B.pre
  have hown : s.vm.findClass RX1 = some m.cls := findClass_of_methodNamed B.named
  have hlocks := B.notSynchronized
  have hcf : CallFix p m c cX1_wasDry 2 s args wsX1_wasDry RX1 := ⟨hx, hb, hml, hown, hts⟩
  have fl_29 := hts (.fieldLink RX1 29 "BucketGift$Parish" "dryFarms" "I") (List.mem_of_getElem? (i := 1) rfl)
  have hg : entryFrame m args 2 = entryFrame m ([.ref (a_h 0), .int x1] : List Value).toArray 2 := by rw [hav]
  rw [hg, lg_entry_eq]
  have hl := lv_entry ([.ref (a_h 0), .int x1]) (n := 2) (Nat.le_of_ble_eq_true rfl)
  generalize (lg_sl ([.ref (a_h 0), .int x1]) ++ List.replicate (2 - (lg_sl ([.ref (a_h 0), .int x1])).length) Slot.unset).toArray = ls at hl ⊢
  have hl : lv_has ls 2 [(0, .ref (a_h 0)), (1, .int x1)] := hl
  clear hg
  unfold fX1_wasDry at hd
  refine lv_aload_n hx hb dX1_wasDry_0 rfl (lv_at hl 0 rfl) ?_
  refine rx_get hx hb hts fiX1_wasDry_X1 hown hK hP 0 rfl rfl 6 (Nat.le_of_ble_eq_true rfl) fl_29 rfl rfl dX1_wasDry_1 ?_
  refine lv_iload_n hx hb dX1_wasDry_4 rfl (lv_at hl 1 rfl) ?_
  refine lv_ishr hx hb dX1_wasDry_5 ?_
  refine lv_iconst (v := 1) hx hb dX1_wasDry_6 ki_1 ?_
  refine lv_iand hx hb dX1_wasDry_7 ?_
  refine rx_if_eq hx hb 15 dX1_wasDry_8 rfl hd (fun hd => ?_) (fun hd => ?_)
  · refine lv_iconst (v := 0) hx hb dX1_wasDry_15 ki_0 ?_
    exact rx_retRz hx hb hr hlocks hd dX1_wasDry_16
  refine lv_iconst (v := 1) hx hb dX1_wasDry_11 ki_1 ?_
  refine lv_goto (tgt := 16) hx hb dX1_wasDry_12 rfl ?_
  exact rx_retRz hx hb hr hlocks hd dX1_wasDry_16
set_option maxHeartbeats 8000000 in
set_option maxRecDepth 100000 in
theorem c_X1_oneOfRound (l : Launch) (dC : Nat → ClassId) (dI : Nat → Nat → Nat) (cI cJ cQ : ClassId) (fu : Nat)   (x0 : Int32) (x1 : Int32) (r : Int32) (hd : fX1_oneOfRound fu   x0 x1 = some r) : mRi l yX1_oneOfRound wsX1_oneOfRound (gRm 0 0) [.int x0, .int x1] (cq_R (dC, dI) vwCl (gty cI cJ cQ) ([] : va_W)) r := by
  refine Met.ofW (cc := cX1_oneOfRound) (maxL := 2) (ret := (some .int)) (by decide) rfl ?_
  intro p e s m args below meth c s₁ B hml hv
  obtain ⟨hav, hP, hK⟩ := hv
  have hx := B.exec
  have hb := B.bytes
  have hr := B.returns
  have hts := atoms_spec (ws := wsX1_oneOfRound) B.pre
  have hown : s.vm.findClass RX1 = some m.cls := findClass_of_methodNamed B.named
  have hlocks := B.notSynchronized
  have hcf : CallFix p m c cX1_oneOfRound 2 s args wsX1_oneOfRound RX1 := ⟨hx, hb, hml, hown, hts⟩
  have hg : entryFrame m args 2 = entryFrame m ([.int x0, .int x1] : List Value).toArray 2 := by rw [hav]
  rw [hg, lg_entry_eq]
  have hl := lv_entry ([.int x0, .int x1]) (n := 2) (Nat.le_of_ble_eq_true rfl)
  generalize (lg_sl ([.int x0, .int x1]) ++ List.replicate (2 - (lg_sl ([.int x0, .int x1])).length) Slot.unset).toArray = ls at hl ⊢
  have hl : lv_has ls 2 [(0, .int x0), (1, .int x1)] := hl
  clear hg
  unfold fX1_oneOfRound at hd
  refine lv_iload_n hx hb dX1_oneOfRound_0 rfl (lv_at hl 0 rfl) ?_
  refine lv_iconst (v := 3) hx hb dX1_oneOfRound_1 ki_3 ?_
  refine lv_iconst (v := 3) hx hb dX1_oneOfRound_2 ki_3 ?_
  refine lv_iload_n hx hb dX1_oneOfRound_3 rfl (lv_at hl 1 rfl) ?_
  refine lv_isub hx hb dX1_oneOfRound_4 ?_
  refine lv_imul hx hb dX1_oneOfRound_5 ?_
  refine lv_ishr hx hb dX1_oneOfRound_6 ?_
  refine lv_bipush (v := 7) hx hb dX1_oneOfRound_7 kb_7 ?_
  refine lv_iand hx hb dX1_oneOfRound_9 ?_
  exact rx_retRi hx hb hr hlocks hd dX1_oneOfRound_10
set_option maxHeartbeats 8000000 in
set_option maxRecDepth 100000 in
theorem c_X1_isRound (l : Launch) (dC : Nat → ClassId) (dI : Nat → Nat → Nat) (cI cJ cQ : ClassId) (fu : Nat) (a_h : Nat → Nat) (s_h : PS) (x1 : Int32) (r : Int32) (hd : fX1_isRound fu  s_h x1 = some r) : mRi l yX1_isRound wsX1_isRound (gRm 1 21) [.ref (a_h 0), .int x1] (cq_R (dC, dI) vwCl (gty cI cJ cQ) (wP cI cJ a_h s_h)) r := by
  refine Met.ofW (cc := cX1_isRound) (maxL := 5) (ret := (some .boolean)) (by decide) rfl ?_
  intro p e s m args below meth c s₁ B hml hv
  obtain ⟨hav, hP, hK⟩ := hv
  have hx := B.exec
  have hb := B.bytes
  have hr := B.returns
  have hts := atoms_spec (ws := wsX1_isRound) B.pre
  have hown : s.vm.findClass RX1 = some m.cls := findClass_of_methodNamed B.named
  have hlocks := B.notSynchronized
  have hcf : CallFix p m c cX1_isRound 5 s args wsX1_isRound RX1 := ⟨hx, hb, hml, hown, hts⟩
  have hg : entryFrame m args 5 = entryFrame m ([.ref (a_h 0), .int x1] : List Value).toArray 5 := by rw [hav]
  rw [hg, lg_entry_eq]
  have hl := lv_entry ([.ref (a_h 0), .int x1]) (n := 5) (Nat.le_of_ble_eq_true rfl)
  generalize (lg_sl ([.ref (a_h 0), .int x1]) ++ List.replicate (5 - (lg_sl ([.ref (a_h 0), .int x1])).length) Slot.unset).toArray = ls at hl ⊢
  have hl : lv_has ls 5 [(0, .ref (a_h 0)), (1, .int x1)] := hl
  clear hg
  unfold fX1_isRound at hd
  have b4 : ∀ (x1 : Int32) (x2 : Int32) (x3 : Int32), fX1_isRound_b4 fu s_h   x1 x2 x3 = some r → bk_R p l e (headSpec wsX1_isRound (gRm 1 21)).room s m args below meth c (qRi below args s r) 5 4 [(0, .ref (a_h 0)), (1, .int x1), (2, .int x2), (3, .int x3)] [] := by
    intro x1
    have L : ∀ (n : Nat) (x2 : Int32) (x3 : Int32), g_lp (fun _ _ => none) (fX1_isRound_b4B fu s_h   x1) n x2 x3 = some r → bk_R p l e (headSpec wsX1_isRound (gRm 1 21)).room s m args below meth c (qRi below args s r) 5 4 [(0, .ref (a_h 0)), (1, .int x1), (2, .int x2), (3, .int x3)] [] := by
      intro n
      induction n with
      | zero => intro x2 x3 hd; exact absurd hd (by intro h; cases h)
      | succ n k4 =>
        intro x2 x3 hd
        intro ls hl
        have hd : fX1_isRound_b4B fu s_h   x1 (g_lp (fun _ _ => none) (fX1_isRound_b4B fu s_h   x1) n) x2 x3 = some r := hd
        unfold fX1_isRound_b4B at hd
        refine lv_iload_n hx hb dX1_isRound_4 rfl (lv_at hl 3 rfl) ?_
        refine lv_iconst (v := 4) hx hb dX1_isRound_5 ki_4 ?_
        refine rx_icmp_ge hx hb 49 dX1_isRound_6 rfl hd (fun hd => ?_) (fun hd => ?_)
        · refine lv_iconst (v := 1) hx hb dX1_isRound_49 ki_1 ?_
          exact rx_retRz hx hb hr hlocks hd dX1_isRound_50
        refine lv_iload_n hx hb dX1_isRound_9 rfl (lv_at hl 1 rfl) ?_
        refine lv_iload_n hx hb dX1_isRound_10 rfl (lv_at hl 3 rfl) ?_
        refine rx_roi hd (fun v hv => W.runS (As := [.int x1, .int x3]) (rest := []) hcf (c_X1_oneOfRound l dC dI cI cJ cQ fu    x1 x3 v hv) (va_cwS 2 hts gX1_isRound_X1_oneOfRound rfl rfl rfl cd_X1_oneOfRound ⟨(Nat.le_of_ble_eq_true rfl), (Nat.le_of_ble_eq_true rfl)⟩) (cq_R_S hK hP [] rfl) rfl rfl hl.1 rfl (lv_room (Nat.le_of_ble_eq_true rfl)) dX1_isRound_11 ⟨Nat.le_refl _, Nat.le_refl _⟩) (fun u11 hd => ?_)
        refine lv_istore (lv' := [(4, .int u11), (0, .ref (a_h 0)), (1, .int x1), (2, .int x2), (3, .int x3)]) hx hb dX1_isRound_14 hl (Nat.le_of_ble_eq_true rfl) rfl (fun ls hl => ?_)
        refine lv_aload_n hx hb dX1_isRound_16 rfl (lv_at hl 1 rfl) ?_
        refine lv_iload hx hb dX1_isRound_17 (lv_at hl 0 rfl) ?_
        refine rx_roi hd (fun v hv => W.runV (As := [.int u11]) (rest := []) hcf (c_X1_isThere l dC dI cI cJ cQ fu a_h  s_h u11 v hv) (cwV 1 hts gX1_isRound_X1_isThere rfl rfl rfl cd_X1_isThere ⟨(Nat.le_of_ble_eq_true rfl), (Nat.le_of_ble_eq_true rfl)⟩) (cq_R_V1 (q0 := 0) (ci := 0) hK hP rfl rfl) rfl rfl hl.1 rfl (lv_room (Nat.le_of_ble_eq_true rfl)) dX1_isRound_19 ⟨Nat.le_refl _, Nat.le_refl _⟩) (fun u19 hd => ?_)
        refine rx_if_eq hx hb 34 dX1_isRound_22 rfl hd (fun hd => ?_) (fun hd => ?_)
        · refine lv_iconst (v := 0) hx hb dX1_isRound_34 ki_0 ?_
          exact rx_retRz hx hb hr hlocks hd dX1_isRound_35
        refine lv_iload_n hx hb dX1_isRound_25 rfl (lv_at hl 3 rfl) ?_
        refine lv_iload hx hb dX1_isRound_26 (lv_at hl 0 rfl) ?_
        refine lv_ishr hx hb dX1_isRound_28 ?_
        refine lv_iconst (v := 1) hx hb dX1_isRound_29 ki_1 ?_
        refine lv_iand hx hb dX1_isRound_30 ?_
        refine rx_if_eq hx hb 36 dX1_isRound_31 rfl hd (fun hd => ?_) (fun hd => ?_)
        · refine lv_iload_n hx hb dX1_isRound_36 rfl (lv_at hl 3 rfl) ?_
          refine lv_iconst (v := 1) hx hb dX1_isRound_37 ki_1 ?_
          refine lv_iload hx hb dX1_isRound_38 (lv_at hl 0 rfl) ?_
          refine lv_ishl hx hb dX1_isRound_40 ?_
          refine lv_ior hx hb dX1_isRound_41 ?_
          refine rx_topi hd (fun x2_42 hd => ?_)
          refine lv_istore_n (lv' := [(2, .int x2_42), (4, .int u11), (0, .ref (a_h 0)), (1, .int x1), (3, .int x3)]) hx hb dX1_isRound_42 rfl hl (Nat.le_of_ble_eq_true rfl) rfl (fun ls hl => ?_)
          refine rx_iinc (lv' := fun z => (3, .int z) :: [(2, .int x2_42), (4, .int u11), (0, .ref (a_h 0)), (1, .int x1)]) hx hb (j := 4) dX1_isRound_43 hl rfl ki_1 hd (Nat.le_of_ble_eq_true rfl) (fun _ => rfl) (fun x3_43 hd ls hl => ?_)
          refine lv_goto (tgt := 4) hx hb dX1_isRound_46 rfl ?_
          exact k4 x2_42 x3_43 hd _ (lv_sub hl [3, 4, 1, 0] rfl)
        refine lv_iconst (v := 0) hx hb dX1_isRound_34 ki_0 ?_
        exact rx_retRz hx hb hr hlocks hd dX1_isRound_35
    exact fun x2 x3 => L fu x2 x3
  refine lv_iconst (v := 0) hx hb dX1_isRound_0 ki_0 ?_
  refine lv_istore_n (lv' := [(2, .int (0 : Int32)), (0, .ref (a_h 0)), (1, .int x1)]) hx hb dX1_isRound_1 rfl hl (Nat.le_of_ble_eq_true rfl) rfl (fun ls hl => ?_)
  refine lv_iconst (v := 0) hx hb dX1_isRound_2 ki_0 ?_
  refine lv_istore_n (lv' := [(3, .int (0 : Int32)), (2, .int (0 : Int32)), (0, .ref (a_h 0)), (1, .int x1)]) hx hb dX1_isRound_3 rfl hl (Nat.le_of_ble_eq_true rfl) rfl (fun ls hl => ?_)
  exact b4   x1 (0 : Int32) (0 : Int32) hd _ (lv_sub hl [2, 3, 1, 0] rfl)
theorem fiX1_sendRound_X1 : ∀ w ∈ wsX10, w ∈ wsX1_sendRound := mem_r _ [6, 7, 8, 9, 10, 11, 12, 13, 14, 15, 16, 17] rfl
set_option maxHeartbeats 8000000 in
set_option maxRecDepth 100000 in
theorem c_X1_sendRound (l : Launch) (dC : Nat → ClassId) (dI : Nat → Nat → Nat) (cI cJ cQ : ClassId) (fu : Nat) (a_h : Nat → Nat) (sz : Nat) (s_h : PS) (x1 : Int32) (r : PS) (hd : fX1_sendRound fu  s_h x1 = some r) : mUv l yX1_sendRound wsX1_sendRound (gRm 1 21) [.ref (a_h 0), .int x1] (dC, dI) vwCl (gty cI cJ cQ) (wP cI cJ a_h s_h) sz (fun u : PS => (wP cI cJ a_h u)) r := by
  refine Met.ofW (cc := cX1_sendRound) (maxL := 3) (ret := none) (by decide) rfl ?_
  intro p e s m args below meth c s₁ B hml hv
  obtain ⟨hav, hsz, hP, hK, hD0⟩ := hv
  subst hsz
  have hD := hD0.self (sz := s.heap.size)
  generalize hAe : va_A (wP cI cJ a_h s_h) s.heap.size = A at hD ⊢
  have hA : ∀ q : Nat, s.heap.size ≤ q → A q := fun q h => by rw [← hAe]; exact Or.inr h
  have hS : va_S A s.heap s.heap [] := va_S.rf
  have hx := B.exec
  have hb := B.bytes
  have hr := B.returns
  have hts := atoms_spec (ws := wsX1_sendRound) B.pre
  have hown : s.vm.findClass RX1 = some m.cls := findClass_of_methodNamed B.named
  have hlocks := B.notSynchronized
  have hcf : CallFix p m c cX1_sendRound 3 s args wsX1_sendRound RX1 := ⟨hx, hb, hml, hown, hts⟩
  have fl_19 := hts (.fieldLink RX1 19 "BucketGift$Parish" "sends" "[I") (List.mem_of_getElem? (i := 1) rfl)
  have hg : entryFrame m args 3 = entryFrame m ([.ref (a_h 0), .int x1] : List Value).toArray 3 := by rw [hav]
  rw [hg, lg_entry_eq]
  have hl := lv_entry ([.ref (a_h 0), .int x1]) (n := 3) (Nat.le_of_ble_eq_true rfl)
  generalize (lg_sl ([.ref (a_h 0), .int x1]) ++ List.replicate (3 - (lg_sl ([.ref (a_h 0), .int x1])).length) Slot.unset).toArray = ls at hl ⊢
  have hl : lv_has ls 3 [(0, .ref (a_h 0)), (1, .int x1)] := hl
  clear hg
  unfold fX1_sendRound at hd
  have b2 : ∀ (x1 : Int32) (s_h : PS) (x2 : Int32), fX1_sendRound_b2 fu    x1 s_h x2 = some r → bk_U p l e (headSpec wsX1_sendRound (gRm 1 21)).room s m args below meth c (qUv below args s (dC, dI) vwCl (gty cI cJ cQ) A (fun u : PS => (wP cI cJ a_h u)) r) (dC, dI) vwCl A 3 (wP cI cJ a_h s_h) 2 [(0, .ref (a_h 0)), (1, .int x1), (2, .int x2)] [] := by
    intro x1
    have L : ∀ (n : Nat) (s_h : PS) (x2 : Int32), g_lp (fun _ _ => none) (fX1_sendRound_b2B fu    x1) n s_h x2 = some r → bk_U p l e (headSpec wsX1_sendRound (gRm 1 21)).room s m args below meth c (qUv below args s (dC, dI) vwCl (gty cI cJ cQ) A (fun u : PS => (wP cI cJ a_h u)) r) (dC, dI) vwCl A 3 (wP cI cJ a_h s_h) 2 [(0, .ref (a_h 0)), (1, .int x1), (2, .int x2)] [] := by
      intro n
      induction n with
      | zero => intro s_h x2 hd; exact absurd hd (by intro h; cases h)
      | succ n k2 =>
        intro s_h x2 hd
        intro H locs ls hP hD hS hl
        have hd : fX1_sendRound_b2B fu    x1 (g_lp (fun _ _ => none) (fX1_sendRound_b2B fu    x1) n) s_h x2 = some r := hd
        unfold fX1_sendRound_b2B at hd
        refine lv_iload_n hx hb dX1_sendRound_2 rfl (lv_at hl 2 rfl) ?_
        refine lv_iconst (v := 4) hx hb dX1_sendRound_3 ki_4 ?_
        refine rx_icmp_ge hx hb 24 dX1_sendRound_4 rfl hd (fun hd => ?_) (fun hd => ?_)
        · exact rx_retUv (u := s_h) (w1 := (fun u : PS => (wP cI cJ a_h u))) hx hb hr hlocks hd hK hP hD hS dX1_sendRound_24
        refine lv_aload_n hx hb dX1_sendRound_7 rfl (lv_at hl 0 rfl) ?_
        refine rx_get hx hb hts fiX1_sendRound_X1 hown hK hP 0 rfl rfl 3 (Nat.le_of_ble_eq_true rfl) fl_19 rfl rfl dX1_sendRound_8 ?_
        refine lv_iload_n hx hb dX1_sendRound_11 rfl (lv_at hl 2 rfl) ?_
        refine lv_iload_n hx hb dX1_sendRound_12 rfl (lv_at hl 1 rfl) ?_
        refine lv_iload_n hx hb dX1_sendRound_13 rfl (lv_at hl 2 rfl) ?_
        refine rx_roi hd (fun v hv => W.runS (As := [.int x1, .int x2]) (rest := [.int x2, .ref (a_h 4)]) hcf (c_X1_oneOfRound l dC dI cI cJ cQ fu    x1 x2 v hv) (va_cwS 2 hts gX1_sendRound_X1_oneOfRound rfl rfl rfl cd_X1_oneOfRound ⟨(Nat.le_of_ble_eq_true rfl), (Nat.le_of_ble_eq_true rfl)⟩) (cq_R_S hK hP [] rfl) rfl rfl hl.1 rfl (lv_room (Nat.le_of_ble_eq_true rfl)) dX1_sendRound_14 ⟨Nat.le_refl _, Nat.le_refl _⟩) (fun u14 hd => ?_)
        refine rx_iast (wP cI cJ a_h (puSends s_h (Int32.toNatClampNeg x2) u14)) hx hb hK hP hD hS 4 0 rfl rfl hd (wP_uSends ..) dX1_sendRound_17 (fun hd H locs hP hD hS => ?_)
        refine rx_iinc (lv' := fun z => (2, .int z) :: [(0, .ref (a_h 0)), (1, .int x1)]) hx hb (j := 2) dX1_sendRound_18 hl rfl ki_1 hd (Nat.le_of_ble_eq_true rfl) (fun _ => rfl) (fun x2_18 hd ls hl => ?_)
        refine lv_goto (tgt := 2) hx hb dX1_sendRound_21 rfl ?_
        exact k2 (puSends s_h (Int32.toNatClampNeg x2) u14) x2_18 hd _ _ _ hP hD hS (lv_sub hl [1, 2, 0] rfl)
    exact fun s_h x2 => L fu s_h x2
  refine lv_iconst (v := 0) hx hb dX1_sendRound_0 ki_0 ?_
  refine lv_istore_n (lv' := [(2, .int (0 : Int32)), (0, .ref (a_h 0)), (1, .int x1)]) hx hb dX1_sendRound_1 rfl hl (Nat.le_of_ble_eq_true rfl) rfl (fun ls hl => ?_)
  exact b2   x1 s_h (0 : Int32) hd _ _ _ hP hD hS (lv_sub hl [1, 2, 0] rfl)
set_option maxHeartbeats 8000000 in
set_option maxRecDepth 100000 in
theorem c_X1_roundInTens (l : Launch) (dC : Nat → ClassId) (dI : Nat → Nat → Nat) (cI cJ cQ : ClassId) (fu : Nat)   (x0 : Int32) (r : Int32) (hd : fX1_roundInTens fu   x0 = some r) : mRi l yX1_roundInTens wsX1_roundInTens (gRm 1 21) [.int x0] (cq_R (dC, dI) vwCl (gty cI cJ cQ) ([] : va_W)) r := by
  refine Met.ofW (cc := cX1_roundInTens) (maxL := 3) (ret := (some .int)) (by decide) rfl ?_
  intro p e s m args below meth c s₁ B hml hv
  obtain ⟨hav, hP, hK⟩ := hv
  have hx := B.exec
  have hb := B.bytes
  have hr := B.returns
  have hts := atoms_spec (ws := wsX1_roundInTens) B.pre
  have hown : s.vm.findClass RX1 = some m.cls := findClass_of_methodNamed B.named
  have hlocks := B.notSynchronized
  have hcf : CallFix p m c cX1_roundInTens 3 s args wsX1_roundInTens RX1 := ⟨hx, hb, hml, hown, hts⟩
  have hg : entryFrame m args 3 = entryFrame m ([.int x0] : List Value).toArray 3 := by rw [hav]
  rw [hg, lg_entry_eq]
  have hl := lv_entry ([.int x0]) (n := 3) (Nat.le_of_ble_eq_true rfl)
  generalize (lg_sl ([.int x0]) ++ List.replicate (3 - (lg_sl ([.int x0])).length) Slot.unset).toArray = ls at hl ⊢
  have hl : lv_has ls 3 [(0, .int x0)] := hl
  clear hg
  unfold fX1_roundInTens at hd
  have b4 : ∀ (x0 : Int32) (x1 : Int32) (x2 : Int32), fX1_roundInTens_b4 fu    x0 x1 x2 = some r → bk_R p l e (headSpec wsX1_roundInTens (gRm 1 21)).room s m args below meth c (qRi below args s r) 3 4 [(0, .int x0), (1, .int x1), (2, .int x2)] [] := by
    intro x0
    have L : ∀ (n : Nat) (x1 : Int32) (x2 : Int32), g_lp (fun _ _ => none) (fX1_roundInTens_b4B fu    x0) n x1 x2 = some r → bk_R p l e (headSpec wsX1_roundInTens (gRm 1 21)).room s m args below meth c (qRi below args s r) 3 4 [(0, .int x0), (1, .int x1), (2, .int x2)] [] := by
      intro n
      induction n with
      | zero => intro x1 x2 hd; exact absurd hd (by intro h; cases h)
      | succ n k4 =>
        intro x1 x2 hd
        intro ls hl
        have hd : fX1_roundInTens_b4B fu    x0 (g_lp (fun _ _ => none) (fX1_roundInTens_b4B fu    x0) n) x1 x2 = some r := hd
        unfold fX1_roundInTens_b4B at hd
        refine lv_iload_n hx hb dX1_roundInTens_4 rfl (lv_at hl 2 rfl) ?_
        refine rx_if_lt hx hb 25 dX1_roundInTens_5 rfl hd (fun hd => ?_) (fun hd => ?_)
        · refine lv_iload_n hx hb dX1_roundInTens_25 rfl (lv_at hl 1 rfl) ?_
          exact rx_retRi hx hb hr hlocks hd dX1_roundInTens_26
        refine lv_bipush (v := 10) hx hb dX1_roundInTens_8 kb_10 ?_
        refine lv_iload_n hx hb dX1_roundInTens_10 rfl (lv_at hl 1 rfl) ?_
        refine lv_imul hx hb dX1_roundInTens_11 ?_
        refine lv_iload_n hx hb dX1_roundInTens_12 rfl (lv_at hl 0 rfl) ?_
        refine lv_iload_n hx hb dX1_roundInTens_13 rfl (lv_at hl 2 rfl) ?_
        refine rx_roi hd (fun v hv => W.runS (As := [.int x0, .int x2]) (rest := [.int ((10 : Int32) * x1)]) hcf (c_X1_oneOfRound l dC dI cI cJ cQ fu    x0 x2 v hv) (va_cwS 2 hts gX1_roundInTens_X1_oneOfRound rfl rfl rfl cd_X1_oneOfRound ⟨(Nat.le_of_ble_eq_true rfl), (Nat.le_of_ble_eq_true rfl)⟩) (cq_R_S hK hP [] rfl) rfl rfl hl.1 rfl (lv_room (Nat.le_of_ble_eq_true rfl)) dX1_roundInTens_14 ⟨Nat.le_refl _, Nat.le_refl _⟩) (fun u14 hd => ?_)
        refine lv_iadd hx hb dX1_roundInTens_17 ?_
        refine rx_topi hd (fun x1_18 hd => ?_)
        refine lv_istore_n (lv' := [(1, .int x1_18), (0, .int x0), (2, .int x2)]) hx hb dX1_roundInTens_18 rfl hl (Nat.le_of_ble_eq_true rfl) rfl (fun ls hl => ?_)
        refine rx_iinc (lv' := fun z => (2, .int z) :: [(1, .int x1_18), (0, .int x0)]) hx hb (j := 2) dX1_roundInTens_19 hl rfl ki_m1 hd (Nat.le_of_ble_eq_true rfl) (fun _ => rfl) (fun x2_19 hd ls hl => ?_)
        refine lv_goto (tgt := 4) hx hb dX1_roundInTens_22 rfl ?_
        exact k4 x1_18 x2_19 hd _ (lv_sub hl [2, 1, 0] rfl)
    exact fun x1 x2 => L fu x1 x2
  refine lv_iconst (v := 0) hx hb dX1_roundInTens_0 ki_0 ?_
  refine lv_istore_n (lv' := [(1, .int (0 : Int32)), (0, .int x0)]) hx hb dX1_roundInTens_1 rfl hl (Nat.le_of_ble_eq_true rfl) rfl (fun ls hl => ?_)
  refine lv_iconst (v := 3) hx hb dX1_roundInTens_2 ki_3 ?_
  refine lv_istore_n (lv' := [(2, .int (3 : Int32)), (1, .int (0 : Int32)), (0, .int x0)]) hx hb dX1_roundInTens_3 rfl hl (Nat.le_of_ble_eq_true rfl) rfl (fun ls hl => ?_)
  exact b4   x0 (0 : Int32) (3 : Int32) hd _ (lv_sub hl [2, 1, 0] rfl)
theorem fiX1_sendNoMore_X1 : ∀ w ∈ wsX10, w ∈ wsX1_sendNoMore := mem_r _ [2, 3, 4, 5, 6, 7, 8, 9, 10, 11, 12, 13] rfl
set_option maxHeartbeats 8000000 in
set_option maxRecDepth 100000 in
theorem c_X1_sendNoMore (l : Launch) (dC : Nat → ClassId) (dI : Nat → Nat → Nat) (cI cJ cQ : ClassId) (fu : Nat) (a_h : Nat → Nat) (sz : Nat) (s_h : PS) (x1 : Int32) (r : PS) (hd : fX1_sendNoMore fu  s_h x1 = some r) : mUv l yX1_sendNoMore wsX1_sendNoMore (gRm 0 0) [.ref (a_h 0), .int x1] (dC, dI) vwCl (gty cI cJ cQ) (wP cI cJ a_h s_h) sz (fun u : PS => (wP cI cJ a_h u)) r := by
  refine Met.ofW (cc := cX1_sendNoMore) (maxL := 3) (ret := none) (by decide) rfl ?_
  intro p e s m args below meth c s₁ B hml hv
  obtain ⟨hav, hsz, hP, hK, hD0⟩ := hv
  subst hsz
  have hD := hD0.self (sz := s.heap.size)
  generalize hAe : va_A (wP cI cJ a_h s_h) s.heap.size = A at hD ⊢
  have hA : ∀ q : Nat, s.heap.size ≤ q → A q := fun q h => by rw [← hAe]; exact Or.inr h
  have hS : va_S A s.heap s.heap [] := va_S.rf
  have hx := B.exec
  have hb := B.bytes
  have hr := B.returns
  have hts := atoms_spec (ws := wsX1_sendNoMore) B.pre
  have hown : s.vm.findClass RX1 = some m.cls := findClass_of_methodNamed B.named
  have hlocks := B.notSynchronized
  have hcf : CallFix p m c cX1_sendNoMore 3 s args wsX1_sendNoMore RX1 := ⟨hx, hb, hml, hown, hts⟩
  have fl_19 := hts (.fieldLink RX1 19 "BucketGift$Parish" "sends" "[I") (List.mem_of_getElem? (i := 1) rfl)
  have hg : entryFrame m args 3 = entryFrame m ([.ref (a_h 0), .int x1] : List Value).toArray 3 := by rw [hav]
  rw [hg, lg_entry_eq]
  have hl := lv_entry ([.ref (a_h 0), .int x1]) (n := 3) (Nat.le_of_ble_eq_true rfl)
  generalize (lg_sl ([.ref (a_h 0), .int x1]) ++ List.replicate (3 - (lg_sl ([.ref (a_h 0), .int x1])).length) Slot.unset).toArray = ls at hl ⊢
  have hl : lv_has ls 3 [(0, .ref (a_h 0)), (1, .int x1)] := hl
  clear hg
  unfold fX1_sendNoMore at hd
  have b2 : ∀ (x1 : Int32) (s_h : PS) (x2 : Int32), fX1_sendNoMore_b2 fu    x1 s_h x2 = some r → bk_U p l e (headSpec wsX1_sendNoMore (gRm 0 0)).room s m args below meth c (qUv below args s (dC, dI) vwCl (gty cI cJ cQ) A (fun u : PS => (wP cI cJ a_h u)) r) (dC, dI) vwCl A 3 (wP cI cJ a_h s_h) 2 [(0, .ref (a_h 0)), (1, .int x1), (2, .int x2)] [] := by
    intro x1
    have L : ∀ (n : Nat) (s_h : PS) (x2 : Int32), g_lp (fun _ _ => none) (fX1_sendNoMore_b2B fu    x1) n s_h x2 = some r → bk_U p l e (headSpec wsX1_sendNoMore (gRm 0 0)).room s m args below meth c (qUv below args s (dC, dI) vwCl (gty cI cJ cQ) A (fun u : PS => (wP cI cJ a_h u)) r) (dC, dI) vwCl A 3 (wP cI cJ a_h s_h) 2 [(0, .ref (a_h 0)), (1, .int x1), (2, .int x2)] [] := by
      intro n
      induction n with
      | zero => intro s_h x2 hd; exact absurd hd (by intro h; cases h)
      | succ n k2 =>
        intro s_h x2 hd
        intro H locs ls hP hD hS hl
        have hd : fX1_sendNoMore_b2B fu    x1 (g_lp (fun _ _ => none) (fX1_sendNoMore_b2B fu    x1) n) s_h x2 = some r := hd
        unfold fX1_sendNoMore_b2B at hd
        refine lv_iload_n hx hb dX1_sendNoMore_2 rfl (lv_at hl 2 rfl) ?_
        refine lv_iconst (v := 4) hx hb dX1_sendNoMore_3 ki_4 ?_
        refine rx_icmp_ge hx hb 30 dX1_sendNoMore_4 rfl hd (fun hd => ?_) (fun hd => ?_)
        · exact rx_retUv (u := s_h) (w1 := (fun u : PS => (wP cI cJ a_h u))) hx hb hr hlocks hd hK hP hD hS dX1_sendNoMore_30
        refine lv_aload_n hx hb dX1_sendNoMore_7 rfl (lv_at hl 0 rfl) ?_
        refine rx_get hx hb hts fiX1_sendNoMore_X1 hown hK hP 0 rfl rfl 3 (Nat.le_of_ble_eq_true rfl) fl_19 rfl rfl dX1_sendNoMore_8 ?_
        refine lv_iload_n hx hb dX1_sendNoMore_11 rfl (lv_at hl 2 rfl) ?_
        refine rx_iald hx hb hK hP 4 0 rfl rfl hd dX1_sendNoMore_12 (fun v12 hd => ?_)
        refine lv_iload_n hx hb dX1_sendNoMore_13 rfl (lv_at hl 1 rfl) ?_
        refine rx_icmp_ne hx hb 24 dX1_sendNoMore_14 rfl hd (fun hd => ?_) (fun hd => ?_)
        · refine rx_iinc (lv' := fun z => (2, .int z) :: [(0, .ref (a_h 0)), (1, .int x1)]) hx hb (j := 2) dX1_sendNoMore_24 hl rfl ki_1 hd (Nat.le_of_ble_eq_true rfl) (fun _ => rfl) (fun x2_24 hd ls hl => ?_)
          refine lv_goto (tgt := 2) hx hb dX1_sendNoMore_27 rfl ?_
          exact k2 s_h x2_24 hd _ _ _ hP hD hS (lv_sub hl [1, 2, 0] rfl)
        refine lv_aload_n hx hb dX1_sendNoMore_17 rfl (lv_at hl 0 rfl) ?_
        refine rx_get hx hb hts fiX1_sendNoMore_X1 hown hK hP 0 rfl rfl 3 (Nat.le_of_ble_eq_true rfl) fl_19 rfl rfl dX1_sendNoMore_18 ?_
        refine lv_iload_n hx hb dX1_sendNoMore_21 rfl (lv_at hl 2 rfl) ?_
        refine lv_iconst (v := -1) hx hb dX1_sendNoMore_22 ki_m1 ?_
        refine rx_iast (wP cI cJ a_h (puSends s_h (Int32.toNatClampNeg x2) (-1 : Int32))) hx hb hK hP hD hS 4 0 rfl rfl hd (wP_uSends ..) dX1_sendNoMore_23 (fun hd H locs hP hD hS => ?_)
        refine rx_iinc (lv' := fun z => (2, .int z) :: [(0, .ref (a_h 0)), (1, .int x1)]) hx hb (j := 2) dX1_sendNoMore_24 hl rfl ki_1 hd (Nat.le_of_ble_eq_true rfl) (fun _ => rfl) (fun x2_24 hd ls hl => ?_)
        refine lv_goto (tgt := 2) hx hb dX1_sendNoMore_27 rfl ?_
        exact k2 (puSends s_h (Int32.toNatClampNeg x2) (-1 : Int32)) x2_24 hd _ _ _ hP hD hS (lv_sub hl [1, 2, 0] rfl)
    exact fun s_h x2 => L fu s_h x2
  refine lv_iconst (v := 0) hx hb dX1_sendNoMore_0 ki_0 ?_
  refine lv_istore_n (lv' := [(2, .int (0 : Int32)), (0, .ref (a_h 0)), (1, .int x1)]) hx hb dX1_sendNoMore_1 rfl hl (Nat.le_of_ble_eq_true rfl) rfl (fun ls hl => ?_)
  exact b2   x1 s_h (0 : Int32) hd _ _ _ hP hD hS (lv_sub hl [1, 2, 0] rfl)
theorem fiX1_deedsOfAll_X1 : ∀ w ∈ wsX10, w ∈ wsX1_deedsOfAll := mem_r _ [10, 11, 12, 13, 14, 15, 16, 17, 18, 19, 20, 21] rfl
set_option maxHeartbeats 8000000 in
set_option maxRecDepth 100000 in
theorem c_X1_deedsOfAll (l : Launch) (dC : Nat → ClassId) (dI : Nat → Nat → Nat) (cI cJ cQ : ClassId) (fu : Nat) (a_h : Nat → Nat) (s_h : PS)  (r : Int32) (hd : fX1_deedsOfAll fu  s_h  = some r) : mRi l yX1_deedsOfAll wsX1_deedsOfAll (gRm 1 20) [.ref (a_h 0)] (cq_R (dC, dI) vwCl (gty cI cJ cQ) (wP cI cJ a_h s_h)) r := by
  refine Met.ofW (cc := cX1_deedsOfAll) (maxL := 3) (ret := (some .int)) (by decide) rfl ?_
  intro p e s m args below meth c s₁ B hml hv
  obtain ⟨hav, hP, hK⟩ := hv
  have hx := B.exec
  have hb := B.bytes
  have hr := B.returns
  have hts := atoms_spec (ws := wsX1_deedsOfAll) B.pre
  have hown : s.vm.findClass RX1 = some m.cls := findClass_of_methodNamed B.named
  have hlocks := B.notSynchronized
  have hcf : CallFix p m c cX1_deedsOfAll 3 s args wsX1_deedsOfAll RX1 := ⟨hx, hb, hml, hown, hts⟩
  have fl_32 := hts (.fieldLink RX1 32 "BucketGift$Parish" "people" "I") (List.mem_of_getElem? (i := 1) rfl)
  have fl_38 := hts (.fieldLink RX1 38 "BucketGift$Parish" "deeds" "[I") (List.mem_of_getElem? (i := 2) rfl)
  have hg : entryFrame m args 3 = entryFrame m ([.ref (a_h 0)] : List Value).toArray 3 := by rw [hav]
  rw [hg, lg_entry_eq]
  have hl := lv_entry ([.ref (a_h 0)]) (n := 3) (Nat.le_of_ble_eq_true rfl)
  generalize (lg_sl ([.ref (a_h 0)]) ++ List.replicate (3 - (lg_sl ([.ref (a_h 0)])).length) Slot.unset).toArray = ls at hl ⊢
  have hl : lv_has ls 3 [(0, .ref (a_h 0))] := hl
  clear hg
  unfold fX1_deedsOfAll at hd
  have b4 : ∀ (x1 : Int32) (x2 : Int32), fX1_deedsOfAll_b4 fu s_h    x1 x2 = some r → bk_R p l e (headSpec wsX1_deedsOfAll (gRm 1 20)).room s m args below meth c (qRi below args s r) 3 4 [(0, .ref (a_h 0)), (1, .int x1), (2, .int x2)] [] := by
    have L : ∀ (n : Nat) (x1 : Int32) (x2 : Int32), g_lp (fun _ _ => none) (fX1_deedsOfAll_b4B fu s_h   ) n x1 x2 = some r → bk_R p l e (headSpec wsX1_deedsOfAll (gRm 1 20)).room s m args below meth c (qRi below args s r) 3 4 [(0, .ref (a_h 0)), (1, .int x1), (2, .int x2)] [] := by
      intro n
      induction n with
      | zero => intro x1 x2 hd; exact absurd hd (by intro h; cases h)
      | succ n k4 =>
        intro x1 x2 hd
        intro ls hl
        have hd : fX1_deedsOfAll_b4B fu s_h    (g_lp (fun _ _ => none) (fX1_deedsOfAll_b4B fu s_h   ) n) x1 x2 = some r := hd
        unfold fX1_deedsOfAll_b4B at hd
        refine lv_iload_n hx hb dX1_deedsOfAll_4 rfl (lv_at hl 2 rfl) ?_
        refine lv_aload_n hx hb dX1_deedsOfAll_5 rfl (lv_at hl 0 rfl) ?_
        refine rx_get hx hb hts fiX1_deedsOfAll_X1 hown hK hP 0 rfl rfl 7 (Nat.le_of_ble_eq_true rfl) fl_32 rfl rfl dX1_deedsOfAll_6 ?_
        refine rx_icmp_ge hx hb 30 dX1_deedsOfAll_9 rfl hd (fun hd => ?_) (fun hd => ?_)
        · refine lv_iload_n hx hb dX1_deedsOfAll_30 rfl (lv_at hl 1 rfl) ?_
          exact rx_retRi hx hb hr hlocks hd dX1_deedsOfAll_31
        refine lv_iload_n hx hb dX1_deedsOfAll_12 rfl (lv_at hl 1 rfl) ?_
        refine lv_aload_n hx hb dX1_deedsOfAll_13 rfl (lv_at hl 0 rfl) ?_
        refine rx_get hx hb hts fiX1_deedsOfAll_X1 hown hK hP 0 rfl rfl 9 (Nat.le_of_ble_eq_true rfl) fl_38 rfl rfl dX1_deedsOfAll_14 ?_
        refine lv_iload_n hx hb dX1_deedsOfAll_17 rfl (lv_at hl 2 rfl) ?_
        refine rx_iald hx hb hK hP 7 0 rfl rfl hd dX1_deedsOfAll_18 (fun v18 hd => ?_)
        refine rx_roi hd (fun v hv => W.runS (As := [.int v18]) (rest := [.int x1]) hcf (c_J6_bitCount_0f7a4 l dC dI cI cJ cQ fu    v18 v hv) (va_cwS 1 hts gX1_deedsOfAll_J6_bitCount_0f7a4 rfl rfl rfl cd_J6_bitCount_0f7a4 ⟨(Nat.le_of_ble_eq_true rfl), (Nat.le_of_ble_eq_true rfl)⟩) (cq_R_S hK hP [] rfl) rfl rfl hl.1 rfl (lv_room (Nat.le_of_ble_eq_true rfl)) dX1_deedsOfAll_19 ⟨Nat.le_refl _, Nat.le_refl _⟩) (fun u19 hd => ?_)
        refine lv_iadd hx hb dX1_deedsOfAll_22 ?_
        refine rx_topi hd (fun x1_23 hd => ?_)
        refine lv_istore_n (lv' := [(1, .int x1_23), (0, .ref (a_h 0)), (2, .int x2)]) hx hb dX1_deedsOfAll_23 rfl hl (Nat.le_of_ble_eq_true rfl) rfl (fun ls hl => ?_)
        refine rx_iinc (lv' := fun z => (2, .int z) :: [(1, .int x1_23), (0, .ref (a_h 0))]) hx hb (j := 2) dX1_deedsOfAll_24 hl rfl ki_1 hd (Nat.le_of_ble_eq_true rfl) (fun _ => rfl) (fun x2_24 hd ls hl => ?_)
        refine lv_goto (tgt := 4) hx hb dX1_deedsOfAll_27 rfl ?_
        exact k4 x1_23 x2_24 hd _ (lv_sub hl [2, 1, 0] rfl)
    exact fun x1 x2 => L fu x1 x2
  refine lv_iconst (v := 0) hx hb dX1_deedsOfAll_0 ki_0 ?_
  refine lv_istore_n (lv' := [(1, .int (0 : Int32)), (0, .ref (a_h 0))]) hx hb dX1_deedsOfAll_1 rfl hl (Nat.le_of_ble_eq_true rfl) rfl (fun ls hl => ?_)
  refine lv_iconst (v := 0) hx hb dX1_deedsOfAll_2 ki_0 ?_
  refine lv_istore_n (lv' := [(2, .int (0 : Int32)), (1, .int (0 : Int32)), (0, .ref (a_h 0))]) hx hb dX1_deedsOfAll_3 rfl hl (Nat.le_of_ble_eq_true rfl) rfl (fun ls hl => ?_)
  exact b4   (0 : Int32) (0 : Int32) hd _ (lv_sub hl [2, 1, 0] rfl)
theorem fiX1_askedOfAll_X1 : ∀ w ∈ wsX10, w ∈ wsX1_askedOfAll := mem_r _ [3, 4, 5, 6, 7, 8, 9, 10, 11, 12, 13, 14] rfl
set_option maxHeartbeats 8000000 in
set_option maxRecDepth 100000 in
theorem c_X1_askedOfAll (l : Launch) (dC : Nat → ClassId) (dI : Nat → Nat → Nat) (cI cJ cQ : ClassId) (fu : Nat) (a_h : Nat → Nat) (s_h : PS)  (r : Int32) (hd : fX1_askedOfAll fu  s_h  = some r) : mRi l yX1_askedOfAll wsX1_askedOfAll (gRm 0 0) [.ref (a_h 0)] (cq_R (dC, dI) vwCl (gty cI cJ cQ) (wP cI cJ a_h s_h)) r := by
  refine Met.ofW (cc := cX1_askedOfAll) (maxL := 3) (ret := (some .int)) (by decide) rfl ?_
  intro p e s m args below meth c s₁ B hml hv
  obtain ⟨hav, hP, hK⟩ := hv
  have hx := B.exec
  have hb := B.bytes
  have hr := B.returns
  have hts := atoms_spec (ws := wsX1_askedOfAll) B.pre
  have hown : s.vm.findClass RX1 = some m.cls := findClass_of_methodNamed B.named
  have hlocks := B.notSynchronized
  have hcf : CallFix p m c cX1_askedOfAll 3 s args wsX1_askedOfAll RX1 := ⟨hx, hb, hml, hown, hts⟩
  have fl_32 := hts (.fieldLink RX1 32 "BucketGift$Parish" "people" "I") (List.mem_of_getElem? (i := 1) rfl)
  have fl_44 := hts (.fieldLink RX1 44 "BucketGift$Parish" "asked" "[I") (List.mem_of_getElem? (i := 2) rfl)
  have hg : entryFrame m args 3 = entryFrame m ([.ref (a_h 0)] : List Value).toArray 3 := by rw [hav]
  rw [hg, lg_entry_eq]
  have hl := lv_entry ([.ref (a_h 0)]) (n := 3) (Nat.le_of_ble_eq_true rfl)
  generalize (lg_sl ([.ref (a_h 0)]) ++ List.replicate (3 - (lg_sl ([.ref (a_h 0)])).length) Slot.unset).toArray = ls at hl ⊢
  have hl : lv_has ls 3 [(0, .ref (a_h 0))] := hl
  clear hg
  unfold fX1_askedOfAll at hd
  have b4 : ∀ (x1 : Int32) (x2 : Int32), fX1_askedOfAll_b4 fu s_h    x1 x2 = some r → bk_R p l e (headSpec wsX1_askedOfAll (gRm 0 0)).room s m args below meth c (qRi below args s r) 3 4 [(0, .ref (a_h 0)), (1, .int x1), (2, .int x2)] [] := by
    have L : ∀ (n : Nat) (x1 : Int32) (x2 : Int32), g_lp (fun _ _ => none) (fX1_askedOfAll_b4B fu s_h   ) n x1 x2 = some r → bk_R p l e (headSpec wsX1_askedOfAll (gRm 0 0)).room s m args below meth c (qRi below args s r) 3 4 [(0, .ref (a_h 0)), (1, .int x1), (2, .int x2)] [] := by
      intro n
      induction n with
      | zero => intro x1 x2 hd; exact absurd hd (by intro h; cases h)
      | succ n k4 =>
        intro x1 x2 hd
        intro ls hl
        have hd : fX1_askedOfAll_b4B fu s_h    (g_lp (fun _ _ => none) (fX1_askedOfAll_b4B fu s_h   ) n) x1 x2 = some r := hd
        unfold fX1_askedOfAll_b4B at hd
        refine lv_iload_n hx hb dX1_askedOfAll_4 rfl (lv_at hl 2 rfl) ?_
        refine lv_aload_n hx hb dX1_askedOfAll_5 rfl (lv_at hl 0 rfl) ?_
        refine rx_get hx hb hts fiX1_askedOfAll_X1 hown hK hP 0 rfl rfl 7 (Nat.le_of_ble_eq_true rfl) fl_32 rfl rfl dX1_askedOfAll_6 ?_
        refine rx_icmp_ge hx hb 27 dX1_askedOfAll_9 rfl hd (fun hd => ?_) (fun hd => ?_)
        · refine lv_iload_n hx hb dX1_askedOfAll_27 rfl (lv_at hl 1 rfl) ?_
          exact rx_retRi hx hb hr hlocks hd dX1_askedOfAll_28
        refine lv_iload_n hx hb dX1_askedOfAll_12 rfl (lv_at hl 1 rfl) ?_
        refine lv_aload_n hx hb dX1_askedOfAll_13 rfl (lv_at hl 0 rfl) ?_
        refine rx_get hx hb hts fiX1_askedOfAll_X1 hown hK hP 0 rfl rfl 11 (Nat.le_of_ble_eq_true rfl) fl_44 rfl rfl dX1_askedOfAll_14 ?_
        refine lv_iload_n hx hb dX1_askedOfAll_17 rfl (lv_at hl 2 rfl) ?_
        refine rx_iald hx hb hK hP 9 0 rfl rfl hd dX1_askedOfAll_18 (fun v18 hd => ?_)
        refine lv_iadd hx hb dX1_askedOfAll_19 ?_
        refine rx_topi hd (fun x1_20 hd => ?_)
        refine lv_istore_n (lv' := [(1, .int x1_20), (0, .ref (a_h 0)), (2, .int x2)]) hx hb dX1_askedOfAll_20 rfl hl (Nat.le_of_ble_eq_true rfl) rfl (fun ls hl => ?_)
        refine rx_iinc (lv' := fun z => (2, .int z) :: [(1, .int x1_20), (0, .ref (a_h 0))]) hx hb (j := 2) dX1_askedOfAll_21 hl rfl ki_1 hd (Nat.le_of_ble_eq_true rfl) (fun _ => rfl) (fun x2_21 hd ls hl => ?_)
        refine lv_goto (tgt := 4) hx hb dX1_askedOfAll_24 rfl ?_
        exact k4 x1_20 x2_21 hd _ (lv_sub hl [2, 1, 0] rfl)
    exact fun x1 x2 => L fu x1 x2
  refine lv_iconst (v := 0) hx hb dX1_askedOfAll_0 ki_0 ?_
  refine lv_istore_n (lv' := [(1, .int (0 : Int32)), (0, .ref (a_h 0))]) hx hb dX1_askedOfAll_1 rfl hl (Nat.le_of_ble_eq_true rfl) rfl (fun ls hl => ?_)
  refine lv_iconst (v := 0) hx hb dX1_askedOfAll_2 ki_0 ?_
  refine lv_istore_n (lv' := [(2, .int (0 : Int32)), (1, .int (0 : Int32)), (0, .ref (a_h 0))]) hx hb dX1_askedOfAll_3 rfl hl (Nat.le_of_ble_eq_true rfl) rfl (fun ls hl => ?_)
  exact b4   (0 : Int32) (0 : Int32) hd _ (lv_sub hl [2, 1, 0] rfl)
