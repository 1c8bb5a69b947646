set_option maxHeartbeats 8000000 in
set_option maxRecDepth 100000 in
theorem c_X5_sortOf (l : Launch) (dC : Nat → ClassId) (dI : Nat → Nat → Nat) (cI cJ cQ : ClassId) (fu : Nat)   (x0 : Int32) (r : Int32) (hd : fX5_sortOf fu   x0 = some r) : mRi l yX5_sortOf wsX5_sortOf (gRm 0 0) [.int x0] (cq_R (dC, dI) vwCl (gty cI cJ cQ) ([] : va_W)) r := by
  refine Met.ofW (cc := cX5_sortOf) (maxL := 1) (ret := (some .int)) (by decide) rfl ?_
  intro p e s m args below meth c s₁ B hml hv
  obtain ⟨hav, hP, hK⟩ := hv
  have hx := B.exec
  have hb := B.bytes
  have hr := B.returns
  have hts := atoms_spec (ws := wsX5_sortOf) B.pre
  have hown : s.vm.findClass RX5 = some m.cls := findClass_of_methodNamed B.named
  have hlocks := B.notSynchronized
  have hcf : CallFix p m c cX5_sortOf 1 s args wsX5_sortOf RX5 := ⟨hx, hb, hml, hown, hts⟩
  have hg : entryFrame m args 1 = entryFrame m ([.int x0] : List Value).toArray 1 := by rw [hav]
  rw [hg, lg_entry_eq]
  have hl := lv_entry ([.int x0]) (n := 1) (Nat.le_of_ble_eq_true rfl)
  generalize (lg_sl ([.int x0]) ++ List.replicate (1 - (lg_sl ([.int x0])).length) Slot.unset).toArray = ls at hl ⊢
  have hl : lv_has ls 1 [(0, .int x0)] := hl
  clear hg
  unfold fX5_sortOf at hd
  have b28 : ∀ (x0 : Int32), fX5_sortOf_b28 fu    x0 = some r → bk_R p l e (headSpec wsX5_sortOf (gRm 0 0)).room s m args below meth c (qRi below args s r) 1 28 [(0, .int x0)] [] := by
    intro x0 hd
    intro ls hl
    unfold fX5_sortOf_b28 at hd
    refine lv_iload_n hx hb dX5_sortOf_28 rfl (lv_at hl 0 rfl) ?_
    refine lv_bipush (v := 32) hx hb dX5_sortOf_29 kb_32 ?_
    refine rx_icmp_ne hx hb 36 dX5_sortOf_31 rfl hd (fun hd => ?_) (fun hd => ?_)
    · refine lv_iload_n hx hb dX5_sortOf_36 rfl (lv_at hl 0 rfl) ?_
      refine lv_bipush (v := 59) hx hb dX5_sortOf_37 kb_59 ?_
      refine rx_icmp_ne hx hb 46 dX5_sortOf_39 rfl hd (fun hd => ?_) (fun hd => ?_)
      · refine lv_iconst (v := 4) hx hb dX5_sortOf_46 ki_4 ?_
        exact rx_retRi hx hb hr hlocks hd dX5_sortOf_47
      refine lv_iconst (v := 3) hx hb dX5_sortOf_42 ki_3 ?_
      refine lv_goto (tgt := 47) hx hb dX5_sortOf_43 rfl ?_
      exact rx_retRi hx hb hr hlocks hd dX5_sortOf_47
    refine lv_iconst (v := 0) hx hb dX5_sortOf_34 ki_0 ?_
    exact rx_retRi hx hb hr hlocks hd dX5_sortOf_35
  have b14 : ∀ (x0 : Int32), fX5_sortOf_b14 fu    x0 = some r → bk_R p l e (headSpec wsX5_sortOf (gRm 0 0)).room s m args below meth c (qRi below args s r) 1 14 [(0, .int x0)] [] := by
    intro x0 hd
    intro ls hl
    unfold fX5_sortOf_b14 at hd
    refine lv_iload_n hx hb dX5_sortOf_14 rfl (lv_at hl 0 rfl) ?_
    refine lv_bipush (v := 48) hx hb dX5_sortOf_15 kb_48 ?_
    refine rx_icmp_lt hx hb 28 dX5_sortOf_17 rfl hd (fun hd => ?_) (fun hd => ?_)
    · exact b28   x0 hd _ (lv_sub hl [0] rfl)
    refine lv_iload_n hx hb dX5_sortOf_20 rfl (lv_at hl 0 rfl) ?_
    refine lv_bipush (v := 57) hx hb dX5_sortOf_21 kb_57 ?_
    refine rx_icmp_gt hx hb 28 dX5_sortOf_23 rfl hd (fun hd => ?_) (fun hd => ?_)
    · exact b28   x0 hd _ (lv_sub hl [0] rfl)
    refine lv_iconst (v := 2) hx hb dX5_sortOf_26 ki_2 ?_
    exact rx_retRi hx hb hr hlocks hd dX5_sortOf_27
  refine lv_iload_n hx hb dX5_sortOf_0 rfl (lv_at hl 0 rfl) ?_
  refine lv_bipush (v := 97) hx hb dX5_sortOf_1 kb_97 ?_
  refine rx_icmp_lt hx hb 14 dX5_sortOf_3 rfl hd (fun hd => ?_) (fun hd => ?_)
  · exact b14   x0 hd _ (lv_sub hl [0] rfl)
  refine lv_iload_n hx hb dX5_sortOf_6 rfl (lv_at hl 0 rfl) ?_
  refine lv_bipush (v := 122) hx hb dX5_sortOf_7 kb_122 ?_
  refine rx_icmp_gt hx hb 14 dX5_sortOf_9 rfl hd (fun hd => ?_) (fun hd => ?_)
  · exact b14   x0 hd _ (lv_sub hl [0] rfl)
  refine lv_iconst (v := 1) hx hb dX5_sortOf_12 ki_1 ?_
  exact rx_retRi hx hb hr hlocks hd dX5_sortOf_13
theorem fiX5_begin_X5 : ∀ w ∈ wsX50, w ∈ wsX5_begin := mem_r _ [6, 7, 8, 9, 10, 11, 12] rfl
set_option maxHeartbeats 8000000 in
set_option maxRecDepth 100000 in
theorem c_X5_begin (l : Launch) (dC : Nat → ClassId) (dI : Nat → Nat → Nat) (cI cJ cQ : ClassId) (fu : Nat) (a_z : Nat → Nat) (sz : Nat) (s_z : TKS) (x1 : Int32) (x2 : Int32) (r : TKS) (hd : fX5_begin fu  s_z x1 x2 = some r) : mUv l yX5_begin wsX5_begin (gRm 0 0) [.ref (a_z 0), .int x1, .int x2] (dC, dI) vwCl (gty cI cJ cQ) (wTK cI cJ a_z s_z) sz (fun u : TKS => (wTK cI cJ a_z u)) r := by
  refine Met.ofW (cc := cX5_begin) (maxL := 3) (ret := none) (by decide) rfl ?_
  intro p e s m args below meth c s₁ B hml hv
  obtain ⟨hav, hsz, hP, hK, hD0⟩ := hv
  subst hsz
  have hD := hD0.self (sz := s.heap.size)
  generalize hAe : va_A (wTK cI cJ a_z s_z) s.heap.size = A at hD ⊢
  have hA : ∀ q : Nat, s.heap.size ≤ q → A q := fun q h => by rw [← hAe]; exact Or.inr h
  have hS : va_S A s.heap s.heap [] := va_S.rf
  have hx := B.exec
  have hb := B.bytes
  have hr := B.returns
  have hts := atoms_spec (ws := wsX5_begin) B.pre
  have hown : s.vm.findClass RX5 = some m.cls := findClass_of_methodNamed B.named
  have hlocks := B.notSynchronized
  have hcf : CallFix p m c cX5_begin 3 s args wsX5_begin RX5 := ⟨hx, hb, hml, hown, hts⟩
  have fl_9 := hts (.fieldLink RX5 9 "BucketGift$Tokens" "sorts" "[I") (List.mem_of_getElem? (i := 1) rfl)
  have fl_27 := hts (.fieldLink RX5 27 "BucketGift$Tokens" "many" "I") (List.mem_of_getElem? (i := 2) rfl)
  have fl_15 := hts (.fieldLink RX5 15 "BucketGift$Tokens" "starts" "[I") (List.mem_of_getElem? (i := 3) rfl)
  have fl_18 := hts (.fieldLink RX5 18 "BucketGift$Tokens" "lengths" "[I") (List.mem_of_getElem? (i := 4) rfl)
  have fl_21 := hts (.fieldLink RX5 21 "BucketGift$Tokens" "values" "[I") (List.mem_of_getElem? (i := 5) rfl)
  have hg : entryFrame m args 3 = entryFrame m ([.ref (a_z 0), .int x1, .int x2] : List Value).toArray 3 := by rw [hav]
  rw [hg, lg_entry_eq]
  have hl := lv_entry ([.ref (a_z 0), .int x1, .int x2]) (n := 3) (Nat.le_of_ble_eq_true rfl)
  generalize (lg_sl ([.ref (a_z 0), .int x1, .int x2]) ++ List.replicate (3 - (lg_sl ([.ref (a_z 0), .int x1, .int x2])).length) Slot.unset).toArray = ls at hl ⊢
  have hl : lv_has ls 3 [(0, .ref (a_z 0)), (1, .int x1), (2, .int x2)] := hl
  clear hg
  unfold fX5_begin at hd
  refine lv_aload_n hx hb dX5_begin_0 rfl (lv_at hl 0 rfl) ?_
  refine rx_get hx hb hts fiX5_begin_X5 hown hK hP 0 rfl rfl 0 (Nat.le_of_ble_eq_true rfl) fl_9 rfl rfl dX5_begin_1 ?_
  refine lv_aload_n hx hb dX5_begin_4 rfl (lv_at hl 0 rfl) ?_
  refine rx_get hx hb hts fiX5_begin_X5 hown hK hP 0 rfl rfl 5 (Nat.le_of_ble_eq_true rfl) fl_27 rfl rfl dX5_begin_5 ?_
  refine lv_iload_n hx hb dX5_begin_8 rfl (lv_at hl 1 rfl) ?_
  refine rx_iast (wTK cI cJ a_z (kuSorts s_z (Int32.toNatClampNeg (kgMany s_z)) x1)) hx hb hK hP hD hS 1 0 rfl rfl hd (wTK_uSorts ..) dX5_begin_9 (fun hd H locs hP hD hS => ?_)
  refine lv_aload_n hx hb dX5_begin_10 rfl (lv_at hl 0 rfl) ?_
  refine rx_get hx hb hts fiX5_begin_X5 hown hK hP 0 rfl rfl 1 (Nat.le_of_ble_eq_true rfl) fl_15 rfl rfl dX5_begin_11 ?_
  refine lv_aload_n hx hb dX5_begin_14 rfl (lv_at hl 0 rfl) ?_
  refine rx_get hx hb hts fiX5_begin_X5 hown hK hP 0 rfl rfl 5 (Nat.le_of_ble_eq_true rfl) fl_27 rfl rfl dX5_begin_15 ?_
  refine lv_iload_n hx hb dX5_begin_18 rfl (lv_at hl 2 rfl) ?_
  refine rx_iast (wTK cI cJ a_z (kuStarts (kuSorts s_z (Int32.toNatClampNeg (kgMany s_z)) x1) (Int32.toNatClampNeg (kgMany (kuSorts s_z (Int32.toNatClampNeg (kgMany s_z)) x1))) x2)) hx hb hK hP hD hS 2 0 rfl rfl hd (wTK_uStarts ..) dX5_begin_19 (fun hd H locs hP hD hS => ?_)
  refine lv_aload_n hx hb dX5_begin_20 rfl (lv_at hl 0 rfl) ?_
  refine rx_get hx hb hts fiX5_begin_X5 hown hK hP 0 rfl rfl 2 (Nat.le_of_ble_eq_true rfl) fl_18 rfl rfl dX5_begin_21 ?_
  refine lv_aload_n hx hb dX5_begin_24 rfl (lv_at hl 0 rfl) ?_
  refine rx_get hx hb hts fiX5_begin_X5 hown hK hP 0 rfl rfl 5 (Nat.le_of_ble_eq_true rfl) fl_27 rfl rfl dX5_begin_25 ?_
  refine lv_iconst (v := 1) hx hb dX5_begin_28 ki_1 ?_
  refine rx_iast (wTK cI cJ a_z (kuLengths (kuStarts (kuSorts s_z (Int32.toNatClampNeg (kgMany s_z)) x1) (Int32.toNatClampNeg (kgMany (kuSorts s_z (Int32.toNatClampNeg (kgMany s_z)) x1))) x2) (Int32.toNatClampNeg (kgMany (kuStarts (kuSorts s_z (Int32.toNatClampNeg (kgMany s_z)) x1) (Int32.toNatClampNeg (kgMany (kuSorts s_z (Int32.toNatClampNeg (kgMany s_z)) x1))) x2))) (1 : Int32))) hx hb hK hP hD hS 3 0 rfl rfl hd (wTK_uLengths ..) dX5_begin_29 (fun hd H locs hP hD hS => ?_)
  refine lv_aload_n hx hb dX5_begin_30 rfl (lv_at hl 0 rfl) ?_
  refine rx_get hx hb hts fiX5_begin_X5 hown hK hP 0 rfl rfl 3 (Nat.le_of_ble_eq_true rfl) fl_21 rfl rfl dX5_begin_31 ?_
  refine lv_aload_n hx hb dX5_begin_34 rfl (lv_at hl 0 rfl) ?_
  refine rx_get hx hb hts fiX5_begin_X5 hown hK hP 0 rfl rfl 5 (Nat.le_of_ble_eq_true rfl) fl_27 rfl rfl dX5_begin_35 ?_
  refine lv_iconst (v := 0) hx hb dX5_begin_38 ki_0 ?_
  refine rx_iast (wTK cI cJ a_z (kuValues (kuLengths (kuStarts (kuSorts s_z (Int32.toNatClampNeg (kgMany s_z)) x1) (Int32.toNatClampNeg (kgMany (kuSorts s_z (Int32.toNatClampNeg (kgMany s_z)) x1))) x2) (Int32.toNatClampNeg (kgMany (kuStarts (kuSorts s_z (Int32.toNatClampNeg (kgMany s_z)) x1) (Int32.toNatClampNeg (kgMany (kuSorts s_z (Int32.toNatClampNeg (kgMany s_z)) x1))) x2))) (1 : Int32)) (Int32.toNatClampNeg (kgMany (kuLengths (kuStarts (kuSorts s_z (Int32.toNatClampNeg (kgMany s_z)) x1) (Int32.toNatClampNeg (kgMany (kuSorts s_z (Int32.toNatClampNeg (kgMany s_z)) x1))) x2) (Int32.toNatClampNeg (kgMany (kuStarts (kuSorts s_z (Int32.toNatClampNeg (kgMany s_z)) x1) (Int32.toNatClampNeg (kgMany (kuSorts s_z (Int32.toNatClampNeg (kgMany s_z)) x1))) x2))) (1 : Int32)))) (0 : Int32))) hx hb hK hP hD hS 4 0 rfl rfl hd (wTK_uValues ..) dX5_begin_39 (fun hd H locs hP hD hS => ?_)
  refine lv_aload_n hx hb dX5_begin_40 rfl (lv_at hl 0 rfl) ?_
  refine lv_dup hx hb dX5_begin_41 rfl ?_
  refine rx_get hx hb hts fiX5_begin_X5 hown hK hP 0 rfl rfl 5 (Nat.le_of_ble_eq_true rfl) fl_27 rfl rfl dX5_begin_42 ?_
  refine lv_iconst (v := 1) hx hb dX5_begin_45 ki_1 ?_
  refine lv_iadd hx hb dX5_begin_46 ?_
  refine rx_puti (wTK cI cJ a_z (ksMany (kuValues (kuLengths (kuStarts (kuSorts s_z (Int32.toNatClampNeg (kgMany s_z)) x1) (Int32.toNatClampNeg (kgMany (kuSorts s_z (Int32.toNatClampNeg (kgMany s_z)) x1))) x2) (Int32.toNatClampNeg (kgMany (kuStarts (kuSorts s_z (Int32.toNatClampNeg (kgMany s_z)) x1) (Int32.toNatClampNeg (kgMany (kuSorts s_z (Int32.toNatClampNeg (kgMany s_z)) x1))) x2))) (1 : Int32)) (Int32.toNatClampNeg (kgMany (kuLengths (kuStarts (kuSorts s_z (Int32.toNatClampNeg (kgMany s_z)) x1) (Int32.toNatClampNeg (kgMany (kuSorts s_z (Int32.toNatClampNeg (kgMany s_z)) x1))) x2) (Int32.toNatClampNeg (kgMany (kuStarts (kuSorts s_z (Int32.toNatClampNeg (kgMany s_z)) x1) (Int32.toNatClampNeg (kgMany (kuSorts s_z (Int32.toNatClampNeg (kgMany s_z)) x1))) x2))) (1 : Int32)))) (0 : Int32)) ((kgMany (kuValues (kuLengths (kuStarts (kuSorts s_z (Int32.toNatClampNeg (kgMany s_z)) x1) (Int32.toNatClampNeg (kgMany (kuSorts s_z (Int32.toNatClampNeg (kgMany s_z)) x1))) x2) (Int32.toNatClampNeg (kgMany (kuStarts (kuSorts s_z (Int32.toNatClampNeg (kgMany s_z)) x1) (Int32.toNatClampNeg (kgMany (kuSorts s_z (Int32.toNatClampNeg (kgMany s_z)) x1))) x2))) (1 : Int32)) (Int32.toNatClampNeg (kgMany (kuLengths (kuStarts (kuSorts s_z (Int32.toNatClampNeg (kgMany s_z)) x1) (Int32.toNatClampNeg (kgMany (kuSorts s_z (Int32.toNatClampNeg (kgMany s_z)) x1))) x2) (Int32.toNatClampNeg (kgMany (kuStarts (kuSorts s_z (Int32.toNatClampNeg (kgMany s_z)) x1) (Int32.toNatClampNeg (kgMany (kuSorts s_z (Int32.toNatClampNeg (kgMany s_z)) x1))) x2))) (1 : Int32)))) (0 : Int32))) + (1 : Int32)))) hx hb hts fiX5_begin_X5 tyX5 tyX5_ok nmX5 hown hK hP hD hS 0 rfl rfl 5 (Nat.le_of_ble_eq_true rfl) fl_27 rfl rfl rfl (Nat.le_of_ble_eq_true rfl) (wTK_sMany ..) dX5_begin_47 (fun H locs hP hD hS => ?_)
  exact rx_retUv (u := (ksMany (kuValues (kuLengths (kuStarts (kuSorts s_z (Int32.toNatClampNeg (kgMany s_z)) x1) (Int32.toNatClampNeg (kgMany (kuSorts s_z (Int32.toNatClampNeg (kgMany s_z)) x1))) x2) (Int32.toNatClampNeg (kgMany (kuStarts (kuSorts s_z (Int32.toNatClampNeg (kgMany s_z)) x1) (Int32.toNatClampNeg (kgMany (kuSorts s_z (Int32.toNatClampNeg (kgMany s_z)) x1))) x2))) (1 : Int32)) (Int32.toNatClampNeg (kgMany (kuLengths (kuStarts (kuSorts s_z (Int32.toNatClampNeg (kgMany s_z)) x1) (Int32.toNatClampNeg (kgMany (kuSorts s_z (Int32.toNatClampNeg (kgMany s_z)) x1))) x2) (Int32.toNatClampNeg (kgMany (kuStarts (kuSorts s_z (Int32.toNatClampNeg (kgMany s_z)) x1) (Int32.toNatClampNeg (kgMany (kuSorts s_z (Int32.toNatClampNeg (kgMany s_z)) x1))) x2))) (1 : Int32)))) (0 : Int32)) ((kgMany (kuValues (kuLengths (kuStarts (kuSorts s_z (Int32.toNatClampNeg (kgMany s_z)) x1) (Int32.toNatClampNeg (kgMany (kuSorts s_z (Int32.toNatClampNeg (kgMany s_z)) x1))) x2) (Int32.toNatClampNeg (kgMany (kuStarts (kuSorts s_z (Int32.toNatClampNeg (kgMany s_z)) x1) (Int32.toNatClampNeg (kgMany (kuSorts s_z (Int32.toNatClampNeg (kgMany s_z)) x1))) x2))) (1 : Int32)) (Int32.toNatClampNeg (kgMany (kuLengths (kuStarts (kuSorts s_z (Int32.toNatClampNeg (kgMany s_z)) x1) (Int32.toNatClampNeg (kgMany (kuSorts s_z (Int32.toNatClampNeg (kgMany s_z)) x1))) x2) (Int32.toNatClampNeg (kgMany (kuStarts (kuSorts s_z (Int32.toNatClampNeg (kgMany s_z)) x1) (Int32.toNatClampNeg (kgMany (kuSorts s_z (Int32.toNatClampNeg (kgMany s_z)) x1))) x2))) (1 : Int32)))) (0 : Int32))) + (1 : Int32)))) (w1 := (fun u : TKS => (wTK cI cJ a_z u))) hx hb hr hlocks hd hK hP hD hS dX5_begin_50
theorem fiX5_addDigit_X5 : ∀ w ∈ wsX50, w ∈ wsX5_addDigit := mem_r _ [7, 8, 9, 10, 11, 12, 13] rfl
set_option maxHeartbeats 8000000 in
set_option maxRecDepth 100000 in
theorem c_X5_addDigit (l : Launch) (dC : Nat → ClassId) (dI : Nat → Nat → Nat) (cI cJ cQ : ClassId) (fu : Nat) (a_z : Nat → Nat) (sz : Nat) (s_z : TKS) (x1 : Int32) (r : TKS) (hd : fX5_addDigit fu  s_z x1 = some r) : mUv l yX5_addDigit wsX5_addDigit (gRm 1 21) [.ref (a_z 0), .int x1] (dC, dI) vwCl (gty cI cJ cQ) (wTK cI cJ a_z s_z) sz (fun u : TKS => (wTK cI cJ a_z u)) r := by
  refine Met.ofW (cc := cX5_addDigit) (maxL := 3) (ret := none) (by decide) rfl ?_
  intro p e s m args below meth c s₁ B hml hv
  obtain ⟨hav, hsz, hP, hK, hD0⟩ := hv
  subst hsz
  have hD := hD0.self (sz := s.heap.size)
  generalize hAe : va_A (wTK cI cJ a_z s_z) s.heap.size = A at hD ⊢
  have hA : ∀ q : Nat, s.heap.size ≤ q → A q := fun q h => by rw [← hAe]; exact Or.inr h
  have hS : va_S A s.heap s.heap [] := va_S.rf
  have hx := B.exec
  have hb := B.bytes
  have hr := B.returns
  have hts := atoms_spec (ws := wsX5_addDigit) B.pre
  have hown : s.vm.findClass RX5 = some m.cls := findClass_of_methodNamed B.named
  have hlocks := B.notSynchronized
  have hcf : CallFix p m c cX5_addDigit 3 s args wsX5_addDigit RX5 := ⟨hx, hb, hml, hown, hts⟩
  have fl_27 := hts (.fieldLink RX5 27 "BucketGift$Tokens" "many" "I") (List.mem_of_getElem? (i := 1) rfl)
  have fl_21 := hts (.fieldLink RX5 21 "BucketGift$Tokens" "values" "[I") (List.mem_of_getElem? (i := 2) rfl)
  have hg : entryFrame m args 3 = entryFrame m ([.ref (a_z 0), .int x1] : List Value).toArray 3 := by rw [hav]
  rw [hg, lg_entry_eq]
  have hl := lv_entry ([.ref (a_z 0), .int x1]) (n := 3) (Nat.le_of_ble_eq_true rfl)
  generalize (lg_sl ([.ref (a_z 0), .int x1]) ++ List.replicate (3 - (lg_sl ([.ref (a_z 0), .int x1])).length) Slot.unset).toArray = ls at hl ⊢
  have hl : lv_has ls 3 [(0, .ref (a_z 0)), (1, .int x1)] := hl
  clear hg
  unfold fX5_addDigit at hd
  refine lv_aload_n hx hb dX5_addDigit_0 rfl (lv_at hl 0 rfl) ?_
  refine rx_get hx hb hts fiX5_addDigit_X5 hown hK hP 0 rfl rfl 5 (Nat.le_of_ble_eq_true rfl) fl_27 rfl rfl dX5_addDigit_1 ?_
  refine lv_iconst (v := 1) hx hb dX5_addDigit_4 ki_1 ?_
  refine lv_isub hx hb dX5_addDigit_5 ?_
  refine rx_topi hd (fun x2_6 hd => ?_)
  refine lv_istore_n (lv' := [(2, .int x2_6), (0, .ref (a_z 0)), (1, .int x1)]) hx hb dX5_addDigit_6 rfl hl (Nat.le_of_ble_eq_true rfl) rfl (fun ls hl => ?_)
  refine lv_aload_n hx hb dX5_addDigit_7 rfl (lv_at hl 1 rfl) ?_
  refine rx_get hx hb hts fiX5_addDigit_X5 hown hK hP 0 rfl rfl 3 (Nat.le_of_ble_eq_true rfl) fl_21 rfl rfl dX5_addDigit_8 ?_
  refine lv_iload_n hx hb dX5_addDigit_11 rfl (lv_at hl 0 rfl) ?_
  refine lv_sipush (v := 10000) hx hb dX5_addDigit_12 ks_10000 ?_
  refine lv_bipush (v := 10) hx hb dX5_addDigit_15 kb_10 ?_
  refine lv_aload_n hx hb dX5_addDigit_17 rfl (lv_at hl 1 rfl) ?_
  refine rx_get hx hb hts fiX5_addDigit_X5 hown hK hP 0 rfl rfl 3 (Nat.le_of_ble_eq_true rfl) fl_21 rfl rfl dX5_addDigit_18 ?_
  refine lv_iload_n hx hb dX5_addDigit_21 rfl (lv_at hl 0 rfl) ?_
  refine rx_iald hx hb hK hP 4 0 rfl rfl hd dX5_addDigit_22 (fun v22 hd => ?_)
  refine lv_imul hx hb dX5_addDigit_23 ?_
  refine lv_iload_n hx hb dX5_addDigit_24 rfl (lv_at hl 2 rfl) ?_
  refine lv_iadd hx hb dX5_addDigit_25 ?_
  refine va_mmin hx hb (hml.trans hl.1.symm) hown (hts _ (List.mem_of_getElem? (i := 3) rfl)) (hts _ (List.mem_of_getElem? (i := 4) rfl)) (hts _ (List.mem_of_getElem? (i := 5) rfl)) (hts _ (List.mem_of_getElem? (i := 6) rfl)) (Nat.le_of_ble_eq_true rfl) (Nat.le_of_ble_eq_true rfl) (Nat.zero_le _) (Nat.zero_le _) dX5_addDigit_26 ?_
  refine rx_iast (wTK cI cJ a_z (kuValues s_z (Int32.toNatClampNeg x2_6) (if (((10 : Int32) * v22) + x1) < (10000 : Int32) then (((10 : Int32) * v22) + x1) else (10000 : Int32)))) hx hb hK hP hD hS 4 0 rfl rfl hd (wTK_uValues ..) dX5_addDigit_29 (fun hd H locs hP hD hS => ?_)
  exact rx_retUv (u := (kuValues s_z (Int32.toNatClampNeg x2_6) (if (((10 : Int32) * v22) + x1) < (10000 : Int32) then (((10 : Int32) * v22) + x1) else (10000 : Int32)))) (w1 := (fun u : TKS => (wTK cI cJ a_z u))) hx hb hr hlocks hd hK hP hD hS dX5_addDigit_30
theorem fiX5_scan_X4 : ∀ w ∈ wsX40, w ∈ wsX5_scan := mem_r _ [30, 31] rfl
theorem fiX5_scan_X5 : ∀ w ∈ wsX50, w ∈ wsX5_scan := mem_r _ [32, 33, 34, 35, 36, 37, 38] rfl
set_option maxHeartbeats 8000000 in
set_option maxRecDepth 100000 in
theorem c_X5_scan (l : Launch) (dC : Nat → ClassId) (dI : Nat → Nat → Nat) (cI cJ cQ : ClassId) (fu : Nat) (a_z : Nat → Nat) (a_p : Nat → Nat) (sz : Nat) (s_z : TKS) (s_p : TPS)  (r : TKS) (hd : fX5_scan fu  s_z s_p  = some r) : mUv l yX5_scan wsX5_scan (gRm 2 43) [.ref (a_z 0), .ref (a_p 0)] (dC, dI) vwCl (gty cI cJ cQ) (wTK cI cJ a_z s_z ++ (wTP cI cJ a_p s_p)) sz (fun u : TKS => (wTK cI cJ a_z u ++ (wTP cI cJ a_p s_p))) r := by
  refine Met.ofW (cc := cX5_scan) (maxL := 6) (ret := none) (by decide) rfl ?_
  intro p e s m args below meth c s₁ B hml hv
  obtain ⟨hav, hsz, hP, hK, hD0⟩ := hv
  subst hsz
  have hD := hD0.self (sz := s.heap.size)
  generalize hAe : va_A (wTK cI cJ a_z s_z ++ (wTP cI cJ a_p s_p)) s.heap.size = A at hD ⊢
  have hA : ∀ q : Nat, s.heap.size ≤ q → A q := fun q h => by rw [← hAe]; exact Or.inr h
  have hS : va_S A s.heap s.heap [] := va_S.rf
  have hx := B.exec
  have hb := B.bytes
  have hr := B.returns
  have hts := atoms_spec (ws := wsX5_scan) B.pre
  have hown : s.vm.findClass RX5 = some m.cls := findClass_of_methodNamed B.named
  have hlocks := B.notSynchronized
  have hcf : CallFix p m c cX5_scan 6 s args wsX5_scan RX5 := ⟨hx, hb, hml, hown, hts⟩
  have fl_34 := hts (.fieldLink RX5 34 "BucketGift$Tape" "bytes" "[I") (List.mem_of_getElem? (i := 1) rfl)
  have fl_24 := hts (.fieldLink RX5 24 "BucketGift$Tokens" "bytes" "[I") (List.mem_of_getElem? (i := 2) rfl)
  have fl_35 := hts (.fieldLink RX5 35 "BucketGift$Tape" "length" "I") (List.mem_of_getElem? (i := 3) rfl)
  have fl_27 := hts (.fieldLink RX5 27 "BucketGift$Tokens" "many" "I") (List.mem_of_getElem? (i := 8) rfl)
  have fl_31 := hts (.fieldLink RX5 31 "BucketGift$Tokens" "at" "I") (List.mem_of_getElem? (i := 9) rfl)
  have fl_18 := hts (.fieldLink RX5 18 "BucketGift$Tokens" "lengths" "[I") (List.mem_of_getElem? (i := 10) rfl)
  have hg : entryFrame m args 6 = entryFrame m ([.ref (a_z 0), .ref (a_p 0)] : List Value).toArray 6 := by rw [hav]
  rw [hg, lg_entry_eq]
  have hl := lv_entry ([.ref (a_z 0), .ref (a_p 0)]) (n := 6) (Nat.le_of_ble_eq_true rfl)
  generalize (lg_sl ([.ref (a_z 0), .ref (a_p 0)]) ++ List.replicate (6 - (lg_sl ([.ref (a_z 0), .ref (a_p 0)])).length) Slot.unset).toArray = ls at hl ⊢
  have hl : lv_has ls 6 [(0, .ref (a_z 0)), (1, .ref (a_p 0))] := hl
  clear hg
  unfold fX5_scan at hd
  have b112 : ∀ (K31 : TKS → Int32 → Int32 → Option (TKS)) (k31 : ∀ (s_z : TKS) (x2 : Int32) (x3 : Int32), K31 s_z x2 x3 = some r → bk_U p l e (headSpec wsX5_scan (gRm 2 43)).room s m args below meth c (qUv below args s (dC, dI) vwCl (gty cI cJ cQ) A (fun u : TKS => (wTK cI cJ a_z u ++ (wTP cI cJ a_p s_p))) r) (dC, dI) vwCl A 6 (wTK cI cJ a_z s_z ++ (wTP cI cJ a_p s_p)) 31 [(0, .ref (a_z 0)), (1, .ref (a_p 0)), (2, .int x2), (3, .int x3)] []), ∀ (s_z : TKS) (x3 : Int32) (x4 : Int32), fX5_scan_b112 fu s_p K31  s_z x3 x4 = some r → bk_U p l e (headSpec wsX5_scan (gRm 2 43)).room s m args below meth c (qUv below args s (dC, dI) vwCl (gty cI cJ cQ) A (fun u : TKS => (wTK cI cJ a_z u ++ (wTP cI cJ a_p s_p))) r) (dC, dI) vwCl A 6 (wTK cI cJ a_z s_z ++ (wTP cI cJ a_p s_p)) 112 [(0, .ref (a_z 0)), (1, .ref (a_p 0)), (3, .int x3), (4, .int x4)] [] := by
    intro K31 k31
    intro s_z x3 x4 hd
    intro H locs ls hP hD hS hl
    unfold fX5_scan_b112 at hd
    refine lv_iload hx hb dX5_scan_112 (lv_at hl 3 rfl) ?_
    refine lv_iconst (v := 2) hx hb dX5_scan_114 ki_2 ?_
    refine rx_icmp_ne hx hb 131 dX5_scan_115 rfl hd (fun hd => ?_) (fun hd => ?_)
    · refine lv_iload hx hb dX5_scan_131 (lv_at hl 3 rfl) ?_
      refine lv_istore_n (lv' := [(2, .int x4), (0, .ref (a_z 0)), (1, .ref (a_p 0)), (3, .int x3), (4, .int x4)]) hx hb dX5_scan_133 rfl hl (Nat.le_of_ble_eq_true rfl) rfl (fun ls hl => ?_)
      refine rx_iinc (lv' := fun z => (3, .int z) :: [(2, .int x4), (0, .ref (a_z 0)), (1, .ref (a_p 0)), (4, .int x4)]) hx hb (j := 3) dX5_scan_134 hl rfl ki_1 hd (Nat.le_of_ble_eq_true rfl) (fun _ => rfl) (fun x3_134 hd ls hl => ?_)
      refine lv_goto (tgt := 31) hx hb dX5_scan_137 rfl ?_
      exact k31 s_z x4 x3_134 hd _ _ _ hP hD hS (lv_sub hl [2, 3, 1, 0] rfl)
    refine lv_aload_n hx hb dX5_scan_118 rfl (lv_at hl 0 rfl) ?_
    refine lv_aload_n hx hb dX5_scan_119 rfl (lv_at hl 0 rfl) ?_
    refine rx_get hx hb hts fiX5_scan_X5 hown hK hP 0 rfl rfl 4 (Nat.le_of_ble_eq_true rfl) fl_24 rfl rfl dX5_scan_120 ?_
    refine lv_iload_n hx hb dX5_scan_123 rfl (lv_at hl 2 rfl) ?_
    refine rx_iald hx hb hK hP 5 0 rfl rfl hd dX5_scan_124 (fun v124 hd => ?_)
    refine lv_bipush (v := 48) hx hb dX5_scan_125 kb_48 ?_
    refine lv_isub hx hb dX5_scan_127 ?_
    refine rx_upv (fun u => (wTK cI cJ a_z u ++ (wTP cI cJ a_p s_p))) hd hP hD hS hA ⟨[0, 1, 2, 3, 4, 5], [6, 7], [2, 3, 4, 5, 6, 7, 0, 1], wTP cI cJ a_p s_p, rfl, rfl, rfl, by decide, rfl, fun _ => rfl⟩ (fun v hv => va_runV (As := [.int (v124 - (48 : Int32))]) (rest := []) hcf (c_X5_addDigit l dC dI cI cJ cQ fu a_z _  s_z (v124 - (48 : Int32)) v hv) (cwV 1 hts gX5_scan_X5_addDigit rfl rfl rfl cd_X5_addDigit ⟨(Nat.le_of_ble_eq_true rfl), (Nat.le_of_ble_eq_true rfl)⟩) (cq_U_V (q0 := 0) (ci := 4) hK hP hD [0, 1, 2, 3, 4, 5] rfl rfl rfl rfl) rfl rfl hl.1 rfl (lv_room (Nat.le_of_ble_eq_true rfl)) dX5_scan_128 ⟨Nat.le_refl _, Nat.le_refl _⟩) (fun u128 hd H locs hP hD hS => ?_)
    refine lv_iload hx hb dX5_scan_131 (lv_at hl 3 rfl) ?_
    refine lv_istore_n (lv' := [(2, .int x4), (0, .ref (a_z 0)), (1, .ref (a_p 0)), (3, .int x3), (4, .int x4)]) hx hb dX5_scan_133 rfl hl (Nat.le_of_ble_eq_true rfl) rfl (fun ls hl => ?_)
    refine rx_iinc (lv' := fun z => (3, .int z) :: [(2, .int x4), (0, .ref (a_z 0)), (1, .ref (a_p 0)), (4, .int x4)]) hx hb (j := 3) dX5_scan_134 hl rfl ki_1 hd (Nat.le_of_ble_eq_true rfl) (fun _ => rfl) (fun x3_134 hd ls hl => ?_)
    refine lv_goto (tgt := 31) hx hb dX5_scan_137 rfl ?_
    exact k31 u128 x4 x3_134 hd _ _ _ hP hD hS (lv_sub hl [2, 3, 1, 0] rfl)
  have b92 : ∀ (K31 : TKS → Int32 → Int32 → Option (TKS)) (k31 : ∀ (s_z : TKS) (x2 : Int32) (x3 : Int32), K31 s_z x2 x3 = some r → bk_U p l e (headSpec wsX5_scan (gRm 2 43)).room s m args below meth c (qUv below args s (dC, dI) vwCl (gty cI cJ cQ) A (fun u : TKS => (wTK cI cJ a_z u ++ (wTP cI cJ a_p s_p))) r) (dC, dI) vwCl A 6 (wTK cI cJ a_z s_z ++ (wTP cI cJ a_p s_p)) 31 [(0, .ref (a_z 0)), (1, .ref (a_p 0)), (2, .int x2), (3, .int x3)] []), ∀ (s_z : TKS) (x3 : Int32) (x4 : Int32) (x5 : Int32), fX5_scan_b92 fu s_p K31  s_z x3 x4 x5 = some r → bk_U p l e (headSpec wsX5_scan (gRm 2 43)).room s m args below meth c (qUv below args s (dC, dI) vwCl (gty cI cJ cQ) A (fun u : TKS => (wTK cI cJ a_z u ++ (wTP cI cJ a_p s_p))) r) (dC, dI) vwCl A 6 (wTK cI cJ a_z s_z ++ (wTP cI cJ a_p s_p)) 92 [(0, .ref (a_z 0)), (1, .ref (a_p 0)), (3, .int x3), (4, .int x4), (5, .int x5)] [] := by
    intro K31 k31
    intro s_z x3 x4 x5 hd
    intro H locs ls hP hD hS hl
    unfold fX5_scan_b92 at hd
    refine lv_iload hx hb dX5_scan_92 (lv_at hl 4 rfl) ?_
    refine rx_if_eq hx hb 112 dX5_scan_94 rfl hd (fun hd => ?_) (fun hd => ?_)
    · exact b112  _ k31 s_z x3 x4 hd _ _ _ hP hD hS (lv_sub hl [0, 1, 2, 3] rfl)
    refine lv_aload_n hx hb dX5_scan_97 rfl (lv_at hl 0 rfl) ?_
    refine rx_get hx hb hts fiX5_scan_X5 hown hK hP 0 rfl rfl 2 (Nat.le_of_ble_eq_true rfl) fl_18 rfl rfl dX5_scan_98 ?_
    refine lv_aload_n hx hb dX5_scan_101 rfl (lv_at hl 0 rfl) ?_
    refine rx_get hx hb hts fiX5_scan_X5 hown hK hP 0 rfl rfl 5 (Nat.le_of_ble_eq_true rfl) fl_27 rfl rfl dX5_scan_102 ?_
    refine lv_iconst (v := 1) hx hb dX5_scan_105 ki_1 ?_
    refine lv_isub hx hb dX5_scan_106 ?_
    refine lv_dup2_11 hx hb dX5_scan_107 rfl rfl ?_
    refine rx_iald hx hb hK hP 3 0 rfl rfl hd dX5_scan_108 (fun v108 hd => ?_)
    refine lv_iconst (v := 1) hx hb dX5_scan_109 ki_1 ?_
    refine lv_iadd hx hb dX5_scan_110 ?_
    refine rx_iast (wTK cI cJ a_z (kuLengths s_z (Int32.toNatClampNeg ((kgMany s_z) - (1 : Int32))) (v108 + (1 : Int32))) ++ (wTP cI cJ a_p s_p)) hx hb hK hP hD hS 3 0 rfl rfl hd (g_setL (Nat.le_of_ble_eq_true rfl) (wTK_uLengths ..)) dX5_scan_111 (fun hd H locs hP hD hS => ?_)
    exact b112  _ k31 (kuLengths s_z (Int32.toNatClampNeg ((kgMany s_z) - (1 : Int32))) (v108 + (1 : Int32))) x3 x4 hd _ _ _ hP hD hS (lv_sub hl [0, 1, 2, 3] rfl)
  have b73 : ∀ (K31 : TKS → Int32 → Int32 → Option (TKS)) (k31 : ∀ (s_z : TKS) (x2 : Int32) (x3 : Int32), K31 s_z x2 x3 = some r → bk_U p l e (headSpec wsX5_scan (gRm 2 43)).room s m args below meth c (qUv below args s (dC, dI) vwCl (gty cI cJ cQ) A (fun u : TKS => (wTK cI cJ a_z u ++ (wTP cI cJ a_p s_p))) r) (dC, dI) vwCl A 6 (wTK cI cJ a_z s_z ++ (wTP cI cJ a_p s_p)) 31 [(0, .ref (a_z 0)), (1, .ref (a_p 0)), (2, .int x2), (3, .int x3)] []), ∀ (s_z : TKS) (x3 : Int32) (x4 : Int32) (y0 : Int32), fX5_scan_b73 fu s_p K31  s_z x3 x4 y0 = some r → bk_U p l e (headSpec wsX5_scan (gRm 2 43)).room s m args below meth c (qUv below args s (dC, dI) vwCl (gty cI cJ cQ) A (fun u : TKS => (wTK cI cJ a_z u ++ (wTP cI cJ a_p s_p))) r) (dC, dI) vwCl A 6 (wTK cI cJ a_z s_z ++ (wTP cI cJ a_p s_p)) 73 [(0, .ref (a_z 0)), (1, .ref (a_p 0)), (3, .int x3), (4, .int x4)] [.int y0] := by
    intro K31 k31
    intro s_z x3 x4 y0 hd
    intro H locs ls hP hD hS hl
    unfold fX5_scan_b73 at hd
    refine lv_istore (lv' := [(5, .int y0), (0, .ref (a_z 0)), (1, .ref (a_p 0)), (3, .int x3), (4, .int x4)]) hx hb dX5_scan_73 hl (Nat.le_of_ble_eq_true rfl) rfl (fun ls hl => ?_)
    refine lv_iload hx hb dX5_scan_75 (lv_at hl 4 rfl) ?_
    refine rx_if_eq hx hb 92 dX5_scan_77 rfl hd (fun hd => ?_) (fun hd => ?_)
    · exact b92  _ k31 s_z x3 x4 y0 hd _ _ _ hP hD hS (lv_sub hl [1, 2, 3, 4, 0] rfl)
    refine lv_iload hx hb dX5_scan_80 (lv_at hl 0 rfl) ?_
    refine rx_if_ne hx hb 92 dX5_scan_82 rfl hd (fun hd => ?_) (fun hd => ?_)
    · exact b92  _ k31 s_z x3 x4 y0 hd _ _ _ hP hD hS (lv_sub hl [1, 2, 3, 4, 0] rfl)
    refine lv_aload_n hx hb dX5_scan_85 rfl (lv_at hl 1 rfl) ?_
    refine lv_iload hx hb dX5_scan_86 (lv_at hl 4 rfl) ?_
    refine lv_iload_n hx hb dX5_scan_88 rfl (lv_at hl 3 rfl) ?_
    refine rx_upv (fun u => (wTK cI cJ a_z u ++ (wTP cI cJ a_p s_p))) hd hP hD hS hA ⟨[0, 1, 2, 3, 4, 5], [6, 7], [2, 3, 4, 5, 6, 7, 0, 1], wTP cI cJ a_p s_p, rfl, rfl, rfl, by decide, rfl, fun _ => rfl⟩ (fun v hv => va_runV (As := [.int x4, .int x3]) (rest := []) hcf (c_X5_begin l dC dI cI cJ cQ fu a_z _  s_z x4 x3 v hv) (cwV 2 hts gX5_scan_X5_begin rfl rfl rfl cd_X5_begin ⟨(Nat.le_of_ble_eq_true rfl), (Nat.le_of_ble_eq_true rfl)⟩) (cq_U_V (q0 := 0) (ci := 4) hK hP hD [0, 1, 2, 3, 4, 5] rfl rfl rfl rfl) rfl rfl hl.1 rfl (lv_room (Nat.le_of_ble_eq_true rfl)) dX5_scan_89 ⟨Nat.le_refl _, Nat.le_refl _⟩) (fun u89 hd H locs hP hD hS => ?_)
    exact b92  _ k31 u89 x3 x4 y0 hd _ _ _ hP hD hS (lv_sub hl [1, 2, 3, 4, 0] rfl)
  have b31 : ∀ (s_z : TKS) (x2 : Int32) (x3 : Int32), fX5_scan_b31 fu s_p    s_z x2 x3 = some r → bk_U p l e (headSpec wsX5_scan (gRm 2 43)).room s m args below meth c (qUv below args s (dC, dI) vwCl (gty cI cJ cQ) A (fun u : TKS => (wTK cI cJ a_z u ++ (wTP cI cJ a_p s_p))) r) (dC, dI) vwCl A 6 (wTK cI cJ a_z s_z ++ (wTP cI cJ a_p s_p)) 31 [(0, .ref (a_z 0)), (1, .ref (a_p 0)), (2, .int x2), (3, .int x3)] [] := by
    have L : ∀ (n : Nat) (s_z : TKS) (x2 : Int32) (x3 : Int32), g_lp (fun _ _ _ => none) (fX5_scan_b31B fu s_p   ) n s_z x2 x3 = some r → bk_U p l e (headSpec wsX5_scan (gRm 2 43)).room s m args below meth c (qUv below args s (dC, dI) vwCl (gty cI cJ cQ) A (fun u : TKS => (wTK cI cJ a_z u ++ (wTP cI cJ a_p s_p))) r) (dC, dI) vwCl A 6 (wTK cI cJ a_z s_z ++ (wTP cI cJ a_p s_p)) 31 [(0, .ref (a_z 0)), (1, .ref (a_p 0)), (2, .int x2), (3, .int x3)] [] := by
      intro n
      induction n with
      | zero => intro s_z x2 x3 hd; exact absurd hd (by intro h; cases h)
      | succ n k31 =>
        intro s_z x2 x3 hd
        intro H locs ls hP hD hS hl
        have hd : fX5_scan_b31B fu s_p    (g_lp (fun _ _ _ => none) (fX5_scan_b31B fu s_p   ) n) s_z x2 x3 = some r := hd
        unfold fX5_scan_b31B at hd
        refine lv_iload_n hx hb dX5_scan_31 rfl (lv_at hl 3 rfl) ?_
        refine lv_aload_n hx hb dX5_scan_32 rfl (lv_at hl 1 rfl) ?_
        refine rx_get hx hb hts fiX5_scan_X4 hown hK hP 6 rfl rfl 1 (Nat.le_of_ble_eq_true rfl) fl_35 rfl rfl dX5_scan_33 ?_
        refine rx_icmp_ge hx hb 140 dX5_scan_36 rfl hd (fun hd => ?_) (fun hd => ?_)
        · refine lv_aload_n hx hb dX5_scan_140 rfl (lv_at hl 0 rfl) ?_
          refine lv_iconst (v := 5) hx hb dX5_scan_141 ki_5 ?_
          refine lv_aload_n hx hb dX5_scan_142 rfl (lv_at hl 1 rfl) ?_
          refine rx_get hx hb hts fiX5_scan_X4 hown hK hP 6 rfl rfl 1 (Nat.le_of_ble_eq_true rfl) fl_35 rfl rfl dX5_scan_143 ?_
          refine rx_upv (fun u => (wTK cI cJ a_z u ++ (wTP cI cJ a_p s_p))) hd hP hD hS hA ⟨[0, 1, 2, 3, 4, 5], [6, 7], [2, 3, 4, 5, 6, 7, 0, 1], wTP cI cJ a_p s_p, rfl, rfl, rfl, by decide, rfl, fun _ => rfl⟩ (fun v hv => va_runV (As := [.int (5 : Int32), .int (tgLength s_p)]) (rest := []) hcf (c_X5_begin l dC dI cI cJ cQ fu a_z _  s_z (5 : Int32) (tgLength s_p) v hv) (cwV 2 hts gX5_scan_X5_begin rfl rfl rfl cd_X5_begin ⟨(Nat.le_of_ble_eq_true rfl), (Nat.le_of_ble_eq_true rfl)⟩) (cq_U_V (q0 := 0) (ci := 4) hK hP hD [0, 1, 2, 3, 4, 5] rfl rfl rfl rfl) rfl rfl hl.1 rfl (lv_room (Nat.le_of_ble_eq_true rfl)) dX5_scan_146 ⟨Nat.le_refl _, Nat.le_refl _⟩) (fun u146 hd H locs hP hD hS => ?_)
          exact rx_retUv (u := u146) (w1 := (fun u : TKS => (wTK cI cJ a_z u ++ (wTP cI cJ a_p s_p)))) hx hb hr hlocks hd hK hP hD hS dX5_scan_149
        refine lv_aload_n hx hb dX5_scan_39 rfl (lv_at hl 0 rfl) ?_
        refine rx_get hx hb hts fiX5_scan_X5 hown hK hP 0 rfl rfl 4 (Nat.le_of_ble_eq_true rfl) fl_24 rfl rfl dX5_scan_40 ?_
        refine lv_iload_n hx hb dX5_scan_43 rfl (lv_at hl 3 rfl) ?_
        refine rx_iald hx hb hK hP 5 0 rfl rfl hd dX5_scan_44 (fun v44 hd => ?_)
        refine rx_roi hd (fun v hv => W.runS (As := [.int v44]) (rest := []) hcf (c_X5_sortOf l dC dI cI cJ cQ fu    v44 v hv) (va_cwS 1 hts gX5_scan_X5_sortOf rfl rfl rfl cd_X5_sortOf ⟨(Nat.le_of_ble_eq_true rfl), (Nat.le_of_ble_eq_true rfl)⟩) (cq_R_S hK hP [] rfl) rfl rfl hl.1 rfl (lv_room (Nat.le_of_ble_eq_true rfl)) dX5_scan_45 ⟨Nat.le_refl _, Nat.le_refl _⟩) (fun u45 hd => ?_)
        refine lv_istore (lv' := [(4, .int u45), (0, .ref (a_z 0)), (1, .ref (a_p 0)), (2, .int x2), (3, .int x3)]) hx hb dX5_scan_48 hl (Nat.le_of_ble_eq_true rfl) rfl (fun ls hl => ?_)
        refine lv_iload hx hb dX5_scan_50 (lv_at hl 0 rfl) ?_
        refine lv_iload_n hx hb dX5_scan_52 rfl (lv_at hl 3 rfl) ?_
        refine rx_icmp_ne hx hb 72 dX5_scan_53 rfl hd (fun hd => ?_) (fun hd => ?_)
        · refine lv_iconst (v := 0) hx hb dX5_scan_72 ki_0 ?_
          exact b73  _ k31 s_z x3 u45 (0 : Int32) hd _ _ _ hP hD hS (lv_sub hl [1, 2, 4, 0] rfl)
        refine lv_iload hx hb dX5_scan_56 (lv_at hl 0 rfl) ?_
        refine lv_iconst (v := 1) hx hb dX5_scan_58 ki_1 ?_
        refine rx_icmp_eq hx hb 68 dX5_scan_59 rfl hd (fun hd => ?_) (fun hd => ?_)
        · refine lv_iconst (v := 1) hx hb dX5_scan_68 ki_1 ?_
          refine lv_goto (tgt := 73) hx hb dX5_scan_69 rfl ?_
          exact b73  _ k31 s_z x3 u45 (1 : Int32) hd _ _ _ hP hD hS (lv_sub hl [1, 2, 4, 0] rfl)
        refine lv_iload hx hb dX5_scan_62 (lv_at hl 0 rfl) ?_
        refine lv_iconst (v := 2) hx hb dX5_scan_64 ki_2 ?_
        refine rx_icmp_ne hx hb 72 dX5_scan_65 rfl hd (fun hd => ?_) (fun hd => ?_)
        · refine lv_iconst (v := 0) hx hb dX5_scan_72 ki_0 ?_
          exact b73  _ k31 s_z x3 u45 (0 : Int32) hd _ _ _ hP hD hS (lv_sub hl [1, 2, 4, 0] rfl)
        refine lv_iconst (v := 1) hx hb dX5_scan_68 ki_1 ?_
        refine lv_goto (tgt := 73) hx hb dX5_scan_69 rfl ?_
        exact b73  _ k31 s_z x3 u45 (1 : Int32) hd _ _ _ hP hD hS (lv_sub hl [1, 2, 4, 0] rfl)
    exact fun s_z x2 x3 => L fu s_z x2 x3
  refine lv_aload_n hx hb dX5_scan_0 rfl (lv_at hl 1 rfl) ?_
  refine rx_get hx hb hts fiX5_scan_X4 hown hK hP 6 rfl rfl 0 (Nat.le_of_ble_eq_true rfl) fl_34 rfl rfl dX5_scan_1 ?_
  refine lv_iconst (v := 0) hx hb dX5_scan_4 ki_0 ?_
  refine lv_aload_n hx hb dX5_scan_5 rfl (lv_at hl 0 rfl) ?_
  refine rx_get hx hb hts fiX5_scan_X5 hown hK hP 0 rfl rfl 4 (Nat.le_of_ble_eq_true rfl) fl_24 rfl rfl dX5_scan_6 ?_
  refine lv_iconst (v := 0) hx hb dX5_scan_9 ki_0 ?_
  refine lv_aload_n hx hb dX5_scan_10 rfl (lv_at hl 1 rfl) ?_
  refine rx_get hx hb hts fiX5_scan_X4 hown hK hP 6 rfl rfl 1 (Nat.le_of_ble_eq_true rfl) fl_35 rfl rfl dX5_scan_11 ?_
  refine rx_copyi (wTK cI cJ a_z (ksBytes s_z (va_cpy (tgBytes s_p) (kgBytes s_z) (Int32.toNatClampNeg (0 : Int32)) (Int32.toNatClampNeg (0 : Int32)) (Int32.toNatClampNeg (tgLength s_p)))) ++ (wTP cI cJ a_p s_p)) hx hb (hml.trans hl.1.symm) hown (hts _ (List.mem_of_getElem? (i := 4) rfl)) (hts _ (List.mem_of_getElem? (i := 5) rfl)) (hts _ (List.mem_of_getElem? (i := 6) rfl)) (hts _ (List.mem_of_getElem? (i := 7) rfl)) hK hP hD hS 7 5 0 rfl rfl rfl hd (g_setL (Nat.le_of_ble_eq_true rfl) (wTK_fBytes ..)) (Nat.le_of_ble_eq_true rfl) (Nat.le_of_ble_eq_true rfl) dX5_scan_14 (fun hd H locs hP hD hS => ?_)
  refine lv_aload_n hx hb dX5_scan_17 rfl (lv_at hl 0 rfl) ?_
  refine lv_iconst (v := 0) hx hb dX5_scan_18 ki_0 ?_
  refine rx_puti (wTK cI cJ a_z (ksMany (ksBytes s_z (va_cpy (tgBytes s_p) (kgBytes s_z) (Int32.toNatClampNeg (0 : Int32)) (Int32.toNatClampNeg (0 : Int32)) (Int32.toNatClampNeg (tgLength s_p)))) (0 : Int32)) ++ (wTP cI cJ a_p s_p)) hx hb hts fiX5_scan_X5 tyX5 tyX5_ok nmX5 hown hK hP hD hS 0 rfl rfl 5 (Nat.le_of_ble_eq_true rfl) fl_27 rfl rfl rfl (Nat.le_of_ble_eq_true rfl) (g_setL (Nat.le_of_ble_eq_true rfl) (wTK_sMany ..)) dX5_scan_19 (fun H locs hP hD hS => ?_)
  refine lv_aload_n hx hb dX5_scan_22 rfl (lv_at hl 0 rfl) ?_
  refine lv_iconst (v := 0) hx hb dX5_scan_23 ki_0 ?_
  refine rx_puti (wTK cI cJ a_z (ksAt (ksMany (ksBytes s_z (va_cpy (tgBytes s_p) (kgBytes s_z) (Int32.toNatClampNeg (0 : Int32)) (Int32.toNatClampNeg (0 : Int32)) (Int32.toNatClampNeg (tgLength s_p)))) (0 : Int32)) (0 : Int32)) ++ (wTP cI cJ a_p s_p)) hx hb hts fiX5_scan_X5 tyX5 tyX5_ok nmX5 hown hK hP hD hS 0 rfl rfl 6 (Nat.le_of_ble_eq_true rfl) fl_31 rfl rfl rfl (Nat.le_of_ble_eq_true rfl) (g_setL (Nat.le_of_ble_eq_true rfl) (wTK_sAt ..)) dX5_scan_24 (fun H locs hP hD hS => ?_)
  refine lv_iconst (v := 0) hx hb dX5_scan_27 ki_0 ?_
  refine lv_istore_n (lv' := [(2, .int (0 : Int32)), (0, .ref (a_z 0)), (1, .ref (a_p 0))]) hx hb dX5_scan_28 rfl hl (Nat.le_of_ble_eq_true rfl) rfl (fun ls hl => ?_)
  refine lv_iconst (v := 0) hx hb dX5_scan_29 ki_0 ?_
  refine lv_istore_n (lv' := [(3, .int (0 : Int32)), (2, .int (0 : Int32)), (0, .ref (a_z 0)), (1, .ref (a_p 0))]) hx hb dX5_scan_30 rfl hl (Nat.le_of_ble_eq_true rfl) rfl (fun ls hl => ?_)
  exact b31   (ksAt (ksMany (ksBytes s_z (va_cpy (tgBytes s_p) (kgBytes s_z) (Int32.toNatClampNeg (0 : Int32)) (Int32.toNatClampNeg (0 : Int32)) (Int32.toNatClampNeg (tgLength s_p)))) (0 : Int32)) (0 : Int32)) (0 : Int32) (0 : Int32) hd _ _ _ hP hD hS (lv_sub hl [2, 3, 1, 0] rfl)
theorem fiX5_isAtWord_X5 : ∀ w ∈ wsX50, w ∈ wsX5_isAtWord := mem_r _ [55, 56, 57, 58, 59, 60, 61] rfl
set_option maxHeartbeats 8000000 in
set_option maxRecDepth 100000 in
theorem c_X5_isAtWord (l : Launch) (dC : Nat → ClassId) (dI : Nat → Nat → Nat) (cI cJ cQ : ClassId) (fu : Nat) (gz : GZ) (a_z : Nat → Nat) (w : Nat) (s_z : TKS)  (r : Int32) (hd : fX5_isAtWord fu w s_z  = some r) : mRi l yX5_isAtWord wsX5_isAtWord (gRm 5 106) [.ref (a_z 0), .ref (gz.2.2.1 w)] (cq_RG (dC, dI) vwCl (gty cI cJ cQ) (wTK cI cJ a_z s_z) gz) r := by
  refine Met.ofW (cc := cX5_isAtWord) (maxL := 3) (ret := (some .boolean)) (by decide) rfl ?_
  intro p e s m args below meth c s₁ B hml hv
  obtain ⟨hav, ⟨hP, hK⟩, hG⟩ := hv
  have hS : va_S (fun _ => False) s.heap s.heap [] := va_S.rf
  have hx := B.exec
  have hb := B.bytes
  have hr := B.returns
  have hts := atoms_spec (ws := wsX5_isAtWord) B.pre
  have hown : s.vm.findClass RX5 = some m.cls := findClass_of_methodNamed B.named
  have hlocks := B.notSynchronized
  have hcf : CallFix p m c cX5_isAtWord 3 s args wsX5_isAtWord RX5 := ⟨hx, hb, hml, hown, hts⟩
  have fl_9 := hts (.fieldLink RX5 9 "BucketGift$Tokens" "sorts" "[I") (List.mem_of_getElem? (i := 1) rfl)
  have fl_31 := hts (.fieldLink RX5 31 "BucketGift$Tokens" "at" "I") (List.mem_of_getElem? (i := 2) rfl)
  have fl_18 := hts (.fieldLink RX5 18 "BucketGift$Tokens" "lengths" "[I") (List.mem_of_getElem? (i := 3) rfl)
  have fl_24 := hts (.fieldLink RX5 24 "BucketGift$Tokens" "bytes" "[I") (List.mem_of_getElem? (i := 4) rfl)
  have fl_15 := hts (.fieldLink RX5 15 "BucketGift$Tokens" "starts" "[I") (List.mem_of_getElem? (i := 5) rfl)
  have hg : entryFrame m args 3 = entryFrame m ([.ref (a_z 0), .ref (gz.2.2.1 w)] : List Value).toArray 3 := by rw [hav]
  rw [hg, lg_entry_eq]
  have hl := lv_entry ([.ref (a_z 0), .ref (gz.2.2.1 w)]) (n := 3) (Nat.le_of_ble_eq_true rfl)
  generalize (lg_sl ([.ref (a_z 0), .ref (gz.2.2.1 w)]) ++ List.replicate (3 - (lg_sl ([.ref (a_z 0), .ref (gz.2.2.1 w)])).length) Slot.unset).toArray = ls at hl ⊢
  have hl : lv_has ls 3 [(0, .ref (a_z 0)), (1, .ref (gz.2.2.1 w))] := hl
  clear hg
  unfold fX5_isAtWord at hd
  refine g_wc hd (fun hw hd => ?_)
  have b33 : ∀ (x2 : Int32), fX5_isAtWord_b33 fu w s_z    x2 = some r → bk_R p l e (headSpec wsX5_isAtWord (gRm 5 106)).room s m args below meth c (qRi below args s r) 3 33 [(0, .ref (a_z 0)), (1, .ref (gz.2.2.1 w)), (2, .int x2)] [] := by
    have L : ∀ (n : Nat) (x2 : Int32), g_lp (fun _ => none) (fX5_isAtWord_b33B fu w s_z   ) n x2 = some r → bk_R p l e (headSpec wsX5_isAtWord (gRm 5 106)).room s m args below meth c (qRi below args s r) 3 33 [(0, .ref (a_z 0)), (1, .ref (gz.2.2.1 w)), (2, .int x2)] [] := by
      intro n
      induction n with
      | zero => intro x2 hd; exact absurd hd (by intro h; cases h)
      | succ n k33 =>
        intro x2 hd
        intro ls hl
        have hd : fX5_isAtWord_b33B fu w s_z    (g_lp (fun _ => none) (fX5_isAtWord_b33B fu w s_z   ) n) x2 = some r := hd
        unfold fX5_isAtWord_b33B at hd
        refine lv_iload_n hx hb dX5_isAtWord_33 rfl (lv_at hl 2 rfl) ?_
        refine lv_aload_n hx hb dX5_isAtWord_34 rfl (lv_at hl 1 rfl) ?_
        refine rx_roi hd (fun v hv => W.runV (As := []) (rest := [.int x2]) hcf (c_J0_length_8abf5 l dC dI cI cJ cQ fu gz  w   v hv) (cwV 0 hts gX5_isAtWord_J0_length_8abf5 rfl rfl rfl cd_J0_length_8abf5 ⟨(Nat.le_of_ble_eq_true rfl), (Nat.le_of_ble_eq_true rfl)⟩) (cq_RG_T hw hG hS hK hP) rfl rfl hl.1 rfl (lv_room (Nat.le_of_ble_eq_true rfl)) dX5_isAtWord_35 ⟨Nat.le_refl _, Nat.le_refl _⟩) (fun u35 hd => ?_)
        refine rx_icmp_ge hx hb 73 dX5_isAtWord_38 rfl hd (fun hd => ?_) (fun hd => ?_)
        · refine lv_iconst (v := 1) hx hb dX5_isAtWord_73 ki_1 ?_
          exact rx_retRz hx hb hr hlocks hd dX5_isAtWord_74
        refine lv_aload_n hx hb dX5_isAtWord_41 rfl (lv_at hl 0 rfl) ?_
        refine rx_get hx hb hts fiX5_isAtWord_X5 hown hK hP 0 rfl rfl 4 (Nat.le_of_ble_eq_true rfl) fl_24 rfl rfl dX5_isAtWord_42 ?_
        refine lv_aload_n hx hb dX5_isAtWord_45 rfl (lv_at hl 0 rfl) ?_
        refine rx_get hx hb hts fiX5_isAtWord_X5 hown hK hP 0 rfl rfl 1 (Nat.le_of_ble_eq_true rfl) fl_15 rfl rfl dX5_isAtWord_46 ?_
        refine lv_aload_n hx hb dX5_isAtWord_49 rfl (lv_at hl 0 rfl) ?_
        refine rx_get hx hb hts fiX5_isAtWord_X5 hown hK hP 0 rfl rfl 6 (Nat.le_of_ble_eq_true rfl) fl_31 rfl rfl dX5_isAtWord_50 ?_
        refine rx_iald hx hb hK hP 2 0 rfl rfl hd dX5_isAtWord_53 (fun v53 hd => ?_)
        refine lv_iload_n hx hb dX5_isAtWord_54 rfl (lv_at hl 2 rfl) ?_
        refine lv_iadd hx hb dX5_isAtWord_55 ?_
        refine rx_iald hx hb hK hP 5 0 rfl rfl hd dX5_isAtWord_56 (fun v56 hd => ?_)
        refine lv_aload_n hx hb dX5_isAtWord_57 rfl (lv_at hl 1 rfl) ?_
        refine lv_iload_n hx hb dX5_isAtWord_58 rfl (lv_at hl 2 rfl) ?_
        refine rx_roi hd (fun v hv => W.runV (As := [.int x2]) (rest := [.int v56]) hcf (c_J0_charAt_5068e l dC dI cI cJ cQ fu gz  w  x2 v hv) (cwV 1 hts gX5_isAtWord_J0_charAt_5068e rfl rfl rfl cd_J0_charAt_5068e ⟨(Nat.le_of_ble_eq_true rfl), (Nat.le_of_ble_eq_true rfl)⟩) (cq_RG_T hw hG hS hK hP) rfl rfl hl.1 rfl (lv_room (Nat.le_of_ble_eq_true rfl)) dX5_isAtWord_59 ⟨Nat.le_refl _, Nat.le_refl _⟩) (fun u59 hd => ?_)
        refine rx_icmp_eq hx hb 67 dX5_isAtWord_62 rfl hd (fun hd => ?_) (fun hd => ?_)
        · refine rx_iinc (lv' := fun z => (2, .int z) :: [(0, .ref (a_z 0)), (1, .ref (gz.2.2.1 w))]) hx hb (j := 2) dX5_isAtWord_67 hl rfl ki_1 hd (Nat.le_of_ble_eq_true rfl) (fun _ => rfl) (fun x2_67 hd ls hl => ?_)
          refine lv_goto (tgt := 33) hx hb dX5_isAtWord_70 rfl ?_
          exact k33 x2_67 hd _ (lv_sub hl [1, 2, 0] rfl)
        refine lv_iconst (v := 0) hx hb dX5_isAtWord_65 ki_0 ?_
        exact rx_retRz hx hb hr hlocks hd dX5_isAtWord_66
    exact fun x2 => L fu x2
  refine lv_aload_n hx hb dX5_isAtWord_0 rfl (lv_at hl 0 rfl) ?_
  refine rx_get hx hb hts fiX5_isAtWord_X5 hown hK hP 0 rfl rfl 0 (Nat.le_of_ble_eq_true rfl) fl_9 rfl rfl dX5_isAtWord_1 ?_
  refine lv_aload_n hx hb dX5_isAtWord_4 rfl (lv_at hl 0 rfl) ?_
  refine rx_get hx hb hts fiX5_isAtWord_X5 hown hK hP 0 rfl rfl 6 (Nat.le_of_ble_eq_true rfl) fl_31 rfl rfl dX5_isAtWord_5 ?_
  refine rx_iald hx hb hK hP 1 0 rfl rfl hd dX5_isAtWord_8 (fun v8 hd => ?_)
  refine lv_iconst (v := 1) hx hb dX5_isAtWord_9 ki_1 ?_
  refine rx_icmp_ne hx hb 29 dX5_isAtWord_10 rfl hd (fun hd => ?_) (fun hd => ?_)
  · refine lv_iconst (v := 0) hx hb dX5_isAtWord_29 ki_0 ?_
    exact rx_retRz hx hb hr hlocks hd dX5_isAtWord_30
  refine lv_aload_n hx hb dX5_isAtWord_13 rfl (lv_at hl 0 rfl) ?_
  refine rx_get hx hb hts fiX5_isAtWord_X5 hown hK hP 0 rfl rfl 2 (Nat.le_of_ble_eq_true rfl) fl_18 rfl rfl dX5_isAtWord_14 ?_
  refine lv_aload_n hx hb dX5_isAtWord_17 rfl (lv_at hl 0 rfl) ?_
  refine rx_get hx hb hts fiX5_isAtWord_X5 hown hK hP 0 rfl rfl 6 (Nat.le_of_ble_eq_true rfl) fl_31 rfl rfl dX5_isAtWord_18 ?_
  refine rx_iald hx hb hK hP 3 0 rfl rfl hd dX5_isAtWord_21 (fun v21 hd => ?_)
  refine lv_aload_n hx hb dX5_isAtWord_22 rfl (lv_at hl 1 rfl) ?_
  refine rx_roi hd (fun v hv => W.runV (As := []) (rest := [.int v21]) hcf (c_J0_length_8abf5 l dC dI cI cJ cQ fu gz  w   v hv) (cwV 0 hts gX5_isAtWord_J0_length_8abf5 rfl rfl rfl cd_J0_length_8abf5 ⟨(Nat.le_of_ble_eq_true rfl), (Nat.le_of_ble_eq_true rfl)⟩) (cq_RG_T hw hG hS hK hP) rfl rfl hl.1 rfl (lv_room (Nat.le_of_ble_eq_true rfl)) dX5_isAtWord_23 ⟨Nat.le_refl _, Nat.le_refl _⟩) (fun u23 hd => ?_)
  refine rx_icmp_eq hx hb 31 dX5_isAtWord_26 rfl hd (fun hd => ?_) (fun hd => ?_)
  · refine lv_iconst (v := 0) hx hb dX5_isAtWord_31 ki_0 ?_
    refine lv_istore_n (lv' := [(2, .int (0 : Int32)), (0, .ref (a_z 0)), (1, .ref (gz.2.2.1 w))]) hx hb dX5_isAtWord_32 rfl hl (Nat.le_of_ble_eq_true rfl) rfl (fun ls hl => ?_)
    exact b33   (0 : Int32) hd _ (lv_sub hl [1, 2, 0] rfl)
  refine lv_iconst (v := 0) hx hb dX5_isAtWord_29 ki_0 ?_
  exact rx_retRz hx hb hr hlocks hd dX5_isAtWord_30
theorem fiX5_goOn_X5 : ∀ w ∈ wsX50, w ∈ wsX5_goOn := mem_r _ [3, 4, 5, 6, 7, 8, 9] rfl
set_option maxHeartbeats 8000000 in
set_option maxRecDepth 100000 in
theorem c_X5_goOn (l : Launch) (dC : Nat → ClassId) (dI : Nat → Nat → Nat) (cI cJ cQ : ClassId) (fu : Nat) (a_z : Nat → Nat) (sz : Nat) (s_z : TKS)  (r : TKS) (hd : fX5_goOn fu  s_z  = some r) : mUv l yX5_goOn wsX5_goOn (gRm 0 0) [.ref (a_z 0)] (dC, dI) vwCl (gty cI cJ cQ) (wTK cI cJ a_z s_z) sz (fun u : TKS => (wTK cI cJ a_z u)) r := by
  refine Met.ofW (cc := cX5_goOn) (maxL := 1) (ret := none) (by decide) rfl ?_
  intro p e s m args below meth c s₁ B hml hv
  obtain ⟨hav, hsz, hP, hK, hD0⟩ := hv
  subst hsz
  have hD := hD0.self (sz := s.heap.size)
  generalize hAe : va_A (wTK cI cJ a_z s_z) s.heap.size = A at hD ⊢
  have hA : ∀ q : Nat, s.heap.size ≤ q → A q := fun q h => by rw [← hAe]; exact Or.inr h
  have hS : va_S A s.heap s.heap [] := va_S.rf
  have hx := B.exec
  have hb := B.bytes
  have hr := B.returns
  have hts := atoms_spec (ws := wsX5_goOn) B.pre
  have hown : s.vm.findClass RX5 = some m.cls := findClass_of_methodNamed B.named
  have hlocks := B.notSynchronized
  have hcf : CallFix p m c cX5_goOn 1 s args wsX5_goOn RX5 := ⟨hx, hb, hml, hown, hts⟩
  have fl_31 := hts (.fieldLink RX5 31 "BucketGift$Tokens" "at" "I") (List.mem_of_getElem? (i := 1) rfl)
  have fl_27 := hts (.fieldLink RX5 27 "BucketGift$Tokens" "many" "I") (List.mem_of_getElem? (i := 2) rfl)
  have hg : entryFrame m args 1 = entryFrame m ([.ref (a_z 0)] : List Value).toArray 1 := by rw [hav]
  rw [hg, lg_entry_eq]
  have hl := lv_entry ([.ref (a_z 0)]) (n := 1) (Nat.le_of_ble_eq_true rfl)
  generalize (lg_sl ([.ref (a_z 0)]) ++ List.replicate (1 - (lg_sl ([.ref (a_z 0)])).length) Slot.unset).toArray = ls at hl ⊢
  have hl : lv_has ls 1 [(0, .ref (a_z 0))] := hl
  clear hg
  unfold fX5_goOn at hd
  refine lv_aload_n hx hb dX5_goOn_0 rfl (lv_at hl 0 rfl) ?_
  refine rx_get hx hb hts fiX5_goOn_X5 hown hK hP 0 rfl rfl 6 (Nat.le_of_ble_eq_true rfl) fl_31 rfl rfl dX5_goOn_1 ?_
  refine lv_aload_n hx hb dX5_goOn_4 rfl (lv_at hl 0 rfl) ?_
  refine rx_get hx hb hts fiX5_goOn_X5 hown hK hP 0 rfl rfl 5 (Nat.le_of_ble_eq_true rfl) fl_27 rfl rfl dX5_goOn_5 ?_
  refine lv_iconst (v := 1) hx hb dX5_goOn_8 ki_1 ?_
  refine lv_isub hx hb dX5_goOn_9 ?_
  refine rx_icmp_ge hx hb 23 dX5_goOn_10 rfl hd (fun hd => ?_) (fun hd => ?_)
  · exact rx_retUv (u := s_z) (w1 := (fun u : TKS => (wTK cI cJ a_z u))) hx hb hr hlocks hd hK hP hD hS dX5_goOn_23
  refine lv_aload_n hx hb dX5_goOn_13 rfl (lv_at hl 0 rfl) ?_
  refine lv_dup hx hb dX5_goOn_14 rfl ?_
  refine rx_get hx hb hts fiX5_goOn_X5 hown hK hP 0 rfl rfl 6 (Nat.le_of_ble_eq_true rfl) fl_31 rfl rfl dX5_goOn_15 ?_
  refine lv_iconst (v := 1) hx hb dX5_goOn_18 ki_1 ?_
  refine lv_iadd hx hb dX5_goOn_19 ?_
  refine rx_puti (wTK cI cJ a_z (ksAt s_z ((kgAt s_z) + (1 : Int32)))) hx hb hts fiX5_goOn_X5 tyX5 tyX5_ok nmX5 hown hK hP hD hS 0 rfl rfl 6 (Nat.le_of_ble_eq_true rfl) fl_31 rfl rfl rfl (Nat.le_of_ble_eq_true rfl) (wTK_sAt ..) dX5_goOn_20 (fun H locs hP hD hS => ?_)
  exact rx_retUv (u := (ksAt s_z ((kgAt s_z) + (1 : Int32)))) (w1 := (fun u : TKS => (wTK cI cJ a_z u))) hx hb hr hlocks hd hK hP hD hS dX5_goOn_23
set_option maxHeartbeats 8000000 in
set_option maxRecDepth 100000 in
theorem c_X5_takesWord (l : Launch) (dC : Nat → ClassId) (dI : Nat → Nat → Nat) (cI cJ cQ : ClassId) (fu : Nat) (gz : GZ) (a_z : Nat → Nat) (sz : Nat) (w : Nat) (s_z : TKS)  (r : Int32 × TKS) (hd : fX5_takesWord fu w s_z  = some r) : mUiG l yX5_takesWord wsX5_takesWord (gRm 6 128) [.ref (a_z 0), .ref (gz.2.2.1 w)] (dC, dI) vwCl (gty cI cJ cQ) (wTK cI cJ a_z s_z) sz gz (fun u : TKS => (wTK cI cJ a_z u)) r := by
  refine Met.ofW (cc := cX5_takesWord) (maxL := 3) (ret := (some .boolean)) (by decide) rfl ?_
  intro p e s m args below meth c s₁ B hml hv
  obtain ⟨hav, ⟨hsz, hP, hK, hD0⟩, hG⟩ := hv
  subst hsz
  have hD := hD0.self (sz := s.heap.size)
  generalize hAe : va_A (wTK cI cJ a_z s_z) s.heap.size = A at hD hG ⊢
  have hA : ∀ q : Nat, s.heap.size ≤ q → A q := fun q h => by rw [← hAe]; exact Or.inr h
  have hS : va_S A s.heap s.heap [] := va_S.rf
  have hx := B.exec
  have hb := B.bytes
  have hr := B.returns
  have hts := atoms_spec (ws := wsX5_takesWord) B.pre
  have hown : s.vm.findClass RX5 = some m.cls := findClass_of_methodNamed B.named
  have hlocks := B.notSynchronized
  have hcf : CallFix p m c cX5_takesWord 3 s args wsX5_takesWord RX5 := ⟨hx, hb, hml, hown, hts⟩
  have hg : entryFrame m args 3 = entryFrame m ([.ref (a_z 0), .ref (gz.2.2.1 w)] : List Value).toArray 3 := by rw [hav]
  rw [hg, lg_entry_eq]
  have hl := lv_entry ([.ref (a_z 0), .ref (gz.2.2.1 w)]) (n := 3) (Nat.le_of_ble_eq_true rfl)
  generalize (lg_sl ([.ref (a_z 0), .ref (gz.2.2.1 w)]) ++ List.replicate (3 - (lg_sl ([.ref (a_z 0), .ref (gz.2.2.1 w)])).length) Slot.unset).toArray = ls at hl ⊢
  have hl : lv_has ls 3 [(0, .ref (a_z 0)), (1, .ref (gz.2.2.1 w))] := hl
  clear hg
  unfold fX5_takesWord at hd
  refine g_wc hd (fun hw hd => ?_)
  refine lv_aload_n hx hb dX5_takesWord_0 rfl (lv_at hl 0 rfl) ?_
  refine lv_aload_n hx hb dX5_takesWord_1 rfl (lv_at hl 1 rfl) ?_
  refine rx_roi hd (fun v hv => W.runV (As := [.ref (gz.2.2.1 w)]) (rest := []) hcf (c_X5_isAtWord l dC dI cI cJ cQ fu gz a_z w s_z  v hv) (cwV 1 hts gX5_takesWord_X5_isAtWord rfl rfl rfl cd_X5_isAtWord ⟨(Nat.le_of_ble_eq_true rfl), (Nat.le_of_ble_eq_true rfl)⟩) (cq_RG_V1 (q0 := 0) (ci := 4) hG hS hK hP rfl rfl) rfl rfl hl.1 rfl (lv_room (Nat.le_of_ble_eq_true rfl)) dX5_takesWord_2 ⟨Nat.le_refl _, Nat.le_refl _⟩) (fun u2 hd => ?_)
  refine lv_istore_n (lv' := [(2, .int u2), (0, .ref (a_z 0)), (1, .ref (gz.2.2.1 w))]) hx hb dX5_takesWord_5 rfl hl (Nat.le_of_ble_eq_true rfl) rfl (fun ls hl => ?_)
  refine lv_iload_n hx hb dX5_takesWord_6 rfl (lv_at hl 0 rfl) ?_
  refine rx_if_eq hx hb 14 dX5_takesWord_7 rfl hd (fun hd => ?_) (fun hd => ?_)
  · refine lv_iload_n hx hb dX5_takesWord_14 rfl (lv_at hl 0 rfl) ?_
    exact rx_retUz (u := s_z) (w1 := (fun u : TKS => (wTK cI cJ a_z u))) hx hb hr hlocks hd hK hP hD hS dX5_takesWord_15
  refine lv_aload_n hx hb dX5_takesWord_10 rfl (lv_at hl 1 rfl) ?_
  refine rx_upv1 hd hD hS hA (fun v hv => va_runV (As := []) (rest := []) hcf (c_X5_goOn l dC dI cI cJ cQ fu a_z _  s_z  v hv) (cwV 0 hts gX5_takesWord_X5_goOn rfl rfl rfl cd_X5_goOn ⟨(Nat.le_of_ble_eq_true rfl), (Nat.le_of_ble_eq_true rfl)⟩) (cq_U_V1 (q0 := 0) (ci := 4) hK hP hD rfl rfl) rfl rfl hl.1 rfl (lv_room (Nat.le_of_ble_eq_true rfl)) dX5_takesWord_11 ⟨Nat.le_refl _, Nat.le_refl _⟩) (fun u11 hd H locs hP hD hS => ?_)
  refine lv_iload_n hx hb dX5_takesWord_14 rfl (lv_at hl 0 rfl) ?_
  exact rx_retUz (u := u11) (w1 := (fun u : TKS => (wTK cI cJ a_z u))) hx hb hr hlocks hd hK hP hD hS dX5_takesWord_15
theorem fiX5_isAt_X5 : ∀ w ∈ wsX50, w ∈ wsX5_isAt := mem_r _ [3, 4, 5, 6, 7, 8, 9] rfl
set_option maxHeartbeats 8000000 in
set_option maxRecDepth 100000 in
theorem c_X5_isAt (l : Launch) (dC : Nat → ClassId) (dI : Nat → Nat → Nat) (cI cJ cQ : ClassId) (fu : Nat) (a_z : Nat → Nat) (s_z : TKS) (x1 : Int32) (r : Int32) (hd : fX5_isAt fu  s_z x1 = some r) : mRi l yX5_isAt wsX5_isAt (gRm 0 0) [.ref (a_z 0), .int x1] (cq_R (dC, dI) vwCl (gty cI cJ cQ) (wTK cI cJ a_z s_z)) r := by
  refine Met.ofW (cc := cX5_isAt) (maxL := 2) (ret := (some .boolean)) (by decide) rfl ?_
  intro p e s m args below meth c s₁ B hml hv
  obtain ⟨hav, hP, hK⟩ := hv
  have hx := B.exec
  have hb := B.bytes
  have hr := B.returns
  have hts := atoms_spec (ws := wsX5_isAt) B.pre
  have hown : s.vm.findClass RX5 = some m.cls := findClass_of_methodNamed B.named
  have hlocks := B.notSynchronized
  have hcf : CallFix p m c cX5_isAt 2 s args wsX5_isAt RX5 := ⟨hx, hb, hml, hown, hts⟩
  have fl_9 := hts (.fieldLink RX5 9 "BucketGift$Tokens" "sorts" "[I") (List.mem_of_getElem? (i := 1) rfl)
  have fl_31 := hts (.fieldLink RX5 31 "BucketGift$Tokens" "at" "I") (List.mem_of_getElem? (i := 2) rfl)
  have hg : entryFrame m args 2 = entryFrame m ([.ref (a_z 0), .int x1] : List Value).toArray 2 := by rw [hav]
  rw [hg, lg_entry_eq]
  have hl := lv_entry ([.ref (a_z 0), .int x1]) (n := 2) (Nat.le_of_ble_eq_true rfl)
  generalize (lg_sl ([.ref (a_z 0), .int x1]) ++ List.replicate (2 - (lg_sl ([.ref (a_z 0), .int x1])).length) Slot.unset).toArray = ls at hl ⊢
  have hl : lv_has ls 2 [(0, .ref (a_z 0)), (1, .int x1)] := hl
  clear hg
  unfold fX5_isAt at hd
  refine lv_aload_n hx hb dX5_isAt_0 rfl (lv_at hl 0 rfl) ?_
  refine rx_get hx hb hts fiX5_isAt_X5 hown hK hP 0 rfl rfl 0 (Nat.le_of_ble_eq_true rfl) fl_9 rfl rfl dX5_isAt_1 ?_
  refine lv_aload_n hx hb dX5_isAt_4 rfl (lv_at hl 0 rfl) ?_
  refine rx_get hx hb hts fiX5_isAt_X5 hown hK hP 0 rfl rfl 6 (Nat.le_of_ble_eq_true rfl) fl_31 rfl rfl dX5_isAt_5 ?_
  refine rx_iald hx hb hK hP 1 0 rfl rfl hd dX5_isAt_8 (fun v8 hd => ?_)
  refine lv_iload_n hx hb dX5_isAt_9 rfl (lv_at hl 1 rfl) ?_
  refine rx_icmp_ne hx hb 17 dX5_isAt_10 rfl hd (fun hd => ?_) (fun hd => ?_)
  · refine lv_iconst (v := 0) hx hb dX5_isAt_17 ki_0 ?_
    exact rx_retRz hx hb hr hlocks hd dX5_isAt_18
  refine lv_iconst (v := 1) hx hb dX5_isAt_13 ki_1 ?_
  refine lv_goto (tgt := 18) hx hb dX5_isAt_14 rfl ?_
  exact rx_retRz hx hb hr hlocks hd dX5_isAt_18
theorem fiX5_takeNumber_X5 : ∀ w ∈ wsX50, w ∈ wsX5_takeNumber := mem_r _ [10, 11, 12, 13, 14, 15, 16] rfl
set_option maxHeartbeats 8000000 in
set_option maxRecDepth 100000 in
theorem c_X5_takeNumber (l : Launch) (dC : Nat → ClassId) (dI : Nat → Nat → Nat) (cI cJ cQ : ClassId) (fu : Nat) (a_z : Nat → Nat) (sz : Nat) (s_z : TKS) (x1 : Int32) (r : Int32 × TKS) (hd : fX5_takeNumber fu  s_z x1 = some r) : mUi l yX5_takeNumber wsX5_takeNumber (gRm 1 20) [.ref (a_z 0), .int x1] (dC, dI) vwCl (gty cI cJ cQ) (wTK cI cJ a_z s_z) sz (fun u : TKS => (wTK cI cJ a_z u)) r := by
  refine Met.ofW (cc := cX5_takeNumber) (maxL := 3) (ret := (some .int)) (by decide) rfl ?_
  intro p e s m args below meth c s₁ B hml hv
  obtain ⟨hav, hsz, hP, hK, hD0⟩ := hv
  subst hsz
  have hD := hD0.self (sz := s.heap.size)
  generalize hAe : va_A (wTK cI cJ a_z s_z) s.heap.size = A at hD ⊢
  have hA : ∀ q : Nat, s.heap.size ≤ q → A q := fun q h => by rw [← hAe]; exact Or.inr h
  have hS : va_S A s.heap s.heap [] := va_S.rf
  have hx := B.exec
  have hb := B.bytes
  have hr := B.returns
  have hts := atoms_spec (ws := wsX5_takeNumber) B.pre
  have hown : s.vm.findClass RX5 = some m.cls := findClass_of_methodNamed B.named
  have hlocks := B.notSynchronized
  have hcf : CallFix p m c cX5_takeNumber 3 s args wsX5_takeNumber RX5 := ⟨hx, hb, hml, hown, hts⟩
  have fl_9 := hts (.fieldLink RX5 9 "BucketGift$Tokens" "sorts" "[I") (List.mem_of_getElem? (i := 1) rfl)
  have fl_31 := hts (.fieldLink RX5 31 "BucketGift$Tokens" "at" "I") (List.mem_of_getElem? (i := 2) rfl)
  have fl_21 := hts (.fieldLink RX5 21 "BucketGift$Tokens" "values" "[I") (List.mem_of_getElem? (i := 3) rfl)
  have hg : entryFrame m args 3 = entryFrame m ([.ref (a_z 0), .int x1] : List Value).toArray 3 := by rw [hav]
  rw [hg, lg_entry_eq]
  have hl := lv_entry ([.ref (a_z 0), .int x1]) (n := 3) (Nat.le_of_ble_eq_true rfl)
  generalize (lg_sl ([.ref (a_z 0), .int x1]) ++ List.replicate (3 - (lg_sl ([.ref (a_z 0), .int x1])).length) Slot.unset).toArray = ls at hl ⊢
  have hl : lv_has ls 3 [(0, .ref (a_z 0)), (1, .int x1)] := hl
  clear hg
  unfold fX5_takeNumber at hd
  refine lv_aload_n hx hb dX5_takeNumber_0 rfl (lv_at hl 0 rfl) ?_
  refine rx_get hx hb hts fiX5_takeNumber_X5 hown hK hP 0 rfl rfl 0 (Nat.le_of_ble_eq_true rfl) fl_9 rfl rfl dX5_takeNumber_1 ?_
  refine lv_aload_n hx hb dX5_takeNumber_4 rfl (lv_at hl 0 rfl) ?_
  refine rx_get hx hb hts fiX5_takeNumber_X5 hown hK hP 0 rfl rfl 6 (Nat.le_of_ble_eq_true rfl) fl_31 rfl rfl dX5_takeNumber_5 ?_
  refine rx_iald hx hb hK hP 1 0 rfl rfl hd dX5_takeNumber_8 (fun v8 hd => ?_)
  refine lv_iconst (v := 2) hx hb dX5_takeNumber_9 ki_2 ?_
  refine rx_icmp_ne hx hb 26 dX5_takeNumber_10 rfl hd (fun hd => ?_) (fun hd => ?_)
  · refine lv_iconst (v := -1) hx hb dX5_takeNumber_26 ki_m1 ?_
    exact rx_retUi (u := s_z) (w1 := (fun u : TKS => (wTK cI cJ a_z u))) hx hb hr hlocks hd hK hP hD hS dX5_takeNumber_27
  refine lv_aload_n hx hb dX5_takeNumber_13 rfl (lv_at hl 0 rfl) ?_
  refine rx_get hx hb hts fiX5_takeNumber_X5 hown hK hP 0 rfl rfl 3 (Nat.le_of_ble_eq_true rfl) fl_21 rfl rfl dX5_takeNumber_14 ?_
  refine lv_aload_n hx hb dX5_takeNumber_17 rfl (lv_at hl 0 rfl) ?_
  refine rx_get hx hb hts fiX5_takeNumber_X5 hown hK hP 0 rfl rfl 6 (Nat.le_of_ble_eq_true rfl) fl_31 rfl rfl dX5_takeNumber_18 ?_
  refine rx_iald hx hb hK hP 4 0 rfl rfl hd dX5_takeNumber_21 (fun v21 hd => ?_)
  refine lv_iload_n hx hb dX5_takeNumber_22 rfl (lv_at hl 1 rfl) ?_
  refine rx_icmp_le hx hb 28 dX5_takeNumber_23 rfl hd (fun hd => ?_) (fun hd => ?_)
  · refine lv_aload_n hx hb dX5_takeNumber_28 rfl (lv_at hl 0 rfl) ?_
    refine rx_get hx hb hts fiX5_takeNumber_X5 hown hK hP 0 rfl rfl 3 (Nat.le_of_ble_eq_true rfl) fl_21 rfl rfl dX5_takeNumber_29 ?_
    refine lv_aload_n hx hb dX5_takeNumber_32 rfl (lv_at hl 0 rfl) ?_
    refine rx_get hx hb hts fiX5_takeNumber_X5 hown hK hP 0 rfl rfl 6 (Nat.le_of_ble_eq_true rfl) fl_31 rfl rfl dX5_takeNumber_33 ?_
    refine rx_iald hx hb hK hP 4 0 rfl rfl hd dX5_takeNumber_36 (fun v36 hd => ?_)
    refine lv_istore_n (lv' := [(2, .int v36), (0, .ref (a_z 0)), (1, .int x1)]) hx hb dX5_takeNumber_37 rfl hl (Nat.le_of_ble_eq_true rfl) rfl (fun ls hl => ?_)
    refine lv_aload_n hx hb dX5_takeNumber_38 rfl (lv_at hl 1 rfl) ?_
    refine rx_upv1 hd hD hS hA (fun v hv => va_runV (As := []) (rest := []) hcf (c_X5_goOn l dC dI cI cJ cQ fu a_z _  s_z  v hv) (cwV 0 hts gX5_takeNumber_X5_goOn rfl rfl rfl cd_X5_goOn ⟨(Nat.le_of_ble_eq_true rfl), (Nat.le_of_ble_eq_true rfl)⟩) (cq_U_V1 (q0 := 0) (ci := 4) hK hP hD rfl rfl) rfl rfl hl.1 rfl (lv_room (Nat.le_of_ble_eq_true rfl)) dX5_takeNumber_39 ⟨Nat.le_refl _, Nat.le_refl _⟩) (fun u39 hd H locs hP hD hS => ?_)
    refine lv_iload_n hx hb dX5_takeNumber_42 rfl (lv_at hl 0 rfl) ?_
    exact rx_retUi (u := u39) (w1 := (fun u : TKS => (wTK cI cJ a_z u))) hx hb hr hlocks hd hK hP hD hS dX5_takeNumber_43
  refine lv_iconst (v := -1) hx hb dX5_takeNumber_26 ki_m1 ?_
  exact rx_retUi (u := s_z) (w1 := (fun u : TKS => (wTK cI cJ a_z u))) hx hb hr hlocks hd hK hP hD hS dX5_takeNumber_27
theorem fiX5_place_X5 : ∀ w ∈ wsX50, w ∈ wsX5_place := mem_r _ [3, 4, 5, 6, 7, 8, 9] rfl
set_option maxHeartbeats 8000000 in
set_option maxRecDepth 100000 in
theorem c_X5_place (l : Launch) (dC : Nat → ClassId) (dI : Nat → Nat → Nat) (cI cJ cQ : ClassId) (fu : Nat) (a_z : Nat → Nat) (s_z : TKS)  (r : Int32) (hd : fX5_place fu  s_z  = some r) : mRi l yX5_place wsX5_place (gRm 0 0) [.ref (a_z 0)] (cq_R (dC, dI) vwCl (gty cI cJ cQ) (wTK cI cJ a_z s_z)) r := by
  refine Met.ofW (cc := cX5_place) (maxL := 1) (ret := (some .int)) (by decide) rfl ?_
  intro p e s m args below meth c s₁ B hml hv
  obtain ⟨hav, hP, hK⟩ := hv
  have hx := B.exec
  have hb := B.bytes
  have hr := B.returns
  have hts := atoms_spec (ws := wsX5_place) B.pre
  have hown : s.vm.findClass RX5 = some m.cls := findClass_of_methodNamed B.named
  have hlocks := B.notSynchronized
  have hcf : CallFix p m c cX5_place 1 s args wsX5_place RX5 := ⟨hx, hb, hml, hown, hts⟩
  have fl_15 := hts (.fieldLink RX5 15 "BucketGift$Tokens" "starts" "[I") (List.mem_of_getElem? (i := 1) rfl)
  have fl_31 := hts (.fieldLink RX5 31 "BucketGift$Tokens" "at" "I") (List.mem_of_getElem? (i := 2) rfl)
  have hg : entryFrame m args 1 = entryFrame m ([.ref (a_z 0)] : List Value).toArray 1 := by rw [hav]
  rw [hg, lg_entry_eq]
  have hl := lv_entry ([.ref (a_z 0)]) (n := 1) (Nat.le_of_ble_eq_true rfl)
  generalize (lg_sl ([.ref (a_z 0)]) ++ List.replicate (1 - (lg_sl ([.ref (a_z 0)])).length) Slot.unset).toArray = ls at hl ⊢
  have hl : lv_has ls 1 [(0, .ref (a_z 0))] := hl
  clear hg
  unfold fX5_place at hd
  refine lv_aload_n hx hb dX5_place_0 rfl (lv_at hl 0 rfl) ?_
  refine rx_get hx hb hts fiX5_place_X5 hown hK hP 0 rfl rfl 1 (Nat.le_of_ble_eq_true rfl) fl_15 rfl rfl dX5_place_1 ?_
  refine lv_aload_n hx hb dX5_place_4 rfl (lv_at hl 0 rfl) ?_
  refine rx_get hx hb hts fiX5_place_X5 hown hK hP 0 rfl rfl 6 (Nat.le_of_ble_eq_true rfl) fl_31 rfl rfl dX5_place_5 ?_
  refine rx_iald hx hb hK hP 2 0 rfl rfl hd dX5_place_8 (fun v8 hd => ?_)
  exact rx_retRi hx hb hr hlocks hd dX5_place_9
