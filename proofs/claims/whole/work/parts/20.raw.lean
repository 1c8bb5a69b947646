theorem fiX1_become_X1 : ∀ w ∈ wsX10, w ∈ wsX1_become := mem_r _ [17, 18, 19, 20, 21, 22, 23, 24, 25, 26, 27, 28] rfl
set_option maxHeartbeats 8000000 in
set_option maxRecDepth 100000 in
theorem c_X1_become_r (l : Launch) (dC : Nat → ClassId) (dI : Nat → Nat → Nat) (cI cJ cQ : ClassId) (fu : Nat) (a_h : Nat → Nat) (a_q : Nat → Nat) (sz : Nat) (s_h : PS) (s_q : PS)  (r : PS) (hd : fX1_become_r fu  s_h s_q  = some r) : mUv l yX1_become wsX1_become (gRm 1 40) [.ref (a_h 0), .ref (a_q 0)] (dC, dI) vwCl (gty cI cJ cQ) (wP cI cJ a_h s_h ++ (wP cI cJ a_q s_q)) sz (fun u : PS => (wP cI cJ a_h u ++ (wP cI cJ a_q s_q))) r := by
  refine Met.ofW (cc := cX1_become) (maxL := 2) (ret := none) (by decide) rfl ?_
  intro p e s m args below meth c s₁ B hml hv
  obtain ⟨hav, hsz, hP, hK, hD0⟩ := hv
  subst hsz
  have hD := hD0.self (sz := s.heap.size)
  generalize hAe : va_A (wP cI cJ a_h s_h ++ (wP cI cJ a_q s_q)) s.heap.size = A at hD ⊢
  have hA : ∀ q : Nat, s.heap.size ≤ q → A q := fun q h => by rw [← hAe]; exact Or.inr h
  have hS : va_S A s.heap s.heap [] := va_S.rf
  have hx := B.exec
  have hb := B.bytes
  have hr := B.returns
  have hts := atoms_spec (ws := wsX1_become) B.pre
  have hown : s.vm.findClass RX1 = some m.cls := findClass_of_methodNamed B.named
  have hlocks := B.notSynchronized
  have hcf : CallFix p m c cX1_become 2 s args wsX1_become RX1 := ⟨hx, hb, hml, hown, hts⟩
  have fl_7 := hts (.fieldLink RX1 7 "BucketGift$Parish" "need" "[I") (List.mem_of_getElem? (i := 1) rfl)
  have fl_13 := hts (.fieldLink RX1 13 "BucketGift$Parish" "store" "[I") (List.mem_of_getElem? (i := 6) rfl)
  have fl_16 := hts (.fieldLink RX1 16 "BucketGift$Parish" "thirst" "[I") (List.mem_of_getElem? (i := 7) rfl)
  have fl_19 := hts (.fieldLink RX1 19 "BucketGift$Parish" "sends" "[I") (List.mem_of_getElem? (i := 8) rfl)
  have fl_22 := hts (.fieldLink RX1 22 "BucketGift$Parish" "water" "[I") (List.mem_of_getElem? (i := 9) rfl)
  have fl_25 := hts (.fieldLink RX1 25 "BucketGift$Parish" "day" "I") (List.mem_of_getElem? (i := 10) rfl)
  have fl_29 := hts (.fieldLink RX1 29 "BucketGift$Parish" "dryFarms" "I") (List.mem_of_getElem? (i := 11) rfl)
  have fl_32 := hts (.fieldLink RX1 32 "BucketGift$Parish" "people" "I") (List.mem_of_getElem? (i := 12) rfl)
  have fl_35 := hts (.fieldLink RX1 35 "BucketGift$Parish" "kinds" "[I") (List.mem_of_getElem? (i := 13) rfl)
  have fl_38 := hts (.fieldLink RX1 38 "BucketGift$Parish" "deeds" "[I") (List.mem_of_getElem? (i := 14) rfl)
  have fl_41 := hts (.fieldLink RX1 41 "BucketGift$Parish" "steps" "[I") (List.mem_of_getElem? (i := 15) rfl)
  have fl_44 := hts (.fieldLink RX1 44 "BucketGift$Parish" "asked" "[I") (List.mem_of_getElem? (i := 16) rfl)
  have hg : entryFrame m args 2 = entryFrame m ([.ref (a_h 0), .ref (a_q 0)] : List Value).toArray 2 := by rw [hav]
  rw [hg, lg_entry_eq]
  have hl := lv_entry ([.ref (a_h 0), .ref (a_q 0)]) (n := 2) (Nat.le_of_ble_eq_true rfl)
  generalize (lg_sl ([.ref (a_h 0), .ref (a_q 0)]) ++ List.replicate (2 - (lg_sl ([.ref (a_h 0), .ref (a_q 0)])).length) Slot.unset).toArray = ls at hl ⊢
  have hl : lv_has ls 2 [(0, .ref (a_h 0)), (1, .ref (a_q 0))] := hl
  clear hg
  unfold fX1_become_r at hd
  refine lv_aload_n hx hb dX1_become_0 rfl (lv_at hl 1 rfl) ?_
  refine rx_get hx hb hts fiX1_become_X1 hown hK hP 10 rfl rfl 0 (Nat.le_of_ble_eq_true rfl) fl_7 rfl rfl dX1_become_1 ?_
  refine lv_iconst (v := 0) hx hb dX1_become_4 ki_0 ?_
  refine lv_aload_n hx hb dX1_become_5 rfl (lv_at hl 0 rfl) ?_
  refine rx_get hx hb hts fiX1_become_X1 hown hK hP 0 rfl rfl 0 (Nat.le_of_ble_eq_true rfl) fl_7 rfl rfl dX1_become_6 ?_
  refine lv_iconst (v := 0) hx hb dX1_become_9 ki_0 ?_
  refine lv_iconst (v := 4) hx hb dX1_become_10 ki_4 ?_
  refine rx_copyi (wP cI cJ a_h (psNeed s_h (va_cpy (pgNeed s_q) (pgNeed s_h) (Int32.toNatClampNeg (0 : Int32)) (Int32.toNatClampNeg (0 : Int32)) (Int32.toNatClampNeg (4 : Int32)))) ++ (wP cI cJ a_q s_q)) hx hb (hml.trans hl.1.symm) hown (hts _ (List.mem_of_getElem? (i := 2) rfl)) (hts _ (List.mem_of_getElem? (i := 3) rfl)) (hts _ (List.mem_of_getElem? (i := 4) rfl)) (hts _ (List.mem_of_getElem? (i := 5) rfl)) hK hP hD hS 11 1 0 rfl rfl rfl hd (g_setL (Nat.le_of_ble_eq_true rfl) (wP_fNeed ..)) (Nat.le_of_ble_eq_true rfl) (Nat.le_of_ble_eq_true rfl) dX1_become_11 (fun hd H locs hP hD hS => ?_)
  refine lv_aload_n hx hb dX1_become_14 rfl (lv_at hl 1 rfl) ?_
  refine rx_get hx hb hts fiX1_become_X1 hown hK hP 10 rfl rfl 1 (Nat.le_of_ble_eq_true rfl) fl_13 rfl rfl dX1_become_15 ?_
  refine lv_iconst (v := 0) hx hb dX1_become_18 ki_0 ?_
  refine lv_aload_n hx hb dX1_become_19 rfl (lv_at hl 0 rfl) ?_
  refine rx_get hx hb hts fiX1_become_X1 hown hK hP 0 rfl rfl 1 (Nat.le_of_ble_eq_true rfl) fl_13 rfl rfl dX1_become_20 ?_
  refine lv_iconst (v := 0) hx hb dX1_become_23 ki_0 ?_
  refine lv_iconst (v := 4) hx hb dX1_become_24 ki_4 ?_
  refine rx_copyi (wP cI cJ a_h (psStore (psNeed s_h (va_cpy (pgNeed s_q) (pgNeed s_h) (Int32.toNatClampNeg (0 : Int32)) (Int32.toNatClampNeg (0 : Int32)) (Int32.toNatClampNeg (4 : Int32)))) (va_cpy (pgStore s_q) (pgStore s_h) (Int32.toNatClampNeg (0 : Int32)) (Int32.toNatClampNeg (0 : Int32)) (Int32.toNatClampNeg (4 : Int32)))) ++ (wP cI cJ a_q s_q)) hx hb (hml.trans hl.1.symm) hown (hts _ (List.mem_of_getElem? (i := 2) rfl)) (hts _ (List.mem_of_getElem? (i := 3) rfl)) (hts _ (List.mem_of_getElem? (i := 4) rfl)) (hts _ (List.mem_of_getElem? (i := 5) rfl)) hK hP hD hS 12 2 0 rfl rfl rfl hd (g_setL (Nat.le_of_ble_eq_true rfl) (wP_fStore ..)) (Nat.le_of_ble_eq_true rfl) (Nat.le_of_ble_eq_true rfl) dX1_become_25 (fun hd H locs hP hD hS => ?_)
  refine lv_aload_n hx hb dX1_become_28 rfl (lv_at hl 1 rfl) ?_
  refine rx_get hx hb hts fiX1_become_X1 hown hK hP 10 rfl rfl 2 (Nat.le_of_ble_eq_true rfl) fl_16 rfl rfl dX1_become_29 ?_
  refine lv_iconst (v := 0) hx hb dX1_become_32 ki_0 ?_
  refine lv_aload_n hx hb dX1_become_33 rfl (lv_at hl 0 rfl) ?_
  refine rx_get hx hb hts fiX1_become_X1 hown hK hP 0 rfl rfl 2 (Nat.le_of_ble_eq_true rfl) fl_16 rfl rfl dX1_become_34 ?_
  refine lv_iconst (v := 0) hx hb dX1_become_37 ki_0 ?_
  refine lv_iconst (v := 4) hx hb dX1_become_38 ki_4 ?_
  refine rx_copyi (wP cI cJ a_h (psThirst (psStore (psNeed s_h (va_cpy (pgNeed s_q) (pgNeed s_h) (Int32.toNatClampNeg (0 : Int32)) (Int32.toNatClampNeg (0 : Int32)) (Int32.toNatClampNeg (4 : Int32)))) (va_cpy (pgStore s_q) (pgStore s_h) (Int32.toNatClampNeg (0 : Int32)) (Int32.toNatClampNeg (0 : Int32)) (Int32.toNatClampNeg (4 : Int32)))) (va_cpy (pgThirst s_q) (pgThirst s_h) (Int32.toNatClampNeg (0 : Int32)) (Int32.toNatClampNeg (0 : Int32)) (Int32.toNatClampNeg (4 : Int32)))) ++ (wP cI cJ a_q s_q)) hx hb (hml.trans hl.1.symm) hown (hts _ (List.mem_of_getElem? (i := 2) rfl)) (hts _ (List.mem_of_getElem? (i := 3) rfl)) (hts _ (List.mem_of_getElem? (i := 4) rfl)) (hts _ (List.mem_of_getElem? (i := 5) rfl)) hK hP hD hS 13 3 0 rfl rfl rfl hd (g_setL (Nat.le_of_ble_eq_true rfl) (wP_fThirst ..)) (Nat.le_of_ble_eq_true rfl) (Nat.le_of_ble_eq_true rfl) dX1_become_39 (fun hd H locs hP hD hS => ?_)
  refine lv_aload_n hx hb dX1_become_42 rfl (lv_at hl 1 rfl) ?_
  refine rx_get hx hb hts fiX1_become_X1 hown hK hP 10 rfl rfl 3 (Nat.le_of_ble_eq_true rfl) fl_19 rfl rfl dX1_become_43 ?_
  refine lv_iconst (v := 0) hx hb dX1_become_46 ki_0 ?_
  refine lv_aload_n hx hb dX1_become_47 rfl (lv_at hl 0 rfl) ?_
  refine rx_get hx hb hts fiX1_become_X1 hown hK hP 0 rfl rfl 3 (Nat.le_of_ble_eq_true rfl) fl_19 rfl rfl dX1_become_48 ?_
  refine lv_iconst (v := 0) hx hb dX1_become_51 ki_0 ?_
  refine lv_iconst (v := 4) hx hb dX1_become_52 ki_4 ?_
  refine rx_copyi (wP cI cJ a_h (psSends (psThirst (psStore (psNeed s_h (va_cpy (pgNeed s_q) (pgNeed s_h) (Int32.toNatClampNeg (0 : Int32)) (Int32.toNatClampNeg (0 : Int32)) (Int32.toNatClampNeg (4 : Int32)))) (va_cpy (pgStore s_q) (pgStore s_h) (Int32.toNatClampNeg (0 : Int32)) (Int32.toNatClampNeg (0 : Int32)) (Int32.toNatClampNeg (4 : Int32)))) (va_cpy (pgThirst s_q) (pgThirst s_h) (Int32.toNatClampNeg (0 : Int32)) (Int32.toNatClampNeg (0 : Int32)) (Int32.toNatClampNeg (4 : Int32)))) (va_cpy (pgSends s_q) (pgSends s_h) (Int32.toNatClampNeg (0 : Int32)) (Int32.toNatClampNeg (0 : Int32)) (Int32.toNatClampNeg (4 : Int32)))) ++ (wP cI cJ a_q s_q)) hx hb (hml.trans hl.1.symm) hown (hts _ (List.mem_of_getElem? (i := 2) rfl)) (hts _ (List.mem_of_getElem? (i := 3) rfl)) (hts _ (List.mem_of_getElem? (i := 4) rfl)) (hts _ (List.mem_of_getElem? (i := 5) rfl)) hK hP hD hS 14 4 0 rfl rfl rfl hd (g_setL (Nat.le_of_ble_eq_true rfl) (wP_fSends ..)) (Nat.le_of_ble_eq_true rfl) (Nat.le_of_ble_eq_true rfl) dX1_become_53 (fun hd H locs hP hD hS => ?_)
  refine lv_aload_n hx hb dX1_become_56 rfl (lv_at hl 1 rfl) ?_
  refine rx_get hx hb hts fiX1_become_X1 hown hK hP 10 rfl rfl 4 (Nat.le_of_ble_eq_true rfl) fl_22 rfl rfl dX1_become_57 ?_
  refine lv_iconst (v := 0) hx hb dX1_become_60 ki_0 ?_
  refine lv_aload_n hx hb dX1_become_61 rfl (lv_at hl 0 rfl) ?_
  refine rx_get hx hb hts fiX1_become_X1 hown hK hP 0 rfl rfl 4 (Nat.le_of_ble_eq_true rfl) fl_22 rfl rfl dX1_become_62 ?_
  refine lv_iconst (v := 0) hx hb dX1_become_65 ki_0 ?_
  refine lv_aload_n hx hb dX1_become_66 rfl (lv_at hl 0 rfl) ?_
  refine rx_get hx hb hts fiX1_become_X1 hown hK hP 0 rfl rfl 4 (Nat.le_of_ble_eq_true rfl) fl_22 rfl rfl dX1_become_67 ?_
  refine va_alen (v := (3 : Int32)) hx hb hK hP 5 0 rfl rfl rfl dX1_become_70 ?_
  refine rx_copyi (wP cI cJ a_h (psWater (psSends (psThirst (psStore (psNeed s_h (va_cpy (pgNeed s_q) (pgNeed s_h) (Int32.toNatClampNeg (0 : Int32)) (Int32.toNatClampNeg (0 : Int32)) (Int32.toNatClampNeg (4 : Int32)))) (va_cpy (pgStore s_q) (pgStore s_h) (Int32.toNatClampNeg (0 : Int32)) (Int32.toNatClampNeg (0 : Int32)) (Int32.toNatClampNeg (4 : Int32)))) (va_cpy (pgThirst s_q) (pgThirst s_h) (Int32.toNatClampNeg (0 : Int32)) (Int32.toNatClampNeg (0 : Int32)) (Int32.toNatClampNeg (4 : Int32)))) (va_cpy (pgSends s_q) (pgSends s_h) (Int32.toNatClampNeg (0 : Int32)) (Int32.toNatClampNeg (0 : Int32)) (Int32.toNatClampNeg (4 : Int32)))) (va_cpy (pgWater s_q) (pgWater s_h) (Int32.toNatClampNeg (0 : Int32)) (Int32.toNatClampNeg (0 : Int32)) (Int32.toNatClampNeg (3 : Int32)))) ++ (wP cI cJ a_q s_q)) hx hb (hml.trans hl.1.symm) hown (hts _ (List.mem_of_getElem? (i := 2) rfl)) (hts _ (List.mem_of_getElem? (i := 3) rfl)) (hts _ (List.mem_of_getElem? (i := 4) rfl)) (hts _ (List.mem_of_getElem? (i := 5) rfl)) hK hP hD hS 15 5 0 rfl rfl rfl hd (g_setL (Nat.le_of_ble_eq_true rfl) (wP_fWater ..)) (Nat.le_of_ble_eq_true rfl) (Nat.le_of_ble_eq_true rfl) dX1_become_71 (fun hd H locs hP hD hS => ?_)
  refine lv_aload_n hx hb dX1_become_74 rfl (lv_at hl 0 rfl) ?_
  refine lv_aload_n hx hb dX1_become_75 rfl (lv_at hl 1 rfl) ?_
  refine rx_get hx hb hts fiX1_become_X1 hown hK hP 10 rfl rfl 5 (Nat.le_of_ble_eq_true rfl) fl_25 rfl rfl dX1_become_76 ?_
  refine rx_puti (wP cI cJ a_h (psDay (psWater (psSends (psThirst (psStore (psNeed s_h (va_cpy (pgNeed s_q) (pgNeed s_h) (Int32.toNatClampNeg (0 : Int32)) (Int32.toNatClampNeg (0 : Int32)) (Int32.toNatClampNeg (4 : Int32)))) (va_cpy (pgStore s_q) (pgStore s_h) (Int32.toNatClampNeg (0 : Int32)) (Int32.toNatClampNeg (0 : Int32)) (Int32.toNatClampNeg (4 : Int32)))) (va_cpy (pgThirst s_q) (pgThirst s_h) (Int32.toNatClampNeg (0 : Int32)) (Int32.toNatClampNeg (0 : Int32)) (Int32.toNatClampNeg (4 : Int32)))) (va_cpy (pgSends s_q) (pgSends s_h) (Int32.toNatClampNeg (0 : Int32)) (Int32.toNatClampNeg (0 : Int32)) (Int32.toNatClampNeg (4 : Int32)))) (va_cpy (pgWater s_q) (pgWater s_h) (Int32.toNatClampNeg (0 : Int32)) (Int32.toNatClampNeg (0 : Int32)) (Int32.toNatClampNeg (3 : Int32)))) (pgDay s_q)) ++ (wP cI cJ a_q s_q)) hx hb hts fiX1_become_X1 tyX1 tyX1_ok nmX1 hown hK hP hD hS 0 rfl rfl 5 (Nat.le_of_ble_eq_true rfl) fl_25 rfl rfl rfl (Nat.le_of_ble_eq_true rfl) (g_setL (Nat.le_of_ble_eq_true rfl) (wP_sDay ..)) dX1_become_79 (fun H locs hP hD hS => ?_)
  refine lv_aload_n hx hb dX1_become_82 rfl (lv_at hl 0 rfl) ?_
  refine lv_aload_n hx hb dX1_become_83 rfl (lv_at hl 1 rfl) ?_
  refine rx_get hx hb hts fiX1_become_X1 hown hK hP 10 rfl rfl 6 (Nat.le_of_ble_eq_true rfl) fl_29 rfl rfl dX1_become_84 ?_
  refine rx_puti (wP cI cJ a_h (psDryFarms (psDay (psWater (psSends (psThirst (psStore (psNeed s_h (va_cpy (pgNeed s_q) (pgNeed s_h) (Int32.toNatClampNeg (0 : Int32)) (Int32.toNatClampNeg (0 : Int32)) (Int32.toNatClampNeg (4 : Int32)))) (va_cpy (pgStore s_q) (pgStore s_h) (Int32.toNatClampNeg (0 : Int32)) (Int32.toNatClampNeg (0 : Int32)) (Int32.toNatClampNeg (4 : Int32)))) (va_cpy (pgThirst s_q) (pgThirst s_h) (Int32.toNatClampNeg (0 : Int32)) (Int32.toNatClampNeg (0 : Int32)) (Int32.toNatClampNeg (4 : Int32)))) (va_cpy (pgSends s_q) (pgSends s_h) (Int32.toNatClampNeg (0 : Int32)) (Int32.toNatClampNeg (0 : Int32)) (Int32.toNatClampNeg (4 : Int32)))) (va_cpy (pgWater s_q) (pgWater s_h) (Int32.toNatClampNeg (0 : Int32)) (Int32.toNatClampNeg (0 : Int32)) (Int32.toNatClampNeg (3 : Int32)))) (pgDay s_q)) (pgDryFarms s_q)) ++ (wP cI cJ a_q s_q)) hx hb hts fiX1_become_X1 tyX1 tyX1_ok nmX1 hown hK hP hD hS 0 rfl rfl 6 (Nat.le_of_ble_eq_true rfl) fl_29 rfl rfl rfl (Nat.le_of_ble_eq_true rfl) (g_setL (Nat.le_of_ble_eq_true rfl) (wP_sDryFarms ..)) dX1_become_87 (fun H locs hP hD hS => ?_)
  refine lv_aload_n hx hb dX1_become_90 rfl (lv_at hl 0 rfl) ?_
  refine lv_aload_n hx hb dX1_become_91 rfl (lv_at hl 1 rfl) ?_
  refine rx_get hx hb hts fiX1_become_X1 hown hK hP 10 rfl rfl 7 (Nat.le_of_ble_eq_true rfl) fl_32 rfl rfl dX1_become_92 ?_
  refine rx_puti (wP cI cJ a_h (psPeople (psDryFarms (psDay (psWater (psSends (psThirst (psStore (psNeed s_h (va_cpy (pgNeed s_q) (pgNeed s_h) (Int32.toNatClampNeg (0 : Int32)) (Int32.toNatClampNeg (0 : Int32)) (Int32.toNatClampNeg (4 : Int32)))) (va_cpy (pgStore s_q) (pgStore s_h) (Int32.toNatClampNeg (0 : Int32)) (Int32.toNatClampNeg (0 : Int32)) (Int32.toNatClampNeg (4 : Int32)))) (va_cpy (pgThirst s_q) (pgThirst s_h) (Int32.toNatClampNeg (0 : Int32)) (Int32.toNatClampNeg (0 : Int32)) (Int32.toNatClampNeg (4 : Int32)))) (va_cpy (pgSends s_q) (pgSends s_h) (Int32.toNatClampNeg (0 : Int32)) (Int32.toNatClampNeg (0 : Int32)) (Int32.toNatClampNeg (4 : Int32)))) (va_cpy (pgWater s_q) (pgWater s_h) (Int32.toNatClampNeg (0 : Int32)) (Int32.toNatClampNeg (0 : Int32)) (Int32.toNatClampNeg (3 : Int32)))) (pgDay s_q)) (pgDryFarms s_q)) (pgPeople s_q)) ++ (wP cI cJ a_q s_q)) hx hb hts fiX1_become_X1 tyX1 tyX1_ok nmX1 hown hK hP hD hS 0 rfl rfl 7 (Nat.le_of_ble_eq_true rfl) fl_32 rfl rfl rfl (Nat.le_of_ble_eq_true rfl) (g_setL (Nat.le_of_ble_eq_true rfl) (wP_sPeople ..)) dX1_become_95 (fun H locs hP hD hS => ?_)
  refine lv_aload_n hx hb dX1_become_98 rfl (lv_at hl 1 rfl) ?_
  refine rx_get hx hb hts fiX1_become_X1 hown hK hP 10 rfl rfl 8 (Nat.le_of_ble_eq_true rfl) fl_35 rfl rfl dX1_become_99 ?_
  refine lv_iconst (v := 0) hx hb dX1_become_102 ki_0 ?_
  refine lv_aload_n hx hb dX1_become_103 rfl (lv_at hl 0 rfl) ?_
  refine rx_get hx hb hts fiX1_become_X1 hown hK hP 0 rfl rfl 8 (Nat.le_of_ble_eq_true rfl) fl_35 rfl rfl dX1_become_104 ?_
  refine lv_iconst (v := 0) hx hb dX1_become_107 ki_0 ?_
  refine lv_bipush (v := 8) hx hb dX1_become_108 kb_8 ?_
  refine rx_copyi (wP cI cJ a_h (psKinds (psPeople (psDryFarms (psDay (psWater (psSends (psThirst (psStore (psNeed s_h (va_cpy (pgNeed s_q) (pgNeed s_h) (Int32.toNatClampNeg (0 : Int32)) (Int32.toNatClampNeg (0 : Int32)) (Int32.toNatClampNeg (4 : Int32)))) (va_cpy (pgStore s_q) (pgStore s_h) (Int32.toNatClampNeg (0 : Int32)) (Int32.toNatClampNeg (0 : Int32)) (Int32.toNatClampNeg (4 : Int32)))) (va_cpy (pgThirst s_q) (pgThirst s_h) (Int32.toNatClampNeg (0 : Int32)) (Int32.toNatClampNeg (0 : Int32)) (Int32.toNatClampNeg (4 : Int32)))) (va_cpy (pgSends s_q) (pgSends s_h) (Int32.toNatClampNeg (0 : Int32)) (Int32.toNatClampNeg (0 : Int32)) (Int32.toNatClampNeg (4 : Int32)))) (va_cpy (pgWater s_q) (pgWater s_h) (Int32.toNatClampNeg (0 : Int32)) (Int32.toNatClampNeg (0 : Int32)) (Int32.toNatClampNeg (3 : Int32)))) (pgDay s_q)) (pgDryFarms s_q)) (pgPeople s_q)) (va_cpy (pgKinds s_q) (pgKinds s_h) (Int32.toNatClampNeg (0 : Int32)) (Int32.toNatClampNeg (0 : Int32)) (Int32.toNatClampNeg (8 : Int32)))) ++ (wP cI cJ a_q s_q)) hx hb (hml.trans hl.1.symm) hown (hts _ (List.mem_of_getElem? (i := 2) rfl)) (hts _ (List.mem_of_getElem? (i := 3) rfl)) (hts _ (List.mem_of_getElem? (i := 4) rfl)) (hts _ (List.mem_of_getElem? (i := 5) rfl)) hK hP hD hS 16 6 0 rfl rfl rfl hd (g_setL (Nat.le_of_ble_eq_true rfl) (wP_fKinds ..)) (Nat.le_of_ble_eq_true rfl) (Nat.le_of_ble_eq_true rfl) dX1_become_110 (fun hd H locs hP hD hS => ?_)
  refine lv_aload_n hx hb dX1_become_113 rfl (lv_at hl 1 rfl) ?_
  refine rx_get hx hb hts fiX1_become_X1 hown hK hP 10 rfl rfl 9 (Nat.le_of_ble_eq_true rfl) fl_38 rfl rfl dX1_become_114 ?_
  refine lv_iconst (v := 0) hx hb dX1_become_117 ki_0 ?_
  refine lv_aload_n hx hb dX1_become_118 rfl (lv_at hl 0 rfl) ?_
  refine rx_get hx hb hts fiX1_become_X1 hown hK hP 0 rfl rfl 9 (Nat.le_of_ble_eq_true rfl) fl_38 rfl rfl dX1_become_119 ?_
  refine lv_iconst (v := 0) hx hb dX1_become_122 ki_0 ?_
  refine lv_bipush (v := 8) hx hb dX1_become_123 kb_8 ?_
  refine rx_copyi (wP cI cJ a_h (psDeeds (psKinds (psPeople (psDryFarms (psDay (psWater (psSends (psThirst (psStore (psNeed s_h (va_cpy (pgNeed s_q) (pgNeed s_h) (Int32.toNatClampNeg (0 : Int32)) (Int32.toNatClampNeg (0 : Int32)) (Int32.toNatClampNeg (4 : Int32)))) (va_cpy (pgStore s_q) (pgStore s_h) (Int32.toNatClampNeg (0 : Int32)) (Int32.toNatClampNeg (0 : Int32)) (Int32.toNatClampNeg (4 : Int32)))) (va_cpy (pgThirst s_q) (pgThirst s_h) (Int32.toNatClampNeg (0 : Int32)) (Int32.toNatClampNeg (0 : Int32)) (Int32.toNatClampNeg (4 : Int32)))) (va_cpy (pgSends s_q) (pgSends s_h) (Int32.toNatClampNeg (0 : Int32)) (Int32.toNatClampNeg (0 : Int32)) (Int32.toNatClampNeg (4 : Int32)))) (va_cpy (pgWater s_q) (pgWater s_h) (Int32.toNatClampNeg (0 : Int32)) (Int32.toNatClampNeg (0 : Int32)) (Int32.toNatClampNeg (3 : Int32)))) (pgDay s_q)) (pgDryFarms s_q)) (pgPeople s_q)) (va_cpy (pgKinds s_q) (pgKinds s_h) (Int32.toNatClampNeg (0 : Int32)) (Int32.toNatClampNeg (0 : Int32)) (Int32.toNatClampNeg (8 : Int32)))) (va_cpy (pgDeeds s_q) (pgDeeds s_h) (Int32.toNatClampNeg (0 : Int32)) (Int32.toNatClampNeg (0 : Int32)) (Int32.toNatClampNeg (8 : Int32)))) ++ (wP cI cJ a_q s_q)) hx hb (hml.trans hl.1.symm) hown (hts _ (List.mem_of_getElem? (i := 2) rfl)) (hts _ (List.mem_of_getElem? (i := 3) rfl)) (hts _ (List.mem_of_getElem? (i := 4) rfl)) (hts _ (List.mem_of_getElem? (i := 5) rfl)) hK hP hD hS 17 7 0 rfl rfl rfl hd (g_setL (Nat.le_of_ble_eq_true rfl) (wP_fDeeds ..)) (Nat.le_of_ble_eq_true rfl) (Nat.le_of_ble_eq_true rfl) dX1_become_125 (fun hd H locs hP hD hS => ?_)
  refine lv_aload_n hx hb dX1_become_128 rfl (lv_at hl 1 rfl) ?_
  refine rx_get hx hb hts fiX1_become_X1 hown hK hP 10 rfl rfl 10 (Nat.le_of_ble_eq_true rfl) fl_41 rfl rfl dX1_become_129 ?_
  refine lv_iconst (v := 0) hx hb dX1_become_132 ki_0 ?_
  refine lv_aload_n hx hb dX1_become_133 rfl (lv_at hl 0 rfl) ?_
  refine rx_get hx hb hts fiX1_become_X1 hown hK hP 0 rfl rfl 10 (Nat.le_of_ble_eq_true rfl) fl_41 rfl rfl dX1_become_134 ?_
  refine lv_iconst (v := 0) hx hb dX1_become_137 ki_0 ?_
  refine lv_bipush (v := 8) hx hb dX1_become_138 kb_8 ?_
  refine rx_copyi (wP cI cJ a_h (psSteps (psDeeds (psKinds (psPeople (psDryFarms (psDay (psWater (psSends (psThirst (psStore (psNeed s_h (va_cpy (pgNeed s_q) (pgNeed s_h) (Int32.toNatClampNeg (0 : Int32)) (Int32.toNatClampNeg (0 : Int32)) (Int32.toNatClampNeg (4 : Int32)))) (va_cpy (pgStore s_q) (pgStore s_h) (Int32.toNatClampNeg (0 : Int32)) (Int32.toNatClampNeg (0 : Int32)) (Int32.toNatClampNeg (4 : Int32)))) (va_cpy (pgThirst s_q) (pgThirst s_h) (Int32.toNatClampNeg (0 : Int32)) (Int32.toNatClampNeg (0 : Int32)) (Int32.toNatClampNeg (4 : Int32)))) (va_cpy (pgSends s_q) (pgSends s_h) (Int32.toNatClampNeg (0 : Int32)) (Int32.toNatClampNeg (0 : Int32)) (Int32.toNatClampNeg (4 : Int32)))) (va_cpy (pgWater s_q) (pgWater s_h) (Int32.toNatClampNeg (0 : Int32)) (Int32.toNatClampNeg (0 : Int32)) (Int32.toNatClampNeg (3 : Int32)))) (pgDay s_q)) (pgDryFarms s_q)) (pgPeople s_q)) (va_cpy (pgKinds s_q) (pgKinds s_h) (Int32.toNatClampNeg (0 : Int32)) (Int32.toNatClampNeg (0 : Int32)) (Int32.toNatClampNeg (8 : Int32)))) (va_cpy (pgDeeds s_q) (pgDeeds s_h) (Int32.toNatClampNeg (0 : Int32)) (Int32.toNatClampNeg (0 : Int32)) (Int32.toNatClampNeg (8 : Int32)))) (va_cpy (pgSteps s_q) (pgSteps s_h) (Int32.toNatClampNeg (0 : Int32)) (Int32.toNatClampNeg (0 : Int32)) (Int32.toNatClampNeg (8 : Int32)))) ++ (wP cI cJ a_q s_q)) hx hb (hml.trans hl.1.symm) hown (hts _ (List.mem_of_getElem? (i := 2) rfl)) (hts _ (List.mem_of_getElem? (i := 3) rfl)) (hts _ (List.mem_of_getElem? (i := 4) rfl)) (hts _ (List.mem_of_getElem? (i := 5) rfl)) hK hP hD hS 18 8 0 rfl rfl rfl hd (g_setL (Nat.le_of_ble_eq_true rfl) (wP_fSteps ..)) (Nat.le_of_ble_eq_true rfl) (Nat.le_of_ble_eq_true rfl) dX1_become_140 (fun hd H locs hP hD hS => ?_)
  refine lv_aload_n hx hb dX1_become_143 rfl (lv_at hl 1 rfl) ?_
  refine rx_get hx hb hts fiX1_become_X1 hown hK hP 10 rfl rfl 11 (Nat.le_of_ble_eq_true rfl) fl_44 rfl rfl dX1_become_144 ?_
  refine lv_iconst (v := 0) hx hb dX1_become_147 ki_0 ?_
  refine lv_aload_n hx hb dX1_become_148 rfl (lv_at hl 0 rfl) ?_
  refine rx_get hx hb hts fiX1_become_X1 hown hK hP 0 rfl rfl 11 (Nat.le_of_ble_eq_true rfl) fl_44 rfl rfl dX1_become_149 ?_
  refine lv_iconst (v := 0) hx hb dX1_become_152 ki_0 ?_
  refine lv_bipush (v := 8) hx hb dX1_become_153 kb_8 ?_
  refine rx_copyi (wP cI cJ a_h (psAsked (psSteps (psDeeds (psKinds (psPeople (psDryFarms (psDay (psWater (psSends (psThirst (psStore (psNeed s_h (va_cpy (pgNeed s_q) (pgNeed s_h) (Int32.toNatClampNeg (0 : Int32)) (Int32.toNatClampNeg (0 : Int32)) (Int32.toNatClampNeg (4 : Int32)))) (va_cpy (pgStore s_q) (pgStore s_h) (Int32.toNatClampNeg (0 : Int32)) (Int32.toNatClampNeg (0 : Int32)) (Int32.toNatClampNeg (4 : Int32)))) (va_cpy (pgThirst s_q) (pgThirst s_h) (Int32.toNatClampNeg (0 : Int32)) (Int32.toNatClampNeg (0 : Int32)) (Int32.toNatClampNeg (4 : Int32)))) (va_cpy (pgSends s_q) (pgSends s_h) (Int32.toNatClampNeg (0 : Int32)) (Int32.toNatClampNeg (0 : Int32)) (Int32.toNatClampNeg (4 : Int32)))) (va_cpy (pgWater s_q) (pgWater s_h) (Int32.toNatClampNeg (0 : Int32)) (Int32.toNatClampNeg (0 : Int32)) (Int32.toNatClampNeg (3 : Int32)))) (pgDay s_q)) (pgDryFarms s_q)) (pgPeople s_q)) (va_cpy (pgKinds s_q) (pgKinds s_h) (Int32.toNatClampNeg (0 : Int32)) (Int32.toNatClampNeg (0 : Int32)) (Int32.toNatClampNeg (8 : Int32)))) (va_cpy (pgDeeds s_q) (pgDeeds s_h) (Int32.toNatClampNeg (0 : Int32)) (Int32.toNatClampNeg (0 : Int32)) (Int32.toNatClampNeg (8 : Int32)))) (va_cpy (pgSteps s_q) (pgSteps s_h) (Int32.toNatClampNeg (0 : Int32)) (Int32.toNatClampNeg (0 : Int32)) (Int32.toNatClampNeg (8 : Int32)))) (va_cpy (pgAsked s_q) (pgAsked s_h) (Int32.toNatClampNeg (0 : Int32)) (Int32.toNatClampNeg (0 : Int32)) (Int32.toNatClampNeg (8 : Int32)))) ++ (wP cI cJ a_q s_q)) hx hb (hml.trans hl.1.symm) hown (hts _ (List.mem_of_getElem? (i := 2) rfl)) (hts _ (List.mem_of_getElem? (i := 3) rfl)) (hts _ (List.mem_of_getElem? (i := 4) rfl)) (hts _ (List.mem_of_getElem? (i := 5) rfl)) hK hP hD hS 19 9 0 rfl rfl rfl hd (g_setL (Nat.le_of_ble_eq_true rfl) (wP_fAsked ..)) (Nat.le_of_ble_eq_true rfl) (Nat.le_of_ble_eq_true rfl) dX1_become_155 (fun hd H locs hP hD hS => ?_)
  exact rx_retUv (u := (psAsked (psSteps (psDeeds (psKinds (psPeople (psDryFarms (psDay (psWater (psSends (psThirst (psStore (psNeed s_h (va_cpy (pgNeed s_q) (pgNeed s_h) (Int32.toNatClampNeg (0 : Int32)) (Int32.toNatClampNeg (0 : Int32)) (Int32.toNatClampNeg (4 : Int32)))) (va_cpy (pgStore s_q) (pgStore s_h) (Int32.toNatClampNeg (0 : Int32)) (Int32.toNatClampNeg (0 : Int32)) (Int32.toNatClampNeg (4 : Int32)))) (va_cpy (pgThirst s_q) (pgThirst s_h) (Int32.toNatClampNeg (0 : Int32)) (Int32.toNatClampNeg (0 : Int32)) (Int32.toNatClampNeg (4 : Int32)))) (va_cpy (pgSends s_q) (pgSends s_h) (Int32.toNatClampNeg (0 : Int32)) (Int32.toNatClampNeg (0 : Int32)) (Int32.toNatClampNeg (4 : Int32)))) (va_cpy (pgWater s_q) (pgWater s_h) (Int32.toNatClampNeg (0 : Int32)) (Int32.toNatClampNeg (0 : Int32)) (Int32.toNatClampNeg (3 : Int32)))) (pgDay s_q)) (pgDryFarms s_q)) (pgPeople s_q)) (va_cpy (pgKinds s_q) (pgKinds s_h) (Int32.toNatClampNeg (0 : Int32)) (Int32.toNatClampNeg (0 : Int32)) (Int32.toNatClampNeg (8 : Int32)))) (va_cpy (pgDeeds s_q) (pgDeeds s_h) (Int32.toNatClampNeg (0 : Int32)) (Int32.toNatClampNeg (0 : Int32)) (Int32.toNatClampNeg (8 : Int32)))) (va_cpy (pgSteps s_q) (pgSteps s_h) (Int32.toNatClampNeg (0 : Int32)) (Int32.toNatClampNeg (0 : Int32)) (Int32.toNatClampNeg (8 : Int32)))) (va_cpy (pgAsked s_q) (pgAsked s_h) (Int32.toNatClampNeg (0 : Int32)) (Int32.toNatClampNeg (0 : Int32)) (Int32.toNatClampNeg (8 : Int32))))) (w1 := (fun u : PS => (wP cI cJ a_h u ++ (wP cI cJ a_q s_q)))) hx hb hr hlocks hd hK hP hD hS dX1_become_158
theorem fiX7_laysAside_X7 : ∀ w ∈ wsX70, w ∈ wsX7_laysAside := mem_r _ [3, 4, 5, 6, 7, 8, 9, 10, 11, 12, 13, 14, 15, 16, 17, 18, 19, 20] rfl
set_option maxHeartbeats 8000000 in
set_option maxRecDepth 100000 in
theorem c_X7_laysAside_r (l : Launch) (dC : Nat → ClassId) (dI : Nat → Nat → Nat) (cI cJ cQ : ClassId) (fu : Nat) (a_m : Nat → Nat) (sz : Nat) (s_m : MS)  (r : MS) (hd : fX7_laysAside_r fu  s_m  = some r) : mUv l yX7_laysAside wsX7_laysAside (gRm 0 0) [.ref (a_m 0)] (dC, dI) vwCl (gty cI cJ cQ) (wM cI cJ a_m s_m) sz (fun u : MS => (wM cI cJ a_m u)) r := by
  refine Met.ofW (cc := cX7_laysAside) (maxL := 2) (ret := none) (by decide) rfl ?_
  intro p e s m args below meth c s₁ B hml hv
  obtain ⟨hav, hsz, hP, hK, hD0⟩ := hv
  subst hsz
  have hD := hD0.self (sz := s.heap.size)
  generalize hAe : va_A (wM cI cJ a_m s_m) s.heap.size = A at hD ⊢
  have hA : ∀ q : Nat, s.heap.size ≤ q → A q := fun q h => by rw [← hAe]; exact Or.inr h
  have hS : va_S A s.heap s.heap [] := va_S.rf
  have hx := B.exec
  have hb := B.bytes
  have hr := B.returns
  have hts := atoms_spec (ws := wsX7_laysAside) B.pre
  have hown : s.vm.findClass RX7 = some m.cls := findClass_of_methodNamed B.named
  have hlocks := B.notSynchronized
  have hcf : CallFix p m c cX7_laysAside 2 s args wsX7_laysAside RX7 := ⟨hx, hb, hml, hown, hts⟩
  have fl_19 := hts (.fieldLink RX7 19 "BucketGiftModel" "aside" "[I") (List.mem_of_getElem? (i := 1) rfl)
  have fl_7 := hts (.fieldLink RX7 7 "BucketGiftModel" "s" "[I") (List.mem_of_getElem? (i := 2) rfl)
  have hg : entryFrame m args 2 = entryFrame m ([.ref (a_m 0)] : List Value).toArray 2 := by rw [hav]
  rw [hg, lg_entry_eq]
  have hl := lv_entry ([.ref (a_m 0)]) (n := 2) (Nat.le_of_ble_eq_true rfl)
  generalize (lg_sl ([.ref (a_m 0)]) ++ List.replicate (2 - (lg_sl ([.ref (a_m 0)])).length) Slot.unset).toArray = ls at hl ⊢
  have hl : lv_has ls 2 [(0, .ref (a_m 0))] := hl
  clear hg
  unfold fX7_laysAside_r at hd
  have b2 : ∀ (s_m : MS) (x1 : Int32), fX7_laysAside_r_b2 fu     s_m x1 = some r → bk_U p l e (headSpec wsX7_laysAside (gRm 0 0)).room s m args below meth c (qUv below args s (dC, dI) vwCl (gty cI cJ cQ) A (fun u : MS => (wM cI cJ a_m u)) r) (dC, dI) vwCl A 2 (wM cI cJ a_m s_m) 2 [(0, .ref (a_m 0)), (1, .int x1)] [] := by
    have L : ∀ (n : Nat) (s_m : MS) (x1 : Int32), g_lp (fun _ _ => none) (fX7_laysAside_r_b2B fu    ) n s_m x1 = some r → bk_U p l e (headSpec wsX7_laysAside (gRm 0 0)).room s m args below meth c (qUv below args s (dC, dI) vwCl (gty cI cJ cQ) A (fun u : MS => (wM cI cJ a_m u)) r) (dC, dI) vwCl A 2 (wM cI cJ a_m s_m) 2 [(0, .ref (a_m 0)), (1, .int x1)] [] := by
      intro n
      induction n with
      | zero => intro s_m x1 hd; exact absurd hd (by intro h; cases h)
      | succ n k2 =>
        intro s_m x1 hd
        intro H locs ls hP hD hS hl
        have hd : fX7_laysAside_r_b2B fu     (g_lp (fun _ _ => none) (fX7_laysAside_r_b2B fu    ) n) s_m x1 = some r := hd
        unfold fX7_laysAside_r_b2B at hd
        refine lv_iload_n hx hb dX7_laysAside_2 rfl (lv_at hl 1 rfl) ?_
        refine lv_bipush (v := 53) hx hb dX7_laysAside_3 kb_53 ?_
        refine rx_icmp_ge hx hb 26 dX7_laysAside_5 rfl hd (fun hd => ?_) (fun hd => ?_)
        · exact rx_retUv (u := s_m) (w1 := (fun u : MS => (wM cI cJ a_m u))) hx hb hr hlocks hd hK hP hD hS dX7_laysAside_26
        refine lv_aload_n hx hb dX7_laysAside_8 rfl (lv_at hl 0 rfl) ?_
        refine rx_get hx hb hts fiX7_laysAside_X7 hown hK hP 0 rfl rfl 3 (Nat.le_of_ble_eq_true rfl) fl_19 rfl rfl dX7_laysAside_9 ?_
        refine lv_iload_n hx hb dX7_laysAside_12 rfl (lv_at hl 1 rfl) ?_
        refine lv_aload_n hx hb dX7_laysAside_13 rfl (lv_at hl 0 rfl) ?_
        refine rx_get hx hb hts fiX7_laysAside_X7 hown hK hP 0 rfl rfl 0 (Nat.le_of_ble_eq_true rfl) fl_7 rfl rfl dX7_laysAside_14 ?_
        refine lv_iload_n hx hb dX7_laysAside_17 rfl (lv_at hl 1 rfl) ?_
        refine rx_iald hx hb hK hP 1 0 rfl rfl hd dX7_laysAside_18 (fun v18 hd => ?_)
        refine rx_iast (wM cI cJ a_m (muAside s_m (Int32.toNatClampNeg x1) v18)) hx hb hK hP hD hS 4 0 rfl rfl hd (wM_uAside ..) dX7_laysAside_19 (fun hd H locs hP hD hS => ?_)
        refine rx_iinc (lv' := fun z => (1, .int z) :: [(0, .ref (a_m 0))]) hx hb (j := 1) dX7_laysAside_20 hl rfl ki_1 hd (Nat.le_of_ble_eq_true rfl) (fun _ => rfl) (fun x1_20 hd ls hl => ?_)
        refine lv_goto (tgt := 2) hx hb dX7_laysAside_23 rfl ?_
        exact k2 (muAside s_m (Int32.toNatClampNeg x1) v18) x1_20 hd _ _ _ hP hD hS (lv_sub hl [1, 0] rfl)
    exact fun s_m x1 => L fu s_m x1
  refine lv_iconst (v := 0) hx hb dX7_laysAside_0 ki_0 ?_
  refine lv_istore_n (lv' := [(1, .int (0 : Int32)), (0, .ref (a_m 0))]) hx hb dX7_laysAside_1 rfl hl (Nat.le_of_ble_eq_true rfl) rfl (fun ls hl => ?_)
  exact b2   s_m (0 : Int32) hd _ _ _ hP hD hS (lv_sub hl [1, 0] rfl)
theorem fiX7_takesBack_X7 : ∀ w ∈ wsX70, w ∈ wsX7_takesBack := mem_r _ [3, 4, 5, 6, 7, 8, 9, 10, 11, 12, 13, 14, 15, 16, 17, 18, 19, 20] rfl
set_option maxHeartbeats 8000000 in
set_option maxRecDepth 100000 in
theorem c_X7_takesBack_r (l : Launch) (dC : Nat → ClassId) (dI : Nat → Nat → Nat) (cI cJ cQ : ClassId) (fu : Nat) (a_m : Nat → Nat) (sz : Nat) (s_m : MS) (x1 : Int32) (r : Int32 × MS) (hd : fX7_takesBack_r fu  s_m x1 = some r) : mUi l yX7_takesBack wsX7_takesBack (gRm 0 0) [.ref (a_m 0), .int x1] (dC, dI) vwCl (gty cI cJ cQ) (wM cI cJ a_m s_m) sz (fun u : MS => (wM cI cJ a_m u)) r := by
  refine Met.ofW (cc := cX7_takesBack) (maxL := 3) (ret := (some .int)) (by decide) rfl ?_
  intro p e s m args below meth c s₁ B hml hv
  obtain ⟨hav, hsz, hP, hK, hD0⟩ := hv
  subst hsz
  have hD := hD0.self (sz := s.heap.size)
  generalize hAe : va_A (wM cI cJ a_m s_m) s.heap.size = A at hD ⊢
  have hA : ∀ q : Nat, s.heap.size ≤ q → A q := fun q h => by rw [← hAe]; exact Or.inr h
  have hS : va_S A s.heap s.heap [] := va_S.rf
  have hx := B.exec
  have hb := B.bytes
  have hr := B.returns
  have hts := atoms_spec (ws := wsX7_takesBack) B.pre
  have hown : s.vm.findClass RX7 = some m.cls := findClass_of_methodNamed B.named
  have hlocks := B.notSynchronized
  have hcf : CallFix p m c cX7_takesBack 3 s args wsX7_takesBack RX7 := ⟨hx, hb, hml, hown, hts⟩
  have fl_7 := hts (.fieldLink RX7 7 "BucketGiftModel" "s" "[I") (List.mem_of_getElem? (i := 1) rfl)
  have fl_19 := hts (.fieldLink RX7 19 "BucketGiftModel" "aside" "[I") (List.mem_of_getElem? (i := 2) rfl)
  have hg : entryFrame m args 3 = entryFrame m ([.ref (a_m 0), .int x1] : List Value).toArray 3 := by rw [hav]
  rw [hg, lg_entry_eq]
  have hl := lv_entry ([.ref (a_m 0), .int x1]) (n := 3) (Nat.le_of_ble_eq_true rfl)
  generalize (lg_sl ([.ref (a_m 0), .int x1]) ++ List.replicate (3 - (lg_sl ([.ref (a_m 0), .int x1])).length) Slot.unset).toArray = ls at hl ⊢
  have hl : lv_has ls 3 [(0, .ref (a_m 0)), (1, .int x1)] := hl
  clear hg
  unfold fX7_takesBack_r at hd
  have b2 : ∀ (x1 : Int32) (s_m : MS) (x2 : Int32), fX7_takesBack_r_b2 fu    x1 s_m x2 = some r → bk_U p l e (headSpec wsX7_takesBack (gRm 0 0)).room s m args below meth c (qUi below args s (dC, dI) vwCl (gty cI cJ cQ) A (fun u : MS => (wM cI cJ a_m u)) r) (dC, dI) vwCl A 3 (wM cI cJ a_m s_m) 2 [(0, .ref (a_m 0)), (1, .int x1), (2, .int x2)] [] := by
    intro x1
    have L : ∀ (n : Nat) (s_m : MS) (x2 : Int32), g_lp (fun _ _ => none) (fX7_takesBack_r_b2B fu    x1) n s_m x2 = some r → bk_U p l e (headSpec wsX7_takesBack (gRm 0 0)).room s m args below meth c (qUi below args s (dC, dI) vwCl (gty cI cJ cQ) A (fun u : MS => (wM cI cJ a_m u)) r) (dC, dI) vwCl A 3 (wM cI cJ a_m s_m) 2 [(0, .ref (a_m 0)), (1, .int x1), (2, .int x2)] [] := by
      intro n
      induction n with
      | zero => intro s_m x2 hd; exact absurd hd (by intro h; cases h)
      | succ n k2 =>
        intro s_m x2 hd
        intro H locs ls hP hD hS hl
        have hd : fX7_takesBack_r_b2B fu    x1 (g_lp (fun _ _ => none) (fX7_takesBack_r_b2B fu    x1) n) s_m x2 = some r := hd
        unfold fX7_takesBack_r_b2B at hd
        refine lv_iload_n hx hb dX7_takesBack_2 rfl (lv_at hl 2 rfl) ?_
        refine lv_bipush (v := 53) hx hb dX7_takesBack_3 kb_53 ?_
        refine rx_icmp_ge hx hb 26 dX7_takesBack_5 rfl hd (fun hd => ?_) (fun hd => ?_)
        · refine lv_iload_n hx hb dX7_takesBack_26 rfl (lv_at hl 1 rfl) ?_
          exact rx_retUi (u := s_m) (w1 := (fun u : MS => (wM cI cJ a_m u))) hx hb hr hlocks hd hK hP hD hS dX7_takesBack_27
        refine lv_aload_n hx hb dX7_takesBack_8 rfl (lv_at hl 0 rfl) ?_
        refine rx_get hx hb hts fiX7_takesBack_X7 hown hK hP 0 rfl rfl 0 (Nat.le_of_ble_eq_true rfl) fl_7 rfl rfl dX7_takesBack_9 ?_
        refine lv_iload_n hx hb dX7_takesBack_12 rfl (lv_at hl 2 rfl) ?_
        refine lv_aload_n hx hb dX7_takesBack_13 rfl (lv_at hl 0 rfl) ?_
        refine rx_get hx hb hts fiX7_takesBack_X7 hown hK hP 0 rfl rfl 3 (Nat.le_of_ble_eq_true rfl) fl_19 rfl rfl dX7_takesBack_14 ?_
        refine lv_iload_n hx hb dX7_takesBack_17 rfl (lv_at hl 2 rfl) ?_
        refine rx_iald hx hb hK hP 4 0 rfl rfl hd dX7_takesBack_18 (fun v18 hd => ?_)
        refine rx_iast (wM cI cJ a_m (muS s_m (Int32.toNatClampNeg x2) v18)) hx hb hK hP hD hS 1 0 rfl rfl hd (wM_uS ..) dX7_takesBack_19 (fun hd H locs hP hD hS => ?_)
        refine rx_iinc (lv' := fun z => (2, .int z) :: [(0, .ref (a_m 0)), (1, .int x1)]) hx hb (j := 2) dX7_takesBack_20 hl rfl ki_1 hd (Nat.le_of_ble_eq_true rfl) (fun _ => rfl) (fun x2_20 hd ls hl => ?_)
        refine lv_goto (tgt := 2) hx hb dX7_takesBack_23 rfl ?_
        exact k2 (muS s_m (Int32.toNatClampNeg x2) v18) x2_20 hd _ _ _ hP hD hS (lv_sub hl [1, 2, 0] rfl)
    exact fun s_m x2 => L fu s_m x2
  refine lv_iconst (v := 0) hx hb dX7_takesBack_0 ki_0 ?_
  refine lv_istore_n (lv' := [(2, .int (0 : Int32)), (0, .ref (a_m 0)), (1, .int x1)]) hx hb dX7_takesBack_1 rfl hl (Nat.le_of_ble_eq_true rfl) rfl (fun ls hl => ?_)
  exact b2   x1 s_m (0 : Int32) hd _ _ _ hP hD hS (lv_sub hl [1, 2, 0] rfl)
/-! copies, made exact: a row's content matters in its range alone -/
theorem Met.post {l : Launch} {y : MethodName} {ws : List Cond} {rm : Room} {Pc : Array Value → State → Prop} {Qc Qc' : Array Value → State → Outcome → State → Prop} {mc ms : Nat} {free : Addr → Prop} (h : Met l y ws rm Pc Qc mc ms free) (hq : ∀ a st o t, Qc a st o t → Qc' a st o t) : Met l y ws rm Pc Qc' mc ms free := by
  intro p e h1 h2 h3 s m args below h4 h5 h6 h7
  obtain ⟨n, o, g1, g2, g3, g4⟩ := h p e h1 h2 h3 s m args below h4 h5 h6 h7
  exact ⟨n, o, g1, g2, g3, hq _ _ _ _ g4.1, g4.2⟩
theorem cq_V_wn {S : Type} {D : va_G} {cl : List vw_C} {tys : List (ClassId × FieldType)} {A : Nat → Prop} {w1 : S → va_W} {u u' : S} {t : State} (h : (w1 u).map wn = (w1 u').map wn) (hV : cq_V D cl tys A w1 u t) : cq_V D cl tys A w1 u' t := ⟨hV.1.wn h, hV.2.1, hV.2.2.wn h⟩
theorem nI_of_lit53 : (53 : Int32) = nI 53 := rfl
theorem ald_nI {ρ : Type} {f : Nat → Int32} {n k : Nat} {K : Int32 → Option ρ} (hk : k < n) (hn : n < 2 ^ 31) : g_ald f n (nI k) K = K (f k) := by
  unfold g_ald g_in
  rw [nI_clamp (by omega)]
  exact if_neg (fun h => h.elim (fun h => nI_pos (by omega) h) (fun h => by omega))
theorem in_nI {ρ : Type} {n k : Nat} {K : Option ρ} (hk : k < n) (hn : n < 2 ^ 31) : g_in (nI k) n K = K := by
  unfold g_in
  rw [nI_clamp (by omega)]
  exact if_neg (fun h => h.elim (fun h => nI_pos (by omega) h) (fun h => by omega))
def cp_from (k : Nat) (f g : Nat → Int32) : Nat → Int32 := fun j => if k ≤ j ∧ j < 53 then f j else g j
theorem cp_step {k : Nat} (hk : k < 53) (f g : Nat → Int32) : cp_from (k + 1) f (upd g k (f k)) = cp_from k f g := by
  funext j
  unfold cp_from upd
  by_cases h1 : j = k
  · subst h1
    rw [if_neg (by omega), if_pos rfl, if_pos (by omega)]
  · by_cases h2 : k + 1 ≤ j ∧ j < 53
    · rw [if_pos h2, if_pos (by omega)]
    · rw [if_neg h2, if_neg h1, if_neg (by omega)]
theorem cp_end (f g : Nat → Int32) : cp_from 53 f g = g := by
  funext j
  unfold cp_from
  rw [if_neg (by omega)]
theorem cp_in (f g : Nat → Int32) {j : Nat} (hj : j < 53) : cp_from 0 f g j = f j := by
  unfold cp_from
  rw [if_pos ⟨by omega, hj⟩]
theorem laysAside_loop (fu : Nat) : ∀ (n k fuel : Nat) (x : MS), k + n = 53 → n < fuel → g_lp (fun _ _ => none) (fX7_laysAside_r_b2B fu) fuel x (nI k) = some (msAside x (cp_from k (mgS x) (mgAside x))) := by
  intro n
  induction n with
  | zero =>
    intro k fuel x hk hf
    obtain ⟨f, rfl⟩ : ∃ f, fuel = f + 1 := ⟨fuel - 1, by omega⟩
    have : k = 53 := by omega
    subst this
    rw [g_lp_s]
    unfold fX7_laysAside_r_b2B
    rw [if_pos (show (53 : Int32) ≤ nI 53 by decide), cp_end]
    rfl
  | succ n ih =>
    intro k fuel x hk hf
    obtain ⟨f, rfl⟩ : ∃ f, fuel = f + 1 := ⟨fuel - 1, by omega⟩
    rw [g_lp_s]
    unfold fX7_laysAside_r_b2B
    rw [if_neg (show ¬ (53 : Int32) ≤ nI k from nI_ge (b := 53) (by omega) (by omega)), ald_nI (by omega) (by omega), in_nI (by omega) (by omega)]
    show g_lp (fun _ _ => none) (fX7_laysAside_r_b2B fu) f (muAside x (nI k).toNatClampNeg (mgS x k)) (nI k + 1) = _
    rw [nI_1, nI_clamp (by omega), ih (k + 1) f _ (by omega) (by omega)]
    show some (msAside (muAside x k (mgS x k)) (cp_from (k + 1) (mgS x) (upd (mgAside x) k (mgS x k)))) = _
    rw [cp_step (by omega)]
    rfl
theorem laysAside_r (x : MS) : fX7_laysAside_r 60 x = some (msAside x (cp_from 0 (mgS x) (mgAside x))) := laysAside_loop 60 53 0 60 x rfl (by decide)
theorem takesBack_loop (fu : Nat) (v : Int32) : ∀ (n k fuel : Nat) (x : MS), k + n = 53 → n < fuel → g_lp (fun _ _ => none) (fX7_takesBack_r_b2B fu v) fuel x (nI k) = some (v, msS x (cp_from k (mgAside x) (mgS x))) := by
  intro n
  induction n with
  | zero =>
    intro k fuel x hk hf
    obtain ⟨f, rfl⟩ : ∃ f, fuel = f + 1 := ⟨fuel - 1, by omega⟩
    have : k = 53 := by omega
    subst this
    rw [g_lp_s]
    unfold fX7_takesBack_r_b2B
    rw [if_pos (show (53 : Int32) ≤ nI 53 by decide), cp_end]
    rfl
  | succ n ih =>
    intro k fuel x hk hf
    obtain ⟨f, rfl⟩ : ∃ f, fuel = f + 1 := ⟨fuel - 1, by omega⟩
    rw [g_lp_s]
    unfold fX7_takesBack_r_b2B
    rw [if_neg (show ¬ (53 : Int32) ≤ nI k from nI_ge (b := 53) (by omega) (by omega)), ald_nI (by omega) (by omega), in_nI (by omega) (by omega)]
    show g_lp (fun _ _ => none) (fX7_takesBack_r_b2B fu v) f (muS x (nI k).toNatClampNeg (mgAside x k)) (nI k + 1) = _
    rw [nI_1, nI_clamp (by omega), ih (k + 1) f _ (by omega) (by omega)]
    show some (v, msS (muS x k (mgAside x k)) (cp_from (k + 1) (mgAside x) (upd (mgS x) k (mgAside x k)))) = _
    rw [cp_step (by omega)]
    rfl
theorem takesBack_r (x : MS) (v : Int32) : fX7_takesBack_r 60 x v = some (v, msS x (cp_from 0 (mgAside x) (mgS x))) := takesBack_loop 60 v 53 0 60 x rfl (by decide)
theorem wM_aside (cI cJ : ClassId) (a : Nat → Nat) (x : MS) {f g : Nat → Int32} (h : ∀ j, j < 53 → f j = g j) : (wM cI cJ a (msAside x f)).map wn = (wM cI cJ a (msAside x g)).map wn := by
  have e := wn_i (a 4) cI 53 h
  show [_, _, _, _, wn (a 4, .inl (cI, 53, .inl f)), _, _, _, _, _, _, _] = [_, _, _, _, wn (a 4, .inl (cI, 53, .inl g)), _, _, _, _, _, _, _]
  rw [e]
  rfl
theorem wM_s (cI cJ : ClassId) (a : Nat → Nat) (x : MS) {f g : Nat → Int32} (h : ∀ j, j < 53 → f j = g j) : (wM cI cJ a (msS x f)).map wn = (wM cI cJ a (msS x g)).map wn := by
  have e := wn_i (a 1) cI 53 h
  show [_, wn (a 1, .inl (cI, 53, .inl f)), _, _, _, _, _, _, _, _, _, _] = [_, wn (a 1, .inl (cI, 53, .inl g)), _, _, _, _, _, _, _, _, _, _]
  rw [e]
  rfl
theorem c_X7_laysAside (l : Launch) (dC : Nat → ClassId) (dI : Nat → Nat → Nat) (cI cJ cQ : ClassId) (fu : Nat) (a_m : Nat → Nat) (sz : Nat) (s_m : MS) (r : MS) (hd : fX7_laysAside fu s_m = some r) : mUv l yX7_laysAside wsX7_laysAside (gRm 0 0) [.ref (a_m 0)] (dC, dI) vwCl (gty cI cJ cQ) (wM cI cJ a_m s_m) sz (fun u : MS => (wM cI cJ a_m u)) r := by
  have hr : msAside s_m (mgS s_m) = r := Option.some.inj hd
  subst hr
  refine Met.post (c_X7_laysAside_r l dC dI cI cJ cQ 60 a_m sz s_m _ (laysAside_r s_m)) (fun a st o t h => ?_)
  obtain ⟨⟨u, h1, h2, h3⟩, h4⟩ := h
  subst h2
  exact ⟨⟨_, h1, rfl, cq_V_wn (wM_aside cI cJ a_m s_m (fun j hj => cp_in _ _ hj)) h3⟩, h4⟩
theorem c_X7_takesBack (l : Launch) (dC : Nat → ClassId) (dI : Nat → Nat → Nat) (cI cJ cQ : ClassId) (fu : Nat) (a_m : Nat → Nat) (sz : Nat) (s_m : MS) (x1 : Int32) (r : Int32 × MS) (hd : fX7_takesBack fu s_m x1 = some r) : mUi l yX7_takesBack wsX7_takesBack (gRm 0 0) [.ref (a_m 0), .int x1] (dC, dI) vwCl (gty cI cJ cQ) (wM cI cJ a_m s_m) sz (fun u : MS => (wM cI cJ a_m u)) r := by
  have hr : (x1, msS s_m (mgAside s_m)) = r := Option.some.inj hd
  subst hr
  refine Met.post (c_X7_takesBack_r l dC dI cI cJ cQ 60 a_m sz s_m x1 _ (takesBack_r s_m x1)) (fun a st o t h => ?_)
  obtain ⟨⟨v, u, h1, h2, h3⟩, h4⟩ := h
  have h5 : v = x1 := congrArg Prod.fst h2
  have h6 : u = msS s_m (cp_from 0 (mgAside s_m) (mgS s_m)) := congrArg Prod.snd h2
  subst h5; subst h6
  exact ⟨⟨_, _, h1, rfl, cq_V_wn (wM_s cI cJ a_m s_m (fun j hj => cp_in _ _ hj)) h3⟩, h4⟩
/-! become: this becomes the other -/
theorem va_cpy_in {f g : Nat → Int32} {n : Nat} {m : Int32} (hm : m.toNatClampNeg = n) {j : Nat} (hj : j < n) : va_cpy f g (Int32.toNatClampNeg 0) (Int32.toNatClampNeg 0) (Int32.toNatClampNeg m) j = f j := by
  rw [hm, show Int32.toNatClampNeg 0 = 0 from rfl]
  exact sb_cpy0 hj
theorem wP_cg (cI cJ : ClassId) (a : Nat → Nat) (x y : PS) (h1 : ∀ j, j < 4 → pgNeed x j = pgNeed y j) (h2 : ∀ j, j < 4 → pgStore x j = pgStore y j) (h3 : ∀ j, j < 4 → pgThirst x j = pgThirst y j) (h4 : ∀ j, j < 4 → pgSends x j = pgSends y j) (h5 : ∀ j, j < 3 → pgWater x j = pgWater y j) (h6 : pgDay x = pgDay y) (h7 : pgDryFarms x = pgDryFarms y) (h8 : pgPeople x = pgPeople y) (h9 : ∀ j, j < 8 → pgKinds x j = pgKinds y j) (h10 : ∀ j, j < 8 → pgDeeds x j = pgDeeds y j) (h11 : ∀ j, j < 8 → pgSteps x j = pgSteps y j) (h12 : ∀ j, j < 8 → pgAsked x j = pgAsked y j) : (wP cI cJ a x).map wn = (wP cI cJ a y).map wn := by
  unfold wP
  simp only [List.map_cons, List.map_nil]
  rw [wn_i (a 1) cI 4 h1, wn_i (a 2) cI 4 h2, wn_i (a 3) cI 4 h3, wn_i (a 4) cI 4 h4, wn_i (a 5) cI 3 h5, wn_i (a 6) cI 8 h9, wn_i (a 7) cI 8 h10, wn_i (a 8) cI 8 h11, wn_i (a 9) cI 8 h12, h6, h7, h8]
theorem g_cpy4 {ρ : Type} (k : Option ρ) : g_cpy (0 : Int32) (0 : Int32) (4 : Int32) 4 4 k = k := if_pos (by decide)
theorem g_cpy3 {ρ : Type} (k : Option ρ) : g_cpy (0 : Int32) (0 : Int32) (3 : Int32) 3 3 k = k := if_pos (by decide)
theorem g_cpy8 {ρ : Type} (k : Option ρ) : g_cpy (0 : Int32) (0 : Int32) (8 : Int32) 8 8 k = k := if_pos (by decide)
theorem become_r (fu : Nat) (x y : PS) (cI cJ : ClassId) (a : Nat → Nat) : ∃ z, fX1_become_r fu x y = some z ∧ (wP cI cJ a z).map wn = (wP cI cJ a y).map wn := by
  refine ⟨_, by unfold fX1_become_r; rw [g_cpy4, g_cpy4, g_cpy4, g_cpy4, g_cpy3, g_cpy8, g_cpy8, g_cpy8, g_cpy8], ?_⟩
  exact wP_cg cI cJ a _ _ (fun j hj => va_cpy_in (m := 4) rfl hj) (fun j hj => va_cpy_in (m := 4) rfl hj) (fun j hj => va_cpy_in (m := 4) rfl hj) (fun j hj => va_cpy_in (m := 4) rfl hj) (fun j hj => va_cpy_in (m := 3) rfl hj) rfl rfl rfl (fun j hj => va_cpy_in (m := 8) rfl hj) (fun j hj => va_cpy_in (m := 8) rfl hj) (fun j hj => va_cpy_in (m := 8) rfl hj) (fun j hj => va_cpy_in (m := 8) rfl hj)
theorem c_X1_become (l : Launch) (dC : Nat → ClassId) (dI : Nat → Nat → Nat) (cI cJ cQ : ClassId) (fu : Nat) (a_h a_q : Nat → Nat) (sz : Nat) (s_h s_q : PS) (r : PS) (hd : fX1_become fu s_h s_q = some r) : mUv l yX1_become wsX1_become (gRm 1 40) [.ref (a_h 0), .ref (a_q 0)] (dC, dI) vwCl (gty cI cJ cQ) (wP cI cJ a_h s_h ++ (wP cI cJ a_q s_q)) sz (fun u : PS => (wP cI cJ a_h u ++ (wP cI cJ a_q s_q))) r := by
  have hr : s_q = r := Option.some.inj hd
  subst hr
  obtain ⟨z, hz, hw⟩ := become_r fu s_h s_q cI cJ a_h
  refine Met.post (c_X1_become_r l dC dI cI cJ cQ fu a_h a_q sz s_h s_q z hz) (fun a st o t h => ?_)
  obtain ⟨⟨u, h1, h2, h3⟩, h4⟩ := h
  subst h2
  exact ⟨⟨_, h1, rfl, cq_V_wn (by rw [List.map_append, List.map_append, hw]) h3⟩, h4⟩
