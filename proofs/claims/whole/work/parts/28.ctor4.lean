theorem fiX5_init_X5 : ∀ w ∈ wsX50, w ∈ wsX5_init := mem_r _ [12, 13, 14, 15, 16, 17, 18] rfl
theorem cdI_X5_init : yX5_init.cls ≠ "java/lang/invoke/MethodHandle" ∧ yX5_init.cls ≠ "java/lang/invoke/VarHandle" ∧ (parseMethodDescriptor yX5_init.desc).map (fun d => d.parameters.length) = some 0 := by decide +kernel
set_option maxHeartbeats 8000000 in
set_option maxRecDepth 100000 in
theorem c_X5_init (l : Launch) (dC : Nat → ClassId) (dI : Nat → Nat → Nat) (cI cJ cQ : ClassId) (h0 sz : Nat) : mC l yX5_init wsX5_init (cRm 1 5 604 20) h0 (dC, dI) vwCl (gty cI cJ cQ) (.inr (4, [.null, .null, .null, .null, .null, .int 0, .int 0])) sz (fun _ => True) (fun u => u 0) (fun u => wTK cI cJ u TK0) 5 604 := by
  refine Met.ofW (cc := cX5_init) (maxL := 1) (ret := none) (by decide) rfl ?_
  intro p e s m args below meth c s₁ B hml hv
  obtain ⟨hav, ⟨hsz, hP, hK, hD0⟩, hE⟩ := hv
  subst hsz
  have hD := hD0.self (sz := s.heap.size)
  generalize hAe : va_A [(h0, .inr (4, [.null, .null, .null, .null, .null, .int 0, .int 0]))] s.heap.size = A at hD ⊢
  have hA : ∀ q : Nat, s.heap.size ≤ q → A q := fun q h => by rw [← hAe]; exact Or.inr h
  have hS : va_S A s.heap s.heap [] := va_S.rf
  have hx := B.exec
  have hb := B.bytes
  have hr := B.returns
  have hts := atoms_spec (ws := wsX5_init) B.pre
  have hown : s.vm.findClass RX5 = some m.cls := findClass_of_methodNamed B.named
  have hlocks := B.notSynchronized
  have hin : meth.name = "<init>" := (name_of_methodNamed B.named B.method).1
  have hcf : CallFix p m c cX5_init 1 s args wsX5_init RX5 := ⟨hx, hb, hml, hown, hts⟩
  have fl_9 := hts (.fieldLink RX5 9 "BucketGift$Tokens" "sorts" "[I") (List.mem_of_getElem? (i := 5) rfl)
  have fl_15 := hts (.fieldLink RX5 15 "BucketGift$Tokens" "starts" "[I") (List.mem_of_getElem? (i := 6) rfl)
  have fl_18 := hts (.fieldLink RX5 18 "BucketGift$Tokens" "lengths" "[I") (List.mem_of_getElem? (i := 7) rfl)
  have fl_21 := hts (.fieldLink RX5 21 "BucketGift$Tokens" "values" "[I") (List.mem_of_getElem? (i := 8) rfl)
  have fl_24 := hts (.fieldLink RX5 24 "BucketGift$Tokens" "bytes" "[I") (List.mem_of_getElem? (i := 9) rfl)
  have fl_27 := hts (.fieldLink RX5 27 "BucketGift$Tokens" "many" "I") (List.mem_of_getElem? (i := 10) rfl)
  have fl_31 := hts (.fieldLink RX5 31 "BucketGift$Tokens" "at" "I") (List.mem_of_getElem? (i := 11) rfl)
  have hg : entryFrame m args 1 = entryFrame m ([.ref h0] : List Value).toArray 1 := by rw [hav]
  rw [hg, lg_entry_eq]
  have hl := lv_entry ([.ref h0]) (n := 1) (Nat.le_of_ble_eq_true rfl)
  generalize (lg_sl ([.ref h0]) ++ List.replicate (1 - (lg_sl ([.ref h0])).length) Slot.unset).toArray = ls at hl ⊢
  have hl : lv_has ls 1 [(0, .ref h0)] := hl
  clear hg
  refine lv_aload_n hx hb dX5_init_0 rfl (lv_at hl 0 rfl) ?_
  refine W.objInit hx hb hown (hts (.methodLink RX5 1 objectInit) (List.mem_of_getElem? (i := 1) rfl)) (hts (.instanceMethod objectInit) (List.mem_of_getElem? (i := 2) rfl)) (hts (.code objectInit ⟨#[0xb1]⟩ 1 none) (List.mem_of_getElem? (i := 3) rfl)) rfl (by rw [hml]; exact hl.1) rfl dX5_init_1 (Nat.le_of_ble_eq_true rfl) (Nat.le_of_ble_eq_true rfl) ?_
  refine W.eq (g2 := F0 m 4 ls []) rfl ?_
  refine lv_aload_n hx hb dX5_init_4 rfl (lv_at hl 0 rfl) ?_
  refine lv_bipush (v := 121) hx hb dX5_init_5 kb_121 ?_
  refine rx_newi hx hb (hts (.arrayClass .int) (List.mem_of_getElem? (i := 4) rfl)) hK hP hD hS hA 0 rfl 121 (by decide) (by decide) (by decide) (Nat.le_of_ble_eq_true rfl) (Nat.le_of_ble_eq_true rfl) dX5_init_7 (fun q7 H hP hD hS => ?_)
  refine W.widen (k := 1) (n := 121) (Nat.le_of_ble_eq_true rfl) (Nat.le_of_ble_eq_true rfl) ?_
  have hP : va_P (dC, dI) vwCl [(h0, .inr (4, [.null, .null, .null, .null, .null, .int 0, .int 0])), (q7, .inl (cI, 121, .inl (fun _ => 0)))] H := hP
  have hD : va_D A [(h0, .inr (4, [.null, .null, .null, .null, .null, .int 0, .int 0])), (q7, .inl (cI, 121, .inl (fun _ => 0)))] := hD
  refine rx_putF [(h0, .inr (4, [.ref q7, .null, .null, .null, .null, .int 0, .int 0])), (q7, .inl (cI, 121, .inl (fun _ => 0)))] hx hb hts fiX5_init_X5 tyX5 tyX5_ok nmX5 hown hK hP hD hS 0 rfl rfl 0 (Nat.le_of_ble_eq_true rfl) fl_9 rfl rfl hin rfl rfl rfl (Nat.le_of_ble_eq_true rfl) rfl dX5_init_9 (fun H locs hP hD hS => ?_)
  refine lv_aload_n hx hb dX5_init_12 rfl (lv_at hl 0 rfl) ?_
  refine lv_bipush (v := 121) hx hb dX5_init_13 kb_121 ?_
  refine rx_newi hx hb (hts (.arrayClass .int) (List.mem_of_getElem? (i := 4) rfl)) hK hP hD hS hA 0 rfl 121 (by decide) (by decide) (by decide) (Nat.le_of_ble_eq_true rfl) (Nat.le_of_ble_eq_true rfl) dX5_init_15 (fun q15 H hP hD hS => ?_)
  refine W.widen (k := 2) (n := 242) (Nat.le_of_ble_eq_true rfl) (Nat.le_of_ble_eq_true rfl) ?_
  have hP : va_P (dC, dI) vwCl [(h0, .inr (4, [.ref q7, .null, .null, .null, .null, .int 0, .int 0])), (q7, .inl (cI, 121, .inl (fun _ => 0))), (q15, .inl (cI, 121, .inl (fun _ => 0)))] H := hP
  have hD : va_D A [(h0, .inr (4, [.ref q7, .null, .null, .null, .null, .int 0, .int 0])), (q7, .inl (cI, 121, .inl (fun _ => 0))), (q15, .inl (cI, 121, .inl (fun _ => 0)))] := hD
  refine rx_putF [(h0, .inr (4, [.ref q7, .ref q15, .null, .null, .null, .int 0, .int 0])), (q7, .inl (cI, 121, .inl (fun _ => 0))), (q15, .inl (cI, 121, .inl (fun _ => 0)))] hx hb hts fiX5_init_X5 tyX5 tyX5_ok nmX5 hown hK hP hD hS 0 rfl rfl 1 (Nat.le_of_ble_eq_true rfl) fl_15 rfl rfl hin rfl rfl rfl (Nat.le_of_ble_eq_true rfl) rfl dX5_init_17 (fun H locs hP hD hS => ?_)
  refine lv_aload_n hx hb dX5_init_20 rfl (lv_at hl 0 rfl) ?_
  refine lv_bipush (v := 121) hx hb dX5_init_21 kb_121 ?_
  refine rx_newi hx hb (hts (.arrayClass .int) (List.mem_of_getElem? (i := 4) rfl)) hK hP hD hS hA 0 rfl 121 (by decide) (by decide) (by decide) (Nat.le_of_ble_eq_true rfl) (Nat.le_of_ble_eq_true rfl) dX5_init_23 (fun q23 H hP hD hS => ?_)
  refine W.widen (k := 3) (n := 363) (Nat.le_of_ble_eq_true rfl) (Nat.le_of_ble_eq_true rfl) ?_
  have hP : va_P (dC, dI) vwCl [(h0, .inr (4, [.ref q7, .ref q15, .null, .null, .null, .int 0, .int 0])), (q7, .inl (cI, 121, .inl (fun _ => 0))), (q15, .inl (cI, 121, .inl (fun _ => 0))), (q23, .inl (cI, 121, .inl (fun _ => 0)))] H := hP
  have hD : va_D A [(h0, .inr (4, [.ref q7, .ref q15, .null, .null, .null, .int 0, .int 0])), (q7, .inl (cI, 121, .inl (fun _ => 0))), (q15, .inl (cI, 121, .inl (fun _ => 0))), (q23, .inl (cI, 121, .inl (fun _ => 0)))] := hD
  refine rx_putF [(h0, .inr (4, [.ref q7, .ref q15, .ref q23, .null, .null, .int 0, .int 0])), (q7, .inl (cI, 121, .inl (fun _ => 0))), (q15, .inl (cI, 121, .inl (fun _ => 0))), (q23, .inl (cI, 121, .inl (fun _ => 0)))] hx hb hts fiX5_init_X5 tyX5 tyX5_ok nmX5 hown hK hP hD hS 0 rfl rfl 2 (Nat.le_of_ble_eq_true rfl) fl_18 rfl rfl hin rfl rfl rfl (Nat.le_of_ble_eq_true rfl) rfl dX5_init_25 (fun H locs hP hD hS => ?_)
  refine lv_aload_n hx hb dX5_init_28 rfl (lv_at hl 0 rfl) ?_
  refine lv_bipush (v := 121) hx hb dX5_init_29 kb_121 ?_
  refine rx_newi hx hb (hts (.arrayClass .int) (List.mem_of_getElem? (i := 4) rfl)) hK hP hD hS hA 0 rfl 121 (by decide) (by decide) (by decide) (Nat.le_of_ble_eq_true rfl) (Nat.le_of_ble_eq_true rfl) dX5_init_31 (fun q31 H hP hD hS => ?_)
  refine W.widen (k := 4) (n := 484) (Nat.le_of_ble_eq_true rfl) (Nat.le_of_ble_eq_true rfl) ?_
  have hP : va_P (dC, dI) vwCl [(h0, .inr (4, [.ref q7, .ref q15, .ref q23, .null, .null, .int 0, .int 0])), (q7, .inl (cI, 121, .inl (fun _ => 0))), (q15, .inl (cI, 121, .inl (fun _ => 0))), (q23, .inl (cI, 121, .inl (fun _ => 0))), (q31, .inl (cI, 121, .inl (fun _ => 0)))] H := hP
  have hD : va_D A [(h0, .inr (4, [.ref q7, .ref q15, .ref q23, .null, .null, .int 0, .int 0])), (q7, .inl (cI, 121, .inl (fun _ => 0))), (q15, .inl (cI, 121, .inl (fun _ => 0))), (q23, .inl (cI, 121, .inl (fun _ => 0))), (q31, .inl (cI, 121, .inl (fun _ => 0)))] := hD
  refine rx_putF [(h0, .inr (4, [.ref q7, .ref q15, .ref q23, .ref q31, .null, .int 0, .int 0])), (q7, .inl (cI, 121, .inl (fun _ => 0))), (q15, .inl (cI, 121, .inl (fun _ => 0))), (q23, .inl (cI, 121, .inl (fun _ => 0))), (q31, .inl (cI, 121, .inl (fun _ => 0)))] hx hb hts fiX5_init_X5 tyX5 tyX5_ok nmX5 hown hK hP hD hS 0 rfl rfl 3 (Nat.le_of_ble_eq_true rfl) fl_21 rfl rfl hin rfl rfl rfl (Nat.le_of_ble_eq_true rfl) rfl dX5_init_33 (fun H locs hP hD hS => ?_)
  refine lv_aload_n hx hb dX5_init_36 rfl (lv_at hl 0 rfl) ?_
  refine lv_bipush (v := 120) hx hb dX5_init_37 kb_120 ?_
  refine rx_newi hx hb (hts (.arrayClass .int) (List.mem_of_getElem? (i := 4) rfl)) hK hP hD hS hA 0 rfl 120 (by decide) (by decide) (by decide) (Nat.le_of_ble_eq_true rfl) (Nat.le_of_ble_eq_true rfl) dX5_init_39 (fun q39 H hP hD hS => ?_)
  refine W.widen (k := 5) (n := 604) (Nat.le_of_ble_eq_true rfl) (Nat.le_of_ble_eq_true rfl) ?_
  have hP : va_P (dC, dI) vwCl [(h0, .inr (4, [.ref q7, .ref q15, .ref q23, .ref q31, .null, .int 0, .int 0])), (q7, .inl (cI, 121, .inl (fun _ => 0))), (q15, .inl (cI, 121, .inl (fun _ => 0))), (q23, .inl (cI, 121, .inl (fun _ => 0))), (q31, .inl (cI, 121, .inl (fun _ => 0))), (q39, .inl (cI, 120, .inl (fun _ => 0)))] H := hP
  have hD : va_D A [(h0, .inr (4, [.ref q7, .ref q15, .ref q23, .ref q31, .null, .int 0, .int 0])), (q7, .inl (cI, 121, .inl (fun _ => 0))), (q15, .inl (cI, 121, .inl (fun _ => 0))), (q23, .inl (cI, 121, .inl (fun _ => 0))), (q31, .inl (cI, 121, .inl (fun _ => 0))), (q39, .inl (cI, 120, .inl (fun _ => 0)))] := hD
  refine rx_putF [(h0, .inr (4, [.ref q7, .ref q15, .ref q23, .ref q31, .ref q39, .int 0, .int 0])), (q7, .inl (cI, 121, .inl (fun _ => 0))), (q15, .inl (cI, 121, .inl (fun _ => 0))), (q23, .inl (cI, 121, .inl (fun _ => 0))), (q31, .inl (cI, 121, .inl (fun _ => 0))), (q39, .inl (cI, 120, .inl (fun _ => 0)))] hx hb hts fiX5_init_X5 tyX5 tyX5_ok nmX5 hown hK hP hD hS 0 rfl rfl 4 (Nat.le_of_ble_eq_true rfl) fl_24 rfl rfl hin rfl rfl rfl (Nat.le_of_ble_eq_true rfl) rfl dX5_init_41 (fun H locs hP hD hS => ?_)
  refine lv_aload_n hx hb dX5_init_44 rfl (lv_at hl 0 rfl) ?_
  refine lv_iconst (v := 0) hx hb dX5_init_45 ki_0 ?_
  refine rx_puti [(h0, .inr (4, [.ref q7, .ref q15, .ref q23, .ref q31, .ref q39, .int (0 : Int32), .int 0])), (q7, .inl (cI, 121, .inl (fun _ => 0))), (q15, .inl (cI, 121, .inl (fun _ => 0))), (q23, .inl (cI, 121, .inl (fun _ => 0))), (q31, .inl (cI, 121, .inl (fun _ => 0))), (q39, .inl (cI, 120, .inl (fun _ => 0)))] hx hb hts fiX5_init_X5 tyX5 tyX5_ok nmX5 hown hK hP hD hS 0 rfl rfl 5 (Nat.le_of_ble_eq_true rfl) fl_27 rfl rfl rfl (Nat.le_of_ble_eq_true rfl) rfl dX5_init_46 (fun H locs hP hD hS => ?_)
  refine lv_aload_n hx hb dX5_init_49 rfl (lv_at hl 0 rfl) ?_
  refine lv_iconst (v := 0) hx hb dX5_init_50 ki_0 ?_
  refine rx_puti [(h0, .inr (4, [.ref q7, .ref q15, .ref q23, .ref q31, .ref q39, .int (0 : Int32), .int (0 : Int32)])), (q7, .inl (cI, 121, .inl (fun _ => 0))), (q15, .inl (cI, 121, .inl (fun _ => 0))), (q23, .inl (cI, 121, .inl (fun _ => 0))), (q31, .inl (cI, 121, .inl (fun _ => 0))), (q39, .inl (cI, 120, .inl (fun _ => 0)))] hx hb hts fiX5_init_X5 tyX5 tyX5_ok nmX5 hown hK hP hD hS 0 rfl rfl 6 (Nat.le_of_ble_eq_true rfl) fl_31 rfl rfl rfl (Nat.le_of_ble_eq_true rfl) rfl dX5_init_51 (fun H locs hP hD hS => ?_)
  have hP : va_P (dC, dI) vwCl ((fun u => wTK cI cJ u TK0) (fun j => ([h0, q7, q15, q23, q31, q39] : List Nat).getD j 0)) H := hP.sub [0, 1, 2, 3, 4, 5] rfl
  have hD : va_D A ((fun u => wTK cI cJ u TK0) (fun j => ([h0, q7, q15, q23, q31, q39] : List Nat).getD j 0)) := hD.sub [0, 1, 2, 3, 4, 5] rfl rfl
  exact rx_retC (z := (fun u => u 0)) (u := (fun j => ([h0, q7, q15, q23, q31, q39] : List Nat).getD j 0)) (w1 := (fun u => wTK cI cJ u TK0)) hx hb hr hlocks rfl hK hP hD hS dX5_init_54
