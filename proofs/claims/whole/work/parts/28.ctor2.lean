theorem fiX3_init_X3 : ∀ w ∈ wsX30, w ∈ wsX3_init := mem_r _ [8, 9, 10] rfl
theorem cdI_X3_init : yX3_init.cls ≠ "java/lang/invoke/MethodHandle" ∧ yX3_init.cls ≠ "java/lang/invoke/VarHandle" ∧ (parseMethodDescriptor yX3_init.desc).map (fun d => d.parameters.length) = some 0 := by decide +kernel
set_option maxHeartbeats 8000000 in
set_option maxRecDepth 100000 in
theorem c_X3_init (l : Launch) (dC : Nat → ClassId) (dI : Nat → Nat → Nat) (cI cJ cQ : ClassId) (h0 sz : Nat) : mC l yX3_init wsX3_init (cRm 1 1 40 20) h0 (dC, dI) vwCl (gty cI cJ cQ) (.inr (2, [.int 0, .int 0, .null])) sz (fun _ => True) (fun u => u 0) (fun u => wS1 cI cJ u S10) 1 40 := by
  refine Met.ofW (cc := cX3_init) (maxL := 1) (ret := none) (by decide) rfl ?_
  intro p e s m args below meth c s₁ B hml hv
  obtain ⟨hav, ⟨hsz, hP, hK, hD0⟩, hE⟩ := hv
  subst hsz
  have hD := hD0.self (sz := s.heap.size)
  generalize hAe : va_A [(h0, .inr (2, [.int 0, .int 0, .null]))] s.heap.size = A at hD ⊢
  have hA : ∀ q : Nat, s.heap.size ≤ q → A q := fun q h => by rw [← hAe]; exact Or.inr h
  have hS : va_S A s.heap s.heap [] := va_S.rf
  have hx := B.exec
  have hb := B.bytes
  have hr := B.returns
  have hts := atoms_spec (ws := wsX3_init) B.pre
  have hown : s.vm.findClass RX3 = some m.cls := findClass_of_methodNamed B.named
  have hlocks := B.notSynchronized
  have hin : meth.name = "<init>" := (name_of_methodNamed B.named B.method).1
  have hcf : CallFix p m c cX3_init 1 s args wsX3_init RX3 := ⟨hx, hb, hml, hown, hts⟩
  have fl_7 := hts (.fieldLink RX3 7 "BucketGift$Sheet" "bits" "I") (List.mem_of_getElem? (i := 4) rfl)
  have fl_13 := hts (.fieldLink RX3 13 "BucketGift$Sheet" "size" "I") (List.mem_of_getElem? (i := 5) rfl)
  have fl_16 := hts (.fieldLink RX3 16 "BucketGift$Sheet" "numbers" "[J") (List.mem_of_getElem? (i := 7) rfl)
  have hg : entryFrame m args 1 = entryFrame m ([.ref h0] : List Value).toArray 1 := by rw [hav]
  rw [hg, lg_entry_eq]
  have hl := lv_entry ([.ref h0]) (n := 1) (Nat.le_of_ble_eq_true rfl)
  generalize (lg_sl ([.ref h0]) ++ List.replicate (1 - (lg_sl ([.ref h0])).length) Slot.unset).toArray = ls at hl ⊢
  have hl : lv_has ls 1 [(0, .ref h0)] := hl
  clear hg
  refine lv_aload_n hx hb dX3_init_0 rfl (lv_at hl 0 rfl) ?_
  refine W.objInit hx hb hown (hts (.methodLink RX3 1 objectInit) (List.mem_of_getElem? (i := 1) rfl)) (hts (.instanceMethod objectInit) (List.mem_of_getElem? (i := 2) rfl)) (hts (.code objectInit ⟨#[0xb1]⟩ 1 none) (List.mem_of_getElem? (i := 3) rfl)) rfl (by rw [hml]; exact hl.1) rfl dX3_init_1 (Nat.le_of_ble_eq_true rfl) (Nat.le_of_ble_eq_true rfl) ?_
  refine W.eq (g2 := F0 m 4 ls []) rfl ?_
  refine lv_aload_n hx hb dX3_init_4 rfl (lv_at hl 0 rfl) ?_
  refine lv_iconst (v := 0) hx hb dX3_init_5 ki_0 ?_
  refine rx_puti [(h0, .inr (2, [.int (0 : Int32), .int 0, .null]))] hx hb hts fiX3_init_X3 tyX3 tyX3_ok nmX3 hown hK hP hD hS 0 rfl rfl 0 (Nat.le_of_ble_eq_true rfl) fl_7 rfl rfl rfl (Nat.le_of_ble_eq_true rfl) rfl dX3_init_6 (fun H locs hP hD hS => ?_)
  refine lv_aload_n hx hb dX3_init_9 rfl (lv_at hl 0 rfl) ?_
  refine lv_iconst (v := 0) hx hb dX3_init_10 ki_0 ?_
  refine rx_puti [(h0, .inr (2, [.int (0 : Int32), .int (0 : Int32), .null]))] hx hb hts fiX3_init_X3 tyX3 tyX3_ok nmX3 hown hK hP hD hS 0 rfl rfl 1 (Nat.le_of_ble_eq_true rfl) fl_13 rfl rfl rfl (Nat.le_of_ble_eq_true rfl) rfl dX3_init_11 (fun H locs hP hD hS => ?_)
  refine lv_aload_n hx hb dX3_init_14 rfl (lv_at hl 0 rfl) ?_
  refine lv_bipush (v := 40) hx hb dX3_init_15 kb_40 ?_
  refine rx_newl hx hb (hts (.arrayClass .long) (List.mem_of_getElem? (i := 6) rfl)) hK hP hD hS hA 1 rfl 40 (by decide) (by decide) (by decide) (Nat.le_of_ble_eq_true rfl) (Nat.le_of_ble_eq_true rfl) dX3_init_17 (fun q17 H hP hD hS => ?_)
  refine W.widen (k := 1) (n := 40) (Nat.le_of_ble_eq_true rfl) (Nat.le_of_ble_eq_true rfl) ?_
  have hP : va_P (dC, dI) vwCl [(h0, .inr (2, [.int (0 : Int32), .int (0 : Int32), .null])), (q17, .inl (cJ, 40, .inr (.inl (fun _ => 0))))] H := hP
  have hD : va_D A [(h0, .inr (2, [.int (0 : Int32), .int (0 : Int32), .null])), (q17, .inl (cJ, 40, .inr (.inl (fun _ => 0))))] := hD
  refine rx_putF [(h0, .inr (2, [.int (0 : Int32), .int (0 : Int32), .ref q17])), (q17, .inl (cJ, 40, .inr (.inl (fun _ => 0))))] hx hb hts fiX3_init_X3 tyX3 tyX3_ok nmX3 hown hK hP hD hS 0 rfl rfl 2 (Nat.le_of_ble_eq_true rfl) fl_16 rfl rfl hin rfl rfl rfl (Nat.le_of_ble_eq_true rfl) rfl dX3_init_19 (fun H locs hP hD hS => ?_)
  have hP : va_P (dC, dI) vwCl ((fun u => wS1 cI cJ u S10) (fun j => ([h0, q17] : List Nat).getD j 0)) H := hP.sub [0, 1] rfl
  have hD : va_D A ((fun u => wS1 cI cJ u S10) (fun j => ([h0, q17] : List Nat).getD j 0)) := hD.sub [0, 1] rfl rfl
  exact rx_retC (z := (fun u => u 0)) (u := (fun j => ([h0, q17] : List Nat).getD j 0)) (w1 := (fun u => wS1 cI cJ u S10)) hx hb hr hlocks rfl hK hP hD hS dX3_init_22
