theorem fiX4_append_X4 : ∀ w ∈ wsX40, w ∈ wsX4_append := mem_r _ [3, 4] rfl
set_option maxHeartbeats 8000000 in
set_option maxRecDepth 100000 in
theorem c_X4_append (l : Launch) (dC : Nat → ClassId) (dI : Nat → Nat → Nat) (cI cJ cQ : ClassId) (fu : Nat) (a_p : Nat → Nat) (sz : Nat) (s_p : TPS) (x1 : Int32) (x2 : Int32) (r : TPS) (hd : fX4_append fu  s_p x1 x2 = some r) : mUv l yX4_append wsX4_append (gRm 0 0) [.ref (a_p 0), .int x1, .int x2] (dC, dI) vwCl (gty cI cJ cQ) (wTP cI cJ a_p s_p) sz (fun u : TPS => (wTP cI cJ a_p u)) r := by
  refine Met.ofW (cc := cX4_append) (maxL := 4) (ret := none) (by decide) rfl ?_
  intro p e s m args below meth c s₁ B hml hv
  obtain ⟨hav, hsz, hP, hK, hD0⟩ := hv
  subst hsz
  have hD := hD0.self (sz := s.heap.size)
  generalize hAe : va_A (wTP cI cJ a_p s_p) s.heap.size = A at hD ⊢
  have hA : ∀ q : Nat, s.heap.size ≤ q → A q := fun q h => by rw [← hAe]; exact Or.inr h
  have hS : va_S A s.heap s.heap [] := va_S.rf
  have hx := B.exec
  have hb := B.bytes
  have hr := B.returns
  have hts := atoms_spec (ws := wsX4_append) B.pre
  have hown : s.vm.findClass RX4 = some m.cls := findClass_of_methodNamed B.named
  have hlocks := B.notSynchronized
  have hcf : CallFix p m c cX4_append 4 s args wsX4_append RX4 := ⟨hx, hb, hml, hown, hts⟩
  have fl_13 := hts (.fieldLink RX4 13 "BucketGift$Tape" "length" "I") (List.mem_of_getElem? (i := 1) rfl)
  have fl_9 := hts (.fieldLink RX4 9 "BucketGift$Tape" "bytes" "[I") (List.mem_of_getElem? (i := 2) rfl)
  have hg : entryFrame m args 4 = entryFrame m ([.ref (a_p 0), .int x1, .int x2] : List Value).toArray 4 := by rw [hav]
  rw [hg, lg_entry_eq]
  have hl := lv_entry ([.ref (a_p 0), .int x1, .int x2]) (n := 4) (Nat.le_of_ble_eq_true rfl)
  generalize (lg_sl ([.ref (a_p 0), .int x1, .int x2]) ++ List.replicate (4 - (lg_sl ([.ref (a_p 0), .int x1, .int x2])).length) Slot.unset).toArray = ls at hl ⊢
  have hl : lv_has ls 4 [(0, .ref (a_p 0)), (1, .int x1), (2, .int x2)] := hl
  clear hg
  unfold fX4_append at hd
  have b4 : ∀ (x1 : Int32) (s_p : TPS) (x3 : Int32), fX4_append_b4 fu    x1 s_p x3 = some r → bk_U p l e (headSpec wsX4_append (gRm 0 0)).room s m args below meth c (qUv below args s (dC, dI) vwCl (gty cI cJ cQ) A (fun u : TPS => (wTP cI cJ a_p u)) r) (dC, dI) vwCl A 4 (wTP cI cJ a_p s_p) 4 [(0, .ref (a_p 0)), (1, .int x1), (3, .int x3)] [] := by
    intro x1
    have L : ∀ (n : Nat) (s_p : TPS) (x3 : Int32), g_lp (fun _ _ => none) (fX4_append_b4B fu    x1) n s_p x3 = some r → bk_U p l e (headSpec wsX4_append (gRm 0 0)).room s m args below meth c (qUv below args s (dC, dI) vwCl (gty cI cJ cQ) A (fun u : TPS => (wTP cI cJ a_p u)) r) (dC, dI) vwCl A 4 (wTP cI cJ a_p s_p) 4 [(0, .ref (a_p 0)), (1, .int x1), (3, .int x3)] [] := by
      intro n
      induction n with
      | zero => intro s_p x3 hd; exact absurd hd (by intro h; cases h)
      | succ n k4 =>
        intro s_p x3 hd
        intro H locs ls hP hD hS hl
        have hd : fX4_append_b4B fu    x1 (g_lp (fun _ _ => none) (fX4_append_b4B fu    x1) n) s_p x3 = some r := hd
        unfold fX4_append_b4B at hd
        refine lv_iload_n hx hb dX4_append_4 rfl (lv_at hl 2 rfl) ?_
        refine rx_if_lt hx hb 52 dX4_append_5 rfl hd (fun hd => ?_) (fun hd => ?_)
        · exact rx_retUv (u := s_p) (w1 := (fun u : TPS => (wTP cI cJ a_p u))) hx hb hr hlocks hd hK hP hD hS dX4_append_52
        refine lv_aload_n hx hb dX4_append_8 rfl (lv_at hl 0 rfl) ?_
        refine rx_get hx hb hts fiX4_append_X4 hown hK hP 0 rfl rfl 1 (Nat.le_of_ble_eq_true rfl) fl_13 rfl rfl dX4_append_9 ?_
        refine lv_bipush (v := 120) hx hb dX4_append_12 kb_120 ?_
        refine rx_icmp_ge hx hb 52 dX4_append_14 rfl hd (fun hd => ?_) (fun hd => ?_)
        · exact rx_retUv (u := s_p) (w1 := (fun u : TPS => (wTP cI cJ a_p u))) hx hb hr hlocks hd hK hP hD hS dX4_append_52
        refine lv_aload_n hx hb dX4_append_17 rfl (lv_at hl 0 rfl) ?_
        refine rx_get hx hb hts fiX4_append_X4 hown hK hP 0 rfl rfl 0 (Nat.le_of_ble_eq_true rfl) fl_9 rfl rfl dX4_append_18 ?_
        refine lv_aload_n hx hb dX4_append_21 rfl (lv_at hl 0 rfl) ?_
        refine rx_get hx hb hts fiX4_append_X4 hown hK hP 0 rfl rfl 1 (Nat.le_of_ble_eq_true rfl) fl_13 rfl rfl dX4_append_22 ?_
        refine lv_iload_n hx hb dX4_append_25 rfl (lv_at hl 1 rfl) ?_
        refine lv_bipush (v := 8) hx hb dX4_append_26 kb_8 ?_
        refine lv_iload_n hx hb dX4_append_28 rfl (lv_at hl 2 rfl) ?_
        refine lv_imul hx hb dX4_append_29 ?_
        refine lv_iushr hx hb dX4_append_30 rfl ?_
        refine lv_sipush (v := 255) hx hb dX4_append_31 ks_255 ?_
        refine lv_iand hx hb dX4_append_34 ?_
        refine rx_iast (wTP cI cJ a_p (tuBytes s_p (Int32.toNatClampNeg (tgLength s_p)) (((Int32.toUInt32 x1 >>> (Int32.toUInt32 ((8 : Int32) * x3) &&& Int32.toUInt32 31)).toInt32) &&& (255 : Int32)))) hx hb hK hP hD hS 1 0 rfl rfl hd (wTP_uBytes ..) dX4_append_35 (fun hd H locs hP hD hS => ?_)
        refine lv_aload_n hx hb dX4_append_36 rfl (lv_at hl 0 rfl) ?_
        refine lv_dup hx hb dX4_append_37 rfl ?_
        refine rx_get hx hb hts fiX4_append_X4 hown hK hP 0 rfl rfl 1 (Nat.le_of_ble_eq_true rfl) fl_13 rfl rfl dX4_append_38 ?_
        refine lv_iconst (v := 1) hx hb dX4_append_41 ki_1 ?_
        refine lv_iadd hx hb dX4_append_42 ?_
        refine rx_puti (wTP cI cJ a_p (tsLength (tuBytes s_p (Int32.toNatClampNeg (tgLength s_p)) (((Int32.toUInt32 x1 >>> (Int32.toUInt32 ((8 : Int32) * x3) &&& Int32.toUInt32 31)).toInt32) &&& (255 : Int32))) ((tgLength (tuBytes s_p (Int32.toNatClampNeg (tgLength s_p)) (((Int32.toUInt32 x1 >>> (Int32.toUInt32 ((8 : Int32) * x3) &&& Int32.toUInt32 31)).toInt32) &&& (255 : Int32)))) + (1 : Int32)))) hx hb hts fiX4_append_X4 tyX4 tyX4_ok nmX4 hown hK hP hD hS 0 rfl rfl 1 (Nat.le_of_ble_eq_true rfl) fl_13 rfl rfl rfl (Nat.le_of_ble_eq_true rfl) (wTP_sLength ..) dX4_append_43 (fun H locs hP hD hS => ?_)
        refine rx_iinc (lv' := fun z => (3, .int z) :: [(0, .ref (a_p 0)), (1, .int x1)]) hx hb (j := 2) dX4_append_46 hl rfl ki_m1 hd (Nat.le_of_ble_eq_true rfl) (fun _ => rfl) (fun x3_46 hd ls hl => ?_)
        refine lv_goto (tgt := 4) hx hb dX4_append_49 rfl ?_
        exact k4 (tsLength (tuBytes s_p (Int32.toNatClampNeg (tgLength s_p)) (((Int32.toUInt32 x1 >>> (Int32.toUInt32 ((8 : Int32) * x3) &&& Int32.toUInt32 31)).toInt32) &&& (255 : Int32))) ((tgLength (tuBytes s_p (Int32.toNatClampNeg (tgLength s_p)) (((Int32.toUInt32 x1 >>> (Int32.toUInt32 ((8 : Int32) * x3) &&& Int32.toUInt32 31)).toInt32) &&& (255 : Int32)))) + (1 : Int32))) x3_46 hd _ _ _ hP hD hS (lv_sub hl [1, 2, 0] rfl)
    exact fun s_p x3 => L fu s_p x3
  refine lv_iload_n hx hb dX4_append_0 rfl (lv_at hl 2 rfl) ?_
  refine lv_iconst (v := 1) hx hb dX4_append_1 ki_1 ?_
  refine lv_isub hx hb dX4_append_2 ?_
  refine rx_topi hd (fun x3_3 hd => ?_)
  refine lv_istore_n (lv' := [(3, .int x3_3), (0, .ref (a_p 0)), (1, .int x1), (2, .int x2)]) hx hb dX4_append_3 rfl hl (Nat.le_of_ble_eq_true rfl) rfl (fun ls hl => ?_)
  exact b4   x1 s_p x3_3 hd _ _ _ hP hD hS (lv_sub hl [1, 2, 0] rfl)
set_option maxHeartbeats 8000000 in
set_option maxRecDepth 100000 in
theorem c_X3_areBits (l : Launch) (dC : Nat → ClassId) (dI : Nat → Nat → Nat) (cI cJ cQ : ClassId) (fu : Nat)   (x0 : Int32) (r : Int32) (hd : fX3_areBits fu   x0 = some r) : mRi l yX3_areBits wsX3_areBits (gRm 0 0) [.int x0] (cq_R (dC, dI) vwCl (gty cI cJ cQ) ([] : va_W)) r := by
  refine Met.ofW (cc := cX3_areBits) (maxL := 1) (ret := (some .boolean)) (by decide) rfl ?_
  intro p e s m args below meth c s₁ B hml hv
  obtain ⟨hav, hP, hK⟩ := hv
  have hx := B.exec
  have hb := B.bytes
  have hr := B.returns
  have hts := atoms_spec (ws := wsX3_areBits) B.pre
  have hown : s.vm.findClass RX3 = some m.cls := findClass_of_methodNamed B.named
  have hlocks := B.notSynchronized
  have hcf : CallFix p m c cX3_areBits 1 s args wsX3_areBits RX3 := ⟨hx, hb, hml, hown, hts⟩
  have hg : entryFrame m args 1 = entryFrame m ([.int x0] : List Value).toArray 1 := by rw [hav]
  rw [hg, lg_entry_eq]
  have hl := lv_entry ([.int x0]) (n := 1) (Nat.le_of_ble_eq_true rfl)
  generalize (lg_sl ([.int x0]) ++ List.replicate (1 - (lg_sl ([.int x0])).length) Slot.unset).toArray = ls at hl ⊢
  have hl : lv_has ls 1 [(0, .int x0)] := hl
  clear hg
  unfold fX3_areBits at hd
  refine lv_iload_n hx hb dX3_areBits_0 rfl (lv_at hl 0 rfl) ?_
  refine rx_if_eq hx hb 22 dX3_areBits_1 rfl hd (fun hd => ?_) (fun hd => ?_)
  · refine lv_iconst (v := 1) hx hb dX3_areBits_22 ki_1 ?_
    refine lv_goto (tgt := 27) hx hb dX3_areBits_23 rfl ?_
    exact rx_retRz hx hb hr hlocks hd dX3_areBits_27
  refine lv_iload_n hx hb dX3_areBits_4 rfl (lv_at hl 0 rfl) ?_
  refine lv_bipush (v := 8) hx hb dX3_areBits_5 kb_8 ?_
  refine rx_icmp_eq hx hb 22 dX3_areBits_7 rfl hd (fun hd => ?_) (fun hd => ?_)
  · refine lv_iconst (v := 1) hx hb dX3_areBits_22 ki_1 ?_
    refine lv_goto (tgt := 27) hx hb dX3_areBits_23 rfl ?_
    exact rx_retRz hx hb hr hlocks hd dX3_areBits_27
  refine lv_iload_n hx hb dX3_areBits_10 rfl (lv_at hl 0 rfl) ?_
  refine lv_bipush (v := 16) hx hb dX3_areBits_11 kb_16 ?_
  refine rx_icmp_eq hx hb 22 dX3_areBits_13 rfl hd (fun hd => ?_) (fun hd => ?_)
  · refine lv_iconst (v := 1) hx hb dX3_areBits_22 ki_1 ?_
    refine lv_goto (tgt := 27) hx hb dX3_areBits_23 rfl ?_
    exact rx_retRz hx hb hr hlocks hd dX3_areBits_27
  refine lv_iload_n hx hb dX3_areBits_16 rfl (lv_at hl 0 rfl) ?_
  refine lv_bipush (v := 64) hx hb dX3_areBits_17 kb_64 ?_
  refine rx_icmp_ne hx hb 26 dX3_areBits_19 rfl hd (fun hd => ?_) (fun hd => ?_)
  · refine lv_iconst (v := 0) hx hb dX3_areBits_26 ki_0 ?_
    exact rx_retRz hx hb hr hlocks hd dX3_areBits_27
  refine lv_iconst (v := 1) hx hb dX3_areBits_22 ki_1 ?_
  refine lv_goto (tgt := 27) hx hb dX3_areBits_23 rfl ?_
  exact rx_retRz hx hb hr hlocks hd dX3_areBits_27
theorem fiX3_clear_X3 : ∀ w ∈ wsX30, w ∈ wsX3_clear := mem_r _ [8, 9, 10] rfl
set_option maxHeartbeats 8000000 in
set_option maxRecDepth 100000 in
theorem c_X3_clear (l : Launch) (dC : Nat → ClassId) (dI : Nat → Nat → Nat) (cI cJ cQ : ClassId) (fu : Nat) (a_1 : Nat → Nat) (sz : Nat) (s_1 : S1S) (x1 : Int32) (x2 : Int32) (r : S1S) (hd : fX3_clear fu  s_1 x1 x2 = some r) : mUv l yX3_clear wsX3_clear (gRm 1 24) [.ref (a_1 0), .int x1, .int x2] (dC, dI) vwCl (gty cI cJ cQ) (wS1 cI cJ a_1 s_1) sz (fun u : S1S => (wS1 cI cJ a_1 u)) r := by
  refine Met.ofW (cc := cX3_clear) (maxL := 3) (ret := none) (by decide) rfl ?_
  intro p e s m args below meth c s₁ B hml hv
  obtain ⟨hav, hsz, hP, hK, hD0⟩ := hv
  subst hsz
  have hD := hD0.self (sz := s.heap.size)
  generalize hAe : va_A (wS1 cI cJ a_1 s_1) s.heap.size = A at hD ⊢
  have hA : ∀ q : Nat, s.heap.size ≤ q → A q := fun q h => by rw [← hAe]; exact Or.inr h
  have hS : va_S A s.heap s.heap [] := va_S.rf
  have hx := B.exec
  have hb := B.bytes
  have hr := B.returns
  have hts := atoms_spec (ws := wsX3_clear) B.pre
  have hown : s.vm.findClass RX3 = some m.cls := findClass_of_methodNamed B.named
  have hlocks := B.notSynchronized
  have hcf : CallFix p m c cX3_clear 3 s args wsX3_clear RX3 := ⟨hx, hb, hml, hown, hts⟩
  have fl_7 := hts (.fieldLink RX3 7 "BucketGift$Sheet" "bits" "I") (List.mem_of_getElem? (i := 1) rfl)
  have fl_13 := hts (.fieldLink RX3 13 "BucketGift$Sheet" "size" "I") (List.mem_of_getElem? (i := 2) rfl)
  have fl_16 := hts (.fieldLink RX3 16 "BucketGift$Sheet" "numbers" "[J") (List.mem_of_getElem? (i := 3) rfl)
  have hg : entryFrame m args 3 = entryFrame m ([.ref (a_1 0), .int x1, .int x2] : List Value).toArray 3 := by rw [hav]
  rw [hg, lg_entry_eq]
  have hl := lv_entry ([.ref (a_1 0), .int x1, .int x2]) (n := 3) (Nat.le_of_ble_eq_true rfl)
  generalize (lg_sl ([.ref (a_1 0), .int x1, .int x2]) ++ List.replicate (3 - (lg_sl ([.ref (a_1 0), .int x1, .int x2])).length) Slot.unset).toArray = ls at hl ⊢
  have hl : lv_has ls 3 [(0, .ref (a_1 0)), (1, .int x1), (2, .int x2)] := hl
  clear hg
  unfold fX3_clear at hd
  have b15 : ∀ (s_1 : S1S) (y0 : Int32), fX3_clear_b15 fu    s_1 y0 = some r → bk_U p l e (headSpec wsX3_clear (gRm 1 24)).room s m args below meth c (qUv below args s (dC, dI) vwCl (gty cI cJ cQ) A (fun u : S1S => (wS1 cI cJ a_1 u)) r) (dC, dI) vwCl A 3 (wS1 cI cJ a_1 s_1) 15 [(0, .ref (a_1 0))] [.int y0, .ref (a_1 0)] := by
    intro s_1 y0 hd
    intro H locs ls hP hD hS hl
    unfold fX3_clear_b15 at hd
    refine rx_puti (wS1 cI cJ a_1 (hsSize s_1 y0)) hx hb hts fiX3_clear_X3 tyX3 tyX3_ok nmX3 hown hK hP hD hS 0 rfl rfl 1 (Nat.le_of_ble_eq_true rfl) fl_13 rfl rfl rfl (Nat.le_of_ble_eq_true rfl) (wS1_sSize ..) dX3_clear_15 (fun H locs hP hD hS => ?_)
    refine lv_aload_n hx hb dX3_clear_18 rfl (lv_at hl 0 rfl) ?_
    refine rx_get hx hb hts fiX3_clear_X3 hown hK hP 0 rfl rfl 2 (Nat.le_of_ble_eq_true rfl) fl_16 rfl rfl dX3_clear_19 ?_
    refine lv_lconst (v := 0) hx hb dX3_clear_22 rfl ?_
    refine rx_upv (fun u => (wS1 cI cJ a_1 (hsNumbers (hsSize s_1 y0) u))) hd hP hD hS hA ⟨[1], [0], [0, 1], [((a_1 0), .inr (2, [.int (hgBits (hsSize s_1 y0)), .int (hgSize (hsSize s_1 y0)), .ref (a_1 1)]))], rfl, rfl, rfl, by decide, rfl, fun _ => rfl⟩ (fun v hv => va_runS (As := [.ref (a_1 1), .long (0 : Int64)]) (rest := []) hcf (c_J7_fill_d0a16 l dC dI cI cJ cQ fu (a_1 1) 40 _  (hgNumbers (hsSize s_1 y0)) (0 : Int64) v hv) (va_cwS 2 hts gX3_clear_J7_fill_d0a16 rfl rfl rfl cd_J7_fill_d0a16 ⟨(Nat.le_of_ble_eq_true rfl), (Nat.le_of_ble_eq_true rfl)⟩) (cq_U_S hK hP hD [1] rfl rfl) rfl rfl hl.1 rfl (lv_room (Nat.le_of_ble_eq_true rfl)) dX3_clear_23 ⟨Nat.le_refl _, Nat.le_refl _⟩) (fun u23 hd H locs hP hD hS => ?_)
    exact rx_retUv (u := (hsNumbers (hsSize s_1 y0) u23)) (w1 := (fun u : S1S => (wS1 cI cJ a_1 u))) hx hb hr hlocks hd hK hP hD hS dX3_clear_26
  refine lv_aload_n hx hb dX3_clear_0 rfl (lv_at hl 0 rfl) ?_
  refine lv_iload_n hx hb dX3_clear_1 rfl (lv_at hl 1 rfl) ?_
  refine rx_puti (wS1 cI cJ a_1 (hsBits s_1 x1)) hx hb hts fiX3_clear_X3 tyX3 tyX3_ok nmX3 hown hK hP hD hS 0 rfl rfl 0 (Nat.le_of_ble_eq_true rfl) fl_7 rfl rfl rfl (Nat.le_of_ble_eq_true rfl) (wS1_sBits ..) dX3_clear_2 (fun H locs hP hD hS => ?_)
  refine lv_aload_n hx hb dX3_clear_5 rfl (lv_at hl 0 rfl) ?_
  refine lv_iload_n hx hb dX3_clear_6 rfl (lv_at hl 1 rfl) ?_
  refine rx_if_ne hx hb 14 dX3_clear_7 rfl hd (fun hd => ?_) (fun hd => ?_)
  · refine lv_iload_n hx hb dX3_clear_14 rfl (lv_at hl 2 rfl) ?_
    exact b15   (hsBits s_1 x1) x2 hd _ _ _ hP hD hS (lv_sub hl [0] rfl)
  refine lv_iconst (v := 0) hx hb dX3_clear_10 ki_0 ?_
  refine lv_goto (tgt := 15) hx hb dX3_clear_11 rfl ?_
  exact b15   (hsBits s_1 x1) (0 : Int32) hd _ _ _ hP hD hS (lv_sub hl [0] rfl)
theorem fiX3_isMissing_X3 : ∀ w ∈ wsX30, w ∈ wsX3_isMissing := mem_r _ [2, 3, 4] rfl
set_option maxHeartbeats 8000000 in
set_option maxRecDepth 100000 in
theorem c_X3_isMissing (l : Launch) (dC : Nat → ClassId) (dI : Nat → Nat → Nat) (cI cJ cQ : ClassId) (fu : Nat) (a_1 : Nat → Nat) (s_1 : S1S)  (r : Int32) (hd : fX3_isMissing fu  s_1  = some r) : mRi l yX3_isMissing wsX3_isMissing (gRm 0 0) [.ref (a_1 0)] (cq_R (dC, dI) vwCl (gty cI cJ cQ) (wS1 cI cJ a_1 s_1)) r := by
  refine Met.ofW (cc := cX3_isMissing) (maxL := 1) (ret := (some .boolean)) (by decide) rfl ?_
  intro p e s m args below meth c s₁ B hml hv
  obtain ⟨hav, hP, hK⟩ := hv
  have hx := B.exec
  have hb := B.bytes
  have hr := B.returns
  have hts := atoms_spec (ws := wsX3_isMissing) B.pre
  have hown : s.vm.findClass RX3 = some m.cls := findClass_of_methodNamed B.named
  have hlocks := B.notSynchronized
  have hcf : CallFix p m c cX3_isMissing 1 s args wsX3_isMissing RX3 := ⟨hx, hb, hml, hown, hts⟩
  have fl_7 := hts (.fieldLink RX3 7 "BucketGift$Sheet" "bits" "I") (List.mem_of_getElem? (i := 1) rfl)
  have hg : entryFrame m args 1 = entryFrame m ([.ref (a_1 0)] : List Value).toArray 1 := by rw [hav]
  rw [hg, lg_entry_eq]
  have hl := lv_entry ([.ref (a_1 0)]) (n := 1) (Nat.le_of_ble_eq_true rfl)
  generalize (lg_sl ([.ref (a_1 0)]) ++ List.replicate (1 - (lg_sl ([.ref (a_1 0)])).length) Slot.unset).toArray = ls at hl ⊢
  have hl : lv_has ls 1 [(0, .ref (a_1 0))] := hl
  clear hg
  unfold fX3_isMissing at hd
  refine lv_aload_n hx hb dX3_isMissing_0 rfl (lv_at hl 0 rfl) ?_
  refine rx_get hx hb hts fiX3_isMissing_X3 hown hK hP 0 rfl rfl 0 (Nat.le_of_ble_eq_true rfl) fl_7 rfl rfl dX3_isMissing_1 ?_
  refine rx_if_ne hx hb 11 dX3_isMissing_4 rfl hd (fun hd => ?_) (fun hd => ?_)
  · refine lv_iconst (v := 0) hx hb dX3_isMissing_11 ki_0 ?_
    exact rx_retRz hx hb hr hlocks hd dX3_isMissing_12
  refine lv_iconst (v := 1) hx hb dX3_isMissing_7 ki_1 ?_
  refine lv_goto (tgt := 12) hx hb dX3_isMissing_8 rfl ?_
  exact rx_retRz hx hb hr hlocks hd dX3_isMissing_12
theorem fiX3_put_X3 : ∀ w ∈ wsX30, w ∈ wsX3_put := mem_r _ [3, 4, 5] rfl
set_option maxHeartbeats 8000000 in
set_option maxRecDepth 100000 in
theorem c_X3_put (l : Launch) (dC : Nat → ClassId) (dI : Nat → Nat → Nat) (cI cJ cQ : ClassId) (fu : Nat) (a_1 : Nat → Nat) (sz : Nat) (s_1 : S1S) (x1 : Int32) (x2 : Int64) (r : S1S) (hd : fX3_put fu  s_1 x1 x2 = some r) : mUv l yX3_put wsX3_put (gRm 0 0) [.ref (a_1 0), .int x1, .long x2] (dC, dI) vwCl (gty cI cJ cQ) (wS1 cI cJ a_1 s_1) sz (fun u : S1S => (wS1 cI cJ a_1 u)) r := by
  refine Met.ofW (cc := cX3_put) (maxL := 4) (ret := none) (by decide) rfl ?_
  intro p e s m args below meth c s₁ B hml hv
  obtain ⟨hav, hsz, hP, hK, hD0⟩ := hv
  subst hsz
  have hD := hD0.self (sz := s.heap.size)
  generalize hAe : va_A (wS1 cI cJ a_1 s_1) s.heap.size = A at hD ⊢
  have hA : ∀ q : Nat, s.heap.size ≤ q → A q := fun q h => by rw [← hAe]; exact Or.inr h
  have hS : va_S A s.heap s.heap [] := va_S.rf
  have hx := B.exec
  have hb := B.bytes
  have hr := B.returns
  have hts := atoms_spec (ws := wsX3_put) B.pre
  have hown : s.vm.findClass RX3 = some m.cls := findClass_of_methodNamed B.named
  have hlocks := B.notSynchronized
  have hcf : CallFix p m c cX3_put 4 s args wsX3_put RX3 := ⟨hx, hb, hml, hown, hts⟩
  have fl_7 := hts (.fieldLink RX3 7 "BucketGift$Sheet" "bits" "I") (List.mem_of_getElem? (i := 1) rfl)
  have fl_16 := hts (.fieldLink RX3 16 "BucketGift$Sheet" "numbers" "[J") (List.mem_of_getElem? (i := 2) rfl)
  have hg : entryFrame m args 4 = entryFrame m ([.ref (a_1 0), .int x1, .long x2] : List Value).toArray 4 := by rw [hav]
  rw [hg, lg_entry_eq]
  have hl := lv_entry ([.ref (a_1 0), .int x1, .long x2]) (n := 4) (Nat.le_of_ble_eq_true rfl)
  generalize (lg_sl ([.ref (a_1 0), .int x1, .long x2]) ++ List.replicate (4 - (lg_sl ([.ref (a_1 0), .int x1, .long x2])).length) Slot.unset).toArray = ls at hl ⊢
  have hl : lv_has ls 4 [(0, .ref (a_1 0)), (1, .int x1), (2, .long x2)] := hl
  clear hg
  unfold fX3_put at hd
  refine lv_aload_n hx hb dX3_put_0 rfl (lv_at hl 0 rfl) ?_
  refine rx_get hx hb hts fiX3_put_X3 hown hK hP 0 rfl rfl 0 (Nat.le_of_ble_eq_true rfl) fl_7 rfl rfl dX3_put_1 ?_
  refine lv_bipush (v := 8) hx hb dX3_put_4 kb_8 ?_
  refine rx_icmp_ne hx hb 22 dX3_put_6 rfl hd (fun hd => ?_) (fun hd => ?_)
  · refine lv_aload_n hx hb dX3_put_22 rfl (lv_at hl 0 rfl) ?_
    refine rx_get hx hb hts fiX3_put_X3 hown hK hP 0 rfl rfl 0 (Nat.le_of_ble_eq_true rfl) fl_7 rfl rfl dX3_put_23 ?_
    refine lv_bipush (v := 16) hx hb dX3_put_26 kb_16 ?_
    refine rx_icmp_ne hx hb 44 dX3_put_28 rfl hd (fun hd => ?_) (fun hd => ?_)
    · refine lv_aload_n hx hb dX3_put_44 rfl (lv_at hl 0 rfl) ?_
      refine rx_get hx hb hts fiX3_put_X3 hown hK hP 0 rfl rfl 2 (Nat.le_of_ble_eq_true rfl) fl_16 rfl rfl dX3_put_45 ?_
      refine lv_iload_n hx hb dX3_put_48 rfl (lv_at hl 1 rfl) ?_
      refine lv_lload_n hx hb dX3_put_49 rfl (lv_at hl 2 rfl) ?_
      refine rx_last (wS1 cI cJ a_1 (huNumbers s_1 (Int32.toNatClampNeg x1) x2)) hx hb hK hP hD hS 1 1 rfl rfl hd (wS1_uNumbers ..) dX3_put_50 (fun hd H locs hP hD hS => ?_)
      exact rx_retUv (u := (huNumbers s_1 (Int32.toNatClampNeg x1) x2)) (w1 := (fun u : S1S => (wS1 cI cJ a_1 u))) hx hb hr hlocks hd hK hP hD hS dX3_put_51
    refine lv_aload_n hx hb dX3_put_31 rfl (lv_at hl 0 rfl) ?_
    refine rx_get hx hb hts fiX3_put_X3 hown hK hP 0 rfl rfl 2 (Nat.le_of_ble_eq_true rfl) fl_16 rfl rfl dX3_put_32 ?_
    refine lv_iload_n hx hb dX3_put_35 rfl (lv_at hl 1 rfl) ?_
    refine lv_lload_n hx hb dX3_put_36 rfl (lv_at hl 2 rfl) ?_
    refine lv_l2i hx hb dX3_put_37 rfl ?_
    refine lv_i2s hx hb dX3_put_38 rfl ?_
    refine lv_i2l hx hb dX3_put_39 rfl ?_
    refine rx_last (wS1 cI cJ a_1 (huNumbers s_1 (Int32.toNatClampNeg x1) (Int32.toInt64 (Int16.toInt32 (Int32.toInt16 (Int64.toInt32 x2)))))) hx hb hK hP hD hS 1 1 rfl rfl hd (wS1_uNumbers ..) dX3_put_40 (fun hd H locs hP hD hS => ?_)
    refine lv_goto (tgt := 51) hx hb dX3_put_41 rfl ?_
    exact rx_retUv (u := (huNumbers s_1 (Int32.toNatClampNeg x1) (Int32.toInt64 (Int16.toInt32 (Int32.toInt16 (Int64.toInt32 x2)))))) (w1 := (fun u : S1S => (wS1 cI cJ a_1 u))) hx hb hr hlocks hd hK hP hD hS dX3_put_51
  refine lv_aload_n hx hb dX3_put_9 rfl (lv_at hl 0 rfl) ?_
  refine rx_get hx hb hts fiX3_put_X3 hown hK hP 0 rfl rfl 2 (Nat.le_of_ble_eq_true rfl) fl_16 rfl rfl dX3_put_10 ?_
  refine lv_iload_n hx hb dX3_put_13 rfl (lv_at hl 1 rfl) ?_
  refine lv_lload_n hx hb dX3_put_14 rfl (lv_at hl 2 rfl) ?_
  refine lv_l2i hx hb dX3_put_15 rfl ?_
  refine lv_i2b hx hb dX3_put_16 rfl ?_
  refine lv_i2l hx hb dX3_put_17 rfl ?_
  refine rx_last (wS1 cI cJ a_1 (huNumbers s_1 (Int32.toNatClampNeg x1) (Int32.toInt64 (Int8.toInt32 (Int32.toInt8 (Int64.toInt32 x2)))))) hx hb hK hP hD hS 1 1 rfl rfl hd (wS1_uNumbers ..) dX3_put_18 (fun hd H locs hP hD hS => ?_)
  refine lv_goto (tgt := 51) hx hb dX3_put_19 rfl ?_
  exact rx_retUv (u := (huNumbers s_1 (Int32.toNatClampNeg x1) (Int32.toInt64 (Int8.toInt32 (Int32.toInt8 (Int64.toInt32 x2)))))) (w1 := (fun u : S1S => (wS1 cI cJ a_1 u))) hx hb hr hlocks hd hK hP hD hS dX3_put_51
theorem fiX3_hasSpan_X3 : ∀ w ∈ wsX30, w ∈ wsX3_hasSpan := mem_r _ [2, 3, 4] rfl
set_option maxHeartbeats 8000000 in
set_option maxRecDepth 100000 in
theorem c_X3_hasSpan (l : Launch) (dC : Nat → ClassId) (dI : Nat → Nat → Nat) (cI cJ cQ : ClassId) (fu : Nat) (a_1 : Nat → Nat) (s_1 : S1S) (x1 : Int32) (x2 : Int32) (r : Int32) (hd : fX3_hasSpan fu  s_1 x1 x2 = some r) : mRi l yX3_hasSpan wsX3_hasSpan (gRm 0 0) [.ref (a_1 0), .int x1, .int x2] (cq_R (dC, dI) vwCl (gty cI cJ cQ) (wS1 cI cJ a_1 s_1)) r := by
  refine Met.ofW (cc := cX3_hasSpan) (maxL := 3) (ret := (some .boolean)) (by decide) rfl ?_
  intro p e s m args below meth c s₁ B hml hv
  obtain ⟨hav, hP, hK⟩ := hv
  have hx := B.exec
  have hb := B.bytes
  have hr := B.returns
  have hts := atoms_spec (ws := wsX3_hasSpan) B.pre
  have hown : s.vm.findClass RX3 = some m.cls := findClass_of_methodNamed B.named
  have hlocks := B.notSynchronized
  have hcf : CallFix p m c cX3_hasSpan 3 s args wsX3_hasSpan RX3 := ⟨hx, hb, hml, hown, hts⟩
  have fl_13 := hts (.fieldLink RX3 13 "BucketGift$Sheet" "size" "I") (List.mem_of_getElem? (i := 1) rfl)
  have hg : entryFrame m args 3 = entryFrame m ([.ref (a_1 0), .int x1, .int x2] : List Value).toArray 3 := by rw [hav]
  rw [hg, lg_entry_eq]
  have hl := lv_entry ([.ref (a_1 0), .int x1, .int x2]) (n := 3) (Nat.le_of_ble_eq_true rfl)
  generalize (lg_sl ([.ref (a_1 0), .int x1, .int x2]) ++ List.replicate (3 - (lg_sl ([.ref (a_1 0), .int x1, .int x2])).length) Slot.unset).toArray = ls at hl ⊢
  have hl : lv_has ls 3 [(0, .ref (a_1 0)), (1, .int x1), (2, .int x2)] := hl
  clear hg
  unfold fX3_hasSpan at hd
  refine lv_iload_n hx hb dX3_hasSpan_0 rfl (lv_at hl 1 rfl) ?_
  refine rx_if_lt hx hb 30 dX3_hasSpan_1 rfl hd (fun hd => ?_) (fun hd => ?_)
  · refine lv_iconst (v := 0) hx hb dX3_hasSpan_30 ki_0 ?_
    exact rx_retRz hx hb hr hlocks hd dX3_hasSpan_31
  refine lv_iload_n hx hb dX3_hasSpan_4 rfl (lv_at hl 2 rfl) ?_
  refine rx_if_lt hx hb 30 dX3_hasSpan_5 rfl hd (fun hd => ?_) (fun hd => ?_)
  · refine lv_iconst (v := 0) hx hb dX3_hasSpan_30 ki_0 ?_
    exact rx_retRz hx hb hr hlocks hd dX3_hasSpan_31
  refine lv_iload_n hx hb dX3_hasSpan_8 rfl (lv_at hl 2 rfl) ?_
  refine lv_aload_n hx hb dX3_hasSpan_9 rfl (lv_at hl 0 rfl) ?_
  refine rx_get hx hb hts fiX3_hasSpan_X3 hown hK hP 0 rfl rfl 1 (Nat.le_of_ble_eq_true rfl) fl_13 rfl rfl dX3_hasSpan_10 ?_
  refine rx_icmp_gt hx hb 30 dX3_hasSpan_13 rfl hd (fun hd => ?_) (fun hd => ?_)
  · refine lv_iconst (v := 0) hx hb dX3_hasSpan_30 ki_0 ?_
    exact rx_retRz hx hb hr hlocks hd dX3_hasSpan_31
  refine lv_iload_n hx hb dX3_hasSpan_16 rfl (lv_at hl 1 rfl) ?_
  refine lv_aload_n hx hb dX3_hasSpan_17 rfl (lv_at hl 0 rfl) ?_
  refine rx_get hx hb hts fiX3_hasSpan_X3 hown hK hP 0 rfl rfl 1 (Nat.le_of_ble_eq_true rfl) fl_13 rfl rfl dX3_hasSpan_18 ?_
  refine lv_iload_n hx hb dX3_hasSpan_21 rfl (lv_at hl 2 rfl) ?_
  refine lv_isub hx hb dX3_hasSpan_22 ?_
  refine rx_icmp_gt hx hb 30 dX3_hasSpan_23 rfl hd (fun hd => ?_) (fun hd => ?_)
  · refine lv_iconst (v := 0) hx hb dX3_hasSpan_30 ki_0 ?_
    exact rx_retRz hx hb hr hlocks hd dX3_hasSpan_31
  refine lv_iconst (v := 1) hx hb dX3_hasSpan_26 ki_1 ?_
  refine lv_goto (tgt := 31) hx hb dX3_hasSpan_27 rfl ?_
  exact rx_retRz hx hb hr hlocks hd dX3_hasSpan_31
