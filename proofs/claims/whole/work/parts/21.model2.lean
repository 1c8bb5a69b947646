theorem fiX7_on_X7 : ∀ w ∈ wsX70, w ∈ wsX7_on := mem_r _ [65, 66, 67, 68, 69, 70, 71, 72, 73, 74, 75, 76, 77, 78, 79, 80, 81, 82] rfl
set_option maxHeartbeats 8000000 in
set_option maxRecDepth 100000 in
theorem c_X7_on (l : Launch) (dC : Nat → ClassId) (dI : Nat → Nat → Nat) (cI cJ cQ : ClassId) (fu : Nat) (a_m : Nat → Nat) (sz : Nat) (s_m : MS) (x1 : Int32) (x2 : Int32) (x3 : Int32) (r : Int32 × MS) (hd : fX7_on fu  s_m x1 x2 x3 = some r) : mUi l yX7_on wsX7_on (gRm 7 159) [.ref (a_m 0), .int x1, .int x2, .int x3] (dC, dI) vwCl (gty cI cJ cQ) (wM cI cJ a_m s_m) sz (fun u : MS => (wM cI cJ a_m u)) r := by
  refine Met.ofW (cc := cX7_on) (maxL := 4) (ret := (some .int)) (by decide) rfl ?_
  intro p e s m args below meth c s₁ B hml hv
  obtain ⟨hav, hsz, hP, hK, hD0⟩ := hv
  subst hsz
  have hD := hD0.self (sz := s.heap.size)
  generalize hAe : va_A (wM cI cJ a_m s_m) s.heap.size = A at hD ⊢
  have hA : ∀ q : Nat, s.heap.size ≤ q → A q := fun q h => by rw [← hAe]; exact Or.inr h
  have hS : va_S A s.heap s.heap [] := va_S.rf
  have hx := B.exec
  have hb := B.bytes
  have hr := B.returns
  have hts := atoms_spec (ws := wsX7_on) B.pre
  have hown : s.vm.findClass RX7 = some m.cls := findClass_of_methodNamed B.named
  have hlocks := B.notSynchronized
  have hcf : CallFix p m c cX7_on 4 s args wsX7_on RX7 := ⟨hx, hb, hml, hown, hts⟩
  have fl_7 := hts (.fieldLink RX7 7 "BucketGiftModel" "s" "[I") (List.mem_of_getElem? (i := 4) rfl)
  have kc_48 := hts (.constant RX7 48 (-1000000001)) (List.mem_of_getElem? (i := 3) rfl)
  have kc_129 := hts (.constantLong RX7 129 (60)) (List.mem_of_getElem? (i := 1) rfl)
  have kc_82 := hts (.constantLong RX7 82 (2)) (List.mem_of_getElem? (i := 2) rfl)
  have hg : entryFrame m args 4 = entryFrame m ([.ref (a_m 0), .int x1, .int x2, .int x3] : List Value).toArray 4 := by rw [hav]
  rw [hg, lg_entry_eq]
  have hl := lv_entry ([.ref (a_m 0), .int x1, .int x2, .int x3]) (n := 4) (Nat.le_of_ble_eq_true rfl)
  generalize (lg_sl ([.ref (a_m 0), .int x1, .int x2, .int x3]) ++ List.replicate (4 - (lg_sl ([.ref (a_m 0), .int x1, .int x2, .int x3])).length) Slot.unset).toArray = ls at hl ⊢
  have hl : lv_has ls 4 [(0, .ref (a_m 0)), (1, .int x1), (2, .int x2), (3, .int x3)] := hl
  clear hg
  unfold fX7_on at hd
  have b31 : ∀ (s_m : MS), fX7_on_b31 fu    s_m = some r → bk_U p l e (headSpec wsX7_on (gRm 7 159)).room s m args below meth c (qUi below args s (dC, dI) vwCl (gty cI cJ cQ) A (fun u : MS => (wM cI cJ a_m u)) r) (dC, dI) vwCl A 4 (wM cI cJ a_m s_m) 31 [(0, .ref (a_m 0))] [] := by
    intro s_m hd
    intro H locs ls hP hD hS hl
    unfold fX7_on_b31 at hd
    refine lv_aload_n hx hb dX7_on_31 rfl (lv_at hl 0 rfl) ?_
    refine lv_ldc hx hb hown kc_48 dX7_on_32 ?_
    refine rx_upi1 hd hD hS hA (fun v hv => va_runV (As := [.int (-1000000001 : Int32)]) (rest := []) hcf (c_X7_finds l dC dI cI cJ cQ fu a_m _  s_m (-1000000001 : Int32) v hv) (cwV 1 hts gX7_on_X7_finds rfl rfl rfl cd_X7_finds ⟨(Nat.le_of_ble_eq_true rfl), (Nat.le_of_ble_eq_true rfl)⟩) (cq_U_V1 (q0 := 0) (ci := 6) hK hP hD rfl rfl) rfl rfl hl.1 rfl (lv_room (Nat.le_of_ble_eq_true rfl)) dX7_on_34 ⟨Nat.le_refl _, Nat.le_refl _⟩) (fun u34 hd H locs hP hD hS => ?_)
    exact rx_retUi (u := u34.2) (w1 := (fun u : MS => (wM cI cJ a_m u))) hx hb hr hlocks hd hK hP hD hS dX7_on_37
  refine lv_iload_n hx hb dX7_on_0 rfl (lv_at hl 1 rfl) ?_
  refine rx_roi hd (fun v hv => W.runS (As := [.int x1]) (rest := []) hcf (c_X7_isFarm l dC dI cI cJ cQ fu    x1 v hv) (va_cwS 1 hts gX7_on_X7_isFarm rfl rfl rfl cd_X7_isFarm ⟨(Nat.le_of_ble_eq_true rfl), (Nat.le_of_ble_eq_true rfl)⟩) (cq_R_S hK hP [] rfl) rfl rfl hl.1 rfl (lv_room (Nat.le_of_ble_eq_true rfl)) dX7_on_1 ⟨Nat.le_refl _, Nat.le_refl _⟩) (fun u1 hd => ?_)
  refine rx_if_eq hx hb 31 dX7_on_4 rfl hd (fun hd => ?_) (fun hd => ?_)
  · exact b31   s_m hd _ _ _ hP hD hS (lv_sub hl [0] rfl)
  refine lv_iload_n hx hb dX7_on_7 rfl (lv_at hl 2 rfl) ?_
  refine lv_i2l hx hb dX7_on_8 rfl ?_
  refine lv_lconst (v := 0) hx hb dX7_on_9 rfl ?_
  refine lv_ldc2 hx hb hown kc_129 dX7_on_10 ?_
  refine rx_roi hd (fun v hv => W.runS (As := [.long (Int32.toInt64 x2), .long (0 : Int64), .long (60 : Int64)]) (rest := []) hcf (c_X7_in l dC dI cI cJ cQ fu    (Int32.toInt64 x2) (0 : Int64) (60 : Int64) v hv) (va_cwS 3 hts gX7_on_X7_in rfl rfl rfl cd_X7_in ⟨(Nat.le_of_ble_eq_true rfl), (Nat.le_of_ble_eq_true rfl)⟩) (cq_R_S hK hP [] rfl) rfl rfl hl.1 rfl (lv_room (Nat.le_of_ble_eq_true rfl)) dX7_on_13 ⟨Nat.le_refl _, Nat.le_refl _⟩) (fun u13 hd => ?_)
  refine rx_if_eq hx hb 31 dX7_on_16 rfl hd (fun hd => ?_) (fun hd => ?_)
  · exact b31   s_m hd _ _ _ hP hD hS (lv_sub hl [0] rfl)
  refine lv_iload_n hx hb dX7_on_19 rfl (lv_at hl 3 rfl) ?_
  refine lv_i2l hx hb dX7_on_20 rfl ?_
  refine lv_lconst (v := 1) hx hb dX7_on_21 rfl ?_
  refine lv_ldc2 hx hb hown kc_82 dX7_on_22 ?_
  refine rx_roi hd (fun v hv => W.runS (As := [.long (Int32.toInt64 x3), .long (1 : Int64), .long (2 : Int64)]) (rest := []) hcf (c_X7_in l dC dI cI cJ cQ fu    (Int32.toInt64 x3) (1 : Int64) (2 : Int64) v hv) (va_cwS 3 hts gX7_on_X7_in rfl rfl rfl cd_X7_in ⟨(Nat.le_of_ble_eq_true rfl), (Nat.le_of_ble_eq_true rfl)⟩) (cq_R_S hK hP [] rfl) rfl rfl hl.1 rfl (lv_room (Nat.le_of_ble_eq_true rfl)) dX7_on_25 ⟨Nat.le_refl _, Nat.le_refl _⟩) (fun u25 hd => ?_)
  refine rx_if_ne hx hb 38 dX7_on_28 rfl hd (fun hd => ?_) (fun hd => ?_)
  · refine lv_aload_n hx hb dX7_on_38 rfl (lv_at hl 0 rfl) ?_
    refine rx_upv1 hd hD hS hA (fun v hv => va_runV (As := []) (rest := []) hcf (c_X7_laysAside l dC dI cI cJ cQ fu a_m _  s_m  v hv) (cwV 0 hts gX7_on_X7_laysAside rfl rfl rfl cd_X7_laysAside ⟨(Nat.le_of_ble_eq_true rfl), (Nat.le_of_ble_eq_true rfl)⟩) (cq_U_V1 (q0 := 0) (ci := 6) hK hP hD rfl rfl) rfl rfl hl.1 rfl (lv_room (Nat.le_of_ble_eq_true rfl)) dX7_on_39 ⟨Nat.le_refl _, Nat.le_refl _⟩) (fun u39 hd H locs hP hD hS => ?_)
    refine lv_aload_n hx hb dX7_on_42 rfl (lv_at hl 0 rfl) ?_
    refine lv_iload_n hx hb dX7_on_43 rfl (lv_at hl 2 rfl) ?_
    refine rx_upv1 hd hD hS hA (fun v hv => va_runV (As := [.int x2]) (rest := []) hcf (c_X7_goesOn l dC dI cI cJ cQ fu a_m _  u39 x2 v hv) (cwV 1 hts gX7_on_X7_goesOn rfl rfl rfl cd_X7_goesOn ⟨(Nat.le_of_ble_eq_true rfl), (Nat.le_of_ble_eq_true rfl)⟩) (cq_U_V1 (q0 := 0) (ci := 6) hK hP hD rfl rfl) rfl rfl hl.1 rfl (lv_room (Nat.le_of_ble_eq_true rfl)) dX7_on_44 ⟨Nat.le_refl _, Nat.le_refl _⟩) (fun u44 hd H locs hP hD hS => ?_)
    refine lv_aload_n hx hb dX7_on_47 rfl (lv_at hl 0 rfl) ?_
    refine lv_aload_n hx hb dX7_on_48 rfl (lv_at hl 0 rfl) ?_
    refine rx_get hx hb hts fiX7_on_X7 hown hK hP 0 rfl rfl 0 (Nat.le_of_ble_eq_true rfl) fl_7 rfl rfl dX7_on_49 ?_
    refine lv_iload_n hx hb dX7_on_52 rfl (lv_at hl 1 rfl) ?_
    refine lv_iload_n hx hb dX7_on_53 rfl (lv_at hl 3 rfl) ?_
    refine rx_roi hd (fun v hv => W.runS (As := [.int x1, .int x3]) (rest := [.ref (a_m 1), .ref (a_m 0)]) hcf (c_X7_field l dC dI cI cJ cQ fu    x1 x3 v hv) (va_cwS 2 hts gX7_on_X7_field rfl rfl rfl cd_X7_field ⟨(Nat.le_of_ble_eq_true rfl), (Nat.le_of_ble_eq_true rfl)⟩) (cq_R_S hK hP [] rfl) rfl rfl hl.1 rfl (lv_room (Nat.le_of_ble_eq_true rfl)) dX7_on_54 ⟨Nat.le_refl _, Nat.le_refl _⟩) (fun u54 hd => ?_)
    refine rx_iald hx hb hK hP 1 0 rfl rfl hd dX7_on_57 (fun v57 hd => ?_)
    refine rx_upi1 hd hD hS hA (fun v hv => va_runV (As := [.int v57]) (rest := []) hcf (c_X7_takesBack l dC dI cI cJ cQ fu a_m _  u44 v57 v hv) (cwV 1 hts gX7_on_X7_takesBack rfl rfl rfl cd_X7_takesBack ⟨(Nat.le_of_ble_eq_true rfl), (Nat.le_of_ble_eq_true rfl)⟩) (cq_U_V1 (q0 := 0) (ci := 6) hK hP hD rfl rfl) rfl rfl hl.1 rfl (lv_room (Nat.le_of_ble_eq_true rfl)) dX7_on_58 ⟨Nat.le_refl _, Nat.le_refl _⟩) (fun u58 hd H locs hP hD hS => ?_)
    exact rx_retUi (u := u58.2) (w1 := (fun u : MS => (wM cI cJ a_m u))) hx hb hr hlocks hd hK hP hD hS dX7_on_61
  exact b31   s_m hd _ _ _ hP hD hS (lv_sub hl [0] rfl)
theorem fiX7_dryIn_X7 : ∀ w ∈ wsX70, w ∈ wsX7_dryIn := mem_r _ [46, 47, 48, 49, 50, 51, 52, 53, 54, 55, 56, 57, 58, 59, 60, 61, 62, 63] rfl
set_option maxHeartbeats 8000000 in
set_option maxRecDepth 100000 in
theorem c_X7_dryIn (l : Launch) (dC : Nat → ClassId) (dI : Nat → Nat → Nat) (cI cJ cQ : ClassId) (fu : Nat) (a_m : Nat → Nat) (sz : Nat) (s_m : MS) (x1 : Int32) (x2 : Int32) (r : Int32 × MS) (hd : fX7_dryIn fu  s_m x1 x2 = some r) : mUi l yX7_dryIn wsX7_dryIn (gRm 6 137) [.ref (a_m 0), .int x1, .int x2] (dC, dI) vwCl (gty cI cJ cQ) (wM cI cJ a_m s_m) sz (fun u : MS => (wM cI cJ a_m u)) r := by
  refine Met.ofW (cc := cX7_dryIn) (maxL := 5) (ret := (some .int)) (by decide) rfl ?_
  intro p e s m args below meth c s₁ B hml hv
  obtain ⟨hav, hsz, hP, hK, hD0⟩ := hv
  subst hsz
  have hD := hD0.self (sz := s.heap.size)
  generalize hAe : va_A (wM cI cJ a_m s_m) s.heap.size = A at hD ⊢
  have hA : ∀ q : Nat, s.heap.size ≤ q → A q := fun q h => by rw [← hAe]; exact Or.inr h
  have hS : va_S A s.heap s.heap [] := va_S.rf
  have hx := B.exec
  have hb := B.bytes
  have hr := B.returns
  have hts := atoms_spec (ws := wsX7_dryIn) B.pre
  have hown : s.vm.findClass RX7 = some m.cls := findClass_of_methodNamed B.named
  have hlocks := B.notSynchronized
  have hcf : CallFix p m c cX7_dryIn 5 s args wsX7_dryIn RX7 := ⟨hx, hb, hml, hown, hts⟩
  have fl_118 := hts (.fieldLink RX7 118 "BucketGiftModel" "dryNow" "I") (List.mem_of_getElem? (i := 1) rfl)
  have hg : entryFrame m args 5 = entryFrame m ([.ref (a_m 0), .int x1, .int x2] : List Value).toArray 5 := by rw [hav]
  rw [hg, lg_entry_eq]
  have hl := lv_entry ([.ref (a_m 0), .int x1, .int x2]) (n := 5) (Nat.le_of_ble_eq_true rfl)
  generalize (lg_sl ([.ref (a_m 0), .int x1, .int x2]) ++ List.replicate (5 - (lg_sl ([.ref (a_m 0), .int x1, .int x2])).length) Slot.unset).toArray = ls at hl ⊢
  have hl : lv_has ls 5 [(0, .ref (a_m 0)), (1, .int x1), (2, .int x2)] := hl
  clear hg
  unfold fX7_dryIn at hd
  have b61 : ∀ (s_m : MS) (y0 : Int32), fX7_dryIn_b61 fu    s_m y0 = some r → bk_U p l e (headSpec wsX7_dryIn (gRm 6 137)).room s m args below meth c (qUi below args s (dC, dI) vwCl (gty cI cJ cQ) A (fun u : MS => (wM cI cJ a_m u)) r) (dC, dI) vwCl A 5 (wM cI cJ a_m s_m) 61 [] [.int y0, .ref (a_m 0)] := by
    intro s_m y0 hd
    intro H locs ls hP hD hS hl
    unfold fX7_dryIn_b61 at hd
    refine rx_upi1 hd hD hS hA (fun v hv => va_runV (As := [.int y0]) (rest := []) hcf (c_X7_takesBack l dC dI cI cJ cQ fu a_m _  s_m y0 v hv) (cwV 1 hts gX7_dryIn_X7_takesBack rfl rfl rfl cd_X7_takesBack ⟨(Nat.le_of_ble_eq_true rfl), (Nat.le_of_ble_eq_true rfl)⟩) (cq_U_V1 (q0 := 0) (ci := 6) hK hP hD rfl rfl) rfl rfl hl.1 rfl (lv_room (Nat.le_of_ble_eq_true rfl)) dX7_dryIn_61 ⟨Nat.le_refl _, Nat.le_refl _⟩) (fun u61 hd H locs hP hD hS => ?_)
    exact rx_retUi (u := u61.2) (w1 := (fun u : MS => (wM cI cJ a_m u))) hx hb hr hlocks hd hK hP hD hS dX7_dryIn_64
  have b48 : ∀ (s_m : MS) (x2 : Int32) (x3 : Int32) (x4 : Int32), fX7_dryIn_b48 fu    s_m x2 x3 x4 = some r → bk_U p l e (headSpec wsX7_dryIn (gRm 6 137)).room s m args below meth c (qUi below args s (dC, dI) vwCl (gty cI cJ cQ) A (fun u : MS => (wM cI cJ a_m u)) r) (dC, dI) vwCl A 5 (wM cI cJ a_m s_m) 48 [(0, .ref (a_m 0)), (2, .int x2), (3, .int x3), (4, .int x4)] [] := by
    intro s_m x2 x3 x4 hd
    intro H locs ls hP hD hS hl
    unfold fX7_dryIn_b48 at hd
    refine lv_aload_n hx hb dX7_dryIn_48 rfl (lv_at hl 0 rfl) ?_
    refine lv_iload hx hb dX7_dryIn_49 (lv_at hl 3 rfl) ?_
    refine rx_if_eq hx hb 58 dX7_dryIn_51 rfl hd (fun hd => ?_) (fun hd => ?_)
    · refine lv_iload_n hx hb dX7_dryIn_58 rfl (lv_at hl 1 rfl) ?_
      refine lv_iconst (v := 1) hx hb dX7_dryIn_59 ki_1 ?_
      refine lv_iadd hx hb dX7_dryIn_60 ?_
      exact b61   s_m (x2 + (1 : Int32)) hd _ _ _ hP hD hS (lv_sub hl [] rfl)
    refine lv_iload_n hx hb dX7_dryIn_54 rfl (lv_at hl 2 rfl) ?_
    refine lv_goto (tgt := 61) hx hb dX7_dryIn_55 rfl ?_
    exact b61   s_m x3 hd _ _ _ hP hD hS (lv_sub hl [] rfl)
  have b9 : ∀ (x1 : Int32) (x2 : Int32) (s_m : MS) (x3 : Int32) (x4 : Int32), fX7_dryIn_b9 fu    x1 x2 s_m x3 x4 = some r → bk_U p l e (headSpec wsX7_dryIn (gRm 6 137)).room s m args below meth c (qUi below args s (dC, dI) vwCl (gty cI cJ cQ) A (fun u : MS => (wM cI cJ a_m u)) r) (dC, dI) vwCl A 5 (wM cI cJ a_m s_m) 9 [(0, .ref (a_m 0)), (1, .int x1), (2, .int x2), (3, .int x3), (4, .int x4)] [] := by
    intro x1 x2
    have L : ∀ (n : Nat) (s_m : MS) (x3 : Int32) (x4 : Int32), g_lp (fun _ _ _ => none) (fX7_dryIn_b9B fu    x1 x2) n s_m x3 x4 = some r → bk_U p l e (headSpec wsX7_dryIn (gRm 6 137)).room s m args below meth c (qUi below args s (dC, dI) vwCl (gty cI cJ cQ) A (fun u : MS => (wM cI cJ a_m u)) r) (dC, dI) vwCl A 5 (wM cI cJ a_m s_m) 9 [(0, .ref (a_m 0)), (1, .int x1), (2, .int x2), (3, .int x3), (4, .int x4)] [] := by
      intro n
      induction n with
      | zero => intro s_m x3 x4 hd; exact absurd hd (by intro h; cases h)
      | succ n k9 =>
        intro s_m x3 x4 hd
        intro H locs ls hP hD hS hl
        have hd : fX7_dryIn_b9B fu    x1 x2 (g_lp (fun _ _ _ => none) (fX7_dryIn_b9B fu    x1 x2) n) s_m x3 x4 = some r := hd
        unfold fX7_dryIn_b9B at hd
        refine lv_iload_n hx hb dX7_dryIn_9 rfl (lv_at hl 3 rfl) ?_
        refine lv_iload_n hx hb dX7_dryIn_10 rfl (lv_at hl 2 rfl) ?_
        refine rx_icmp_ge hx hb 48 dX7_dryIn_11 rfl hd (fun hd => ?_) (fun hd => ?_)
        · exact b48   s_m x2 x3 x4 hd _ _ _ hP hD hS (lv_sub hl [0, 2, 3, 4] rfl)
        refine lv_iload hx hb dX7_dryIn_14 (lv_at hl 4 rfl) ?_
        refine rx_if_ne hx hb 48 dX7_dryIn_16 rfl hd (fun hd => ?_) (fun hd => ?_)
        · exact b48   s_m x2 x3 x4 hd _ _ _ hP hD hS (lv_sub hl [0, 2, 3, 4] rfl)
        refine lv_aload_n hx hb dX7_dryIn_19 rfl (lv_at hl 0 rfl) ?_
        refine rx_upv1 hd hD hS hA (fun v hv => va_runV (As := []) (rest := []) hcf (c_X7_day l dC dI cI cJ cQ fu a_m _  s_m  v hv) (cwV 0 hts gX7_dryIn_X7_day rfl rfl rfl cd_X7_day ⟨(Nat.le_of_ble_eq_true rfl), (Nat.le_of_ble_eq_true rfl)⟩) (cq_U_V1 (q0 := 0) (ci := 6) hK hP hD rfl rfl) rfl rfl hl.1 rfl (lv_room (Nat.le_of_ble_eq_true rfl)) dX7_dryIn_20 ⟨Nat.le_refl _, Nat.le_refl _⟩) (fun u20 hd H locs hP hD hS => ?_)
        refine rx_iinc (lv' := fun z => (3, .int z) :: [(0, .ref (a_m 0)), (1, .int x1), (2, .int x2), (4, .int x4)]) hx hb (j := 3) dX7_dryIn_23 hl rfl ki_1 hd (Nat.le_of_ble_eq_true rfl) (fun _ => rfl) (fun x3_23 hd ls hl => ?_)
        refine lv_aload_n hx hb dX7_dryIn_26 rfl (lv_at hl 1 rfl) ?_
        refine rx_get hx hb hts fiX7_dryIn_X7 hown hK hP 0 rfl rfl 6 (Nat.le_of_ble_eq_true rfl) fl_118 rfl rfl dX7_dryIn_27 ?_
        refine lv_iload_n hx hb dX7_dryIn_30 rfl (lv_at hl 2 rfl) ?_
        refine lv_ishr hx hb dX7_dryIn_31 ?_
        refine lv_iconst (v := 1) hx hb dX7_dryIn_32 ki_1 ?_
        refine lv_iand hx hb dX7_dryIn_33 ?_
        refine lv_iconst (v := 1) hx hb dX7_dryIn_34 ki_1 ?_
        refine rx_icmp_ne hx hb 42 dX7_dryIn_35 rfl hd (fun hd => ?_) (fun hd => ?_)
        · refine lv_iconst (v := 0) hx hb dX7_dryIn_42 ki_0 ?_
          refine lv_istore (lv' := [(4, .int (0 : Int32)), (3, .int x3_23), (0, .ref (a_m 0)), (1, .int x1), (2, .int x2)]) hx hb dX7_dryIn_43 hl (Nat.le_of_ble_eq_true rfl) rfl (fun ls hl => ?_)
          refine lv_goto (tgt := 9) hx hb dX7_dryIn_45 rfl ?_
          exact k9 u20 x3_23 (0 : Int32) hd _ _ _ hP hD hS (lv_sub hl [2, 3, 4, 1, 0] rfl)
        refine lv_iconst (v := 1) hx hb dX7_dryIn_38 ki_1 ?_
        refine lv_goto (tgt := 43) hx hb dX7_dryIn_39 rfl ?_
        refine lv_istore (lv' := [(4, .int (1 : Int32)), (3, .int x3_23), (0, .ref (a_m 0)), (1, .int x1), (2, .int x2)]) hx hb dX7_dryIn_43 hl (Nat.le_of_ble_eq_true rfl) rfl (fun ls hl => ?_)
        refine lv_goto (tgt := 9) hx hb dX7_dryIn_45 rfl ?_
        exact k9 u20 x3_23 (1 : Int32) hd _ _ _ hP hD hS (lv_sub hl [2, 3, 4, 1, 0] rfl)
    exact fun s_m x3 x4 => L fu s_m x3 x4
  refine lv_aload_n hx hb dX7_dryIn_0 rfl (lv_at hl 0 rfl) ?_
  refine rx_upv1 hd hD hS hA (fun v hv => va_runV (As := []) (rest := []) hcf (c_X7_laysAside l dC dI cI cJ cQ fu a_m _  s_m  v hv) (cwV 0 hts gX7_dryIn_X7_laysAside rfl rfl rfl cd_X7_laysAside ⟨(Nat.le_of_ble_eq_true rfl), (Nat.le_of_ble_eq_true rfl)⟩) (cq_U_V1 (q0 := 0) (ci := 6) hK hP hD rfl rfl) rfl rfl hl.1 rfl (lv_room (Nat.le_of_ble_eq_true rfl)) dX7_dryIn_1 ⟨Nat.le_refl _, Nat.le_refl _⟩) (fun u1 hd H locs hP hD hS => ?_)
  refine lv_iconst (v := 0) hx hb dX7_dryIn_4 ki_0 ?_
  refine lv_istore_n (lv' := [(3, .int (0 : Int32)), (0, .ref (a_m 0)), (1, .int x1), (2, .int x2)]) hx hb dX7_dryIn_5 rfl hl (Nat.le_of_ble_eq_true rfl) rfl (fun ls hl => ?_)
  refine lv_iconst (v := 0) hx hb dX7_dryIn_6 ki_0 ?_
  refine lv_istore (lv' := [(4, .int (0 : Int32)), (3, .int (0 : Int32)), (0, .ref (a_m 0)), (1, .int x1), (2, .int x2)]) hx hb dX7_dryIn_7 hl (Nat.le_of_ble_eq_true rfl) rfl (fun ls hl => ?_)
  exact b9   x1 x2 u1 (0 : Int32) (0 : Int32) hd _ _ _ hP hD hS (lv_sub hl [2, 3, 4, 1, 0] rfl)
set_option maxHeartbeats 8000000 in
set_option maxRecDepth 100000 in
theorem c_X7_dry (l : Launch) (dC : Nat → ClassId) (dI : Nat → Nat → Nat) (cI cJ cQ : ClassId) (fu : Nat) (a_m : Nat → Nat) (sz : Nat) (s_m : MS) (x1 : Int32) (r : Int32 × MS) (hd : fX7_dry fu  s_m x1 = some r) : mUi l yX7_dry wsX7_dry (gRm 7 161) [.ref (a_m 0), .int x1] (dC, dI) vwCl (gty cI cJ cQ) (wM cI cJ a_m s_m) sz (fun u : MS => (wM cI cJ a_m u)) r := by
  refine Met.ofW (cc := cX7_dry) (maxL := 3) (ret := (some .int)) (by decide) rfl ?_
  intro p e s m args below meth c s₁ B hml hv
  obtain ⟨hav, hsz, hP, hK, hD0⟩ := hv
  subst hsz
  have hD := hD0.self (sz := s.heap.size)
  generalize hAe : va_A (wM cI cJ a_m s_m) s.heap.size = A at hD ⊢
  have hA : ∀ q : Nat, s.heap.size ≤ q → A q := fun q h => by rw [← hAe]; exact Or.inr h
  have hS : va_S A s.heap s.heap [] := va_S.rf
  have hx := B.exec
  have hb := B.bytes
  have hr := B.returns
  have hts := atoms_spec (ws := wsX7_dry) B.pre
  have hown : s.vm.findClass RX7 = some m.cls := findClass_of_methodNamed B.named
  have hlocks := B.notSynchronized
  have hcf : CallFix p m c cX7_dry 3 s args wsX7_dry RX7 := ⟨hx, hb, hml, hown, hts⟩
  have kc_147 := hts (.constant RX7 147 (-1000000004)) (List.mem_of_getElem? (i := 2) rfl)
  have kc_48 := hts (.constant RX7 48 (-1000000001)) (List.mem_of_getElem? (i := 1) rfl)
  have hg : entryFrame m args 3 = entryFrame m ([.ref (a_m 0), .int x1] : List Value).toArray 3 := by rw [hav]
  rw [hg, lg_entry_eq]
  have hl := lv_entry ([.ref (a_m 0), .int x1]) (n := 3) (Nat.le_of_ble_eq_true rfl)
  generalize (lg_sl ([.ref (a_m 0), .int x1]) ++ List.replicate (3 - (lg_sl ([.ref (a_m 0), .int x1])).length) Slot.unset).toArray = ls at hl ⊢
  have hl : lv_has ls 3 [(0, .ref (a_m 0)), (1, .int x1)] := hl
  clear hg
  unfold fX7_dry at hd
  refine lv_iload_n hx hb dX7_dry_0 rfl (lv_at hl 1 rfl) ?_
  refine rx_roi hd (fun v hv => W.runS (As := [.int x1]) (rest := []) hcf (c_X7_isFarm l dC dI cI cJ cQ fu    x1 v hv) (va_cwS 1 hts gX7_dry_X7_isFarm rfl rfl rfl cd_X7_isFarm ⟨(Nat.le_of_ble_eq_true rfl), (Nat.le_of_ble_eq_true rfl)⟩) (cq_R_S hK hP [] rfl) rfl rfl hl.1 rfl (lv_room (Nat.le_of_ble_eq_true rfl)) dX7_dry_1 ⟨Nat.le_refl _, Nat.le_refl _⟩) (fun u1 hd => ?_)
  refine rx_if_ne hx hb 14 dX7_dry_4 rfl hd (fun hd => ?_) (fun hd => ?_)
  · refine lv_aload_n hx hb dX7_dry_14 rfl (lv_at hl 0 rfl) ?_
    refine lv_iload_n hx hb dX7_dry_15 rfl (lv_at hl 1 rfl) ?_
    refine lv_bipush (v := 60) hx hb dX7_dry_16 kb_60 ?_
    refine rx_upi1 hd hD hS hA (fun v hv => va_runV (As := [.int x1, .int (60 : Int32)]) (rest := []) hcf (c_X7_dryIn l dC dI cI cJ cQ fu a_m _  s_m x1 (60 : Int32) v hv) (cwV 2 hts gX7_dry_X7_dryIn rfl rfl rfl cd_X7_dryIn ⟨(Nat.le_of_ble_eq_true rfl), (Nat.le_of_ble_eq_true rfl)⟩) (cq_U_V1 (q0 := 0) (ci := 6) hK hP hD rfl rfl) rfl rfl hl.1 rfl (lv_room (Nat.le_of_ble_eq_true rfl)) dX7_dry_18 ⟨Nat.le_refl _, Nat.le_refl _⟩) (fun u18 hd H locs hP hD hS => ?_)
    refine lv_istore_n (lv' := [(2, .int u18.1), (0, .ref (a_m 0)), (1, .int x1)]) hx hb dX7_dry_21 rfl hl (Nat.le_of_ble_eq_true rfl) rfl (fun ls hl => ?_)
    refine lv_iload_n hx hb dX7_dry_22 rfl (lv_at hl 0 rfl) ?_
    refine lv_bipush (v := 60) hx hb dX7_dry_23 kb_60 ?_
    refine rx_icmp_le hx hb 37 dX7_dry_25 rfl hd (fun hd => ?_) (fun hd => ?_)
    · refine lv_iload_n hx hb dX7_dry_37 rfl (lv_at hl 0 rfl) ?_
      exact rx_retUi (u := u18.2) (w1 := (fun u : MS => (wM cI cJ a_m u))) hx hb hr hlocks hd hK hP hD hS dX7_dry_38
    refine lv_aload_n hx hb dX7_dry_28 rfl (lv_at hl 1 rfl) ?_
    refine lv_ldc hx hb hown kc_147 dX7_dry_29 ?_
    refine rx_upi1 hd hD hS hA (fun v hv => va_runV (As := [.int (-1000000004 : Int32)]) (rest := []) hcf (c_X7_finds l dC dI cI cJ cQ fu a_m _  u18.2 (-1000000004 : Int32) v hv) (cwV 1 hts gX7_dry_X7_finds rfl rfl rfl cd_X7_finds ⟨(Nat.le_of_ble_eq_true rfl), (Nat.le_of_ble_eq_true rfl)⟩) (cq_U_V1 (q0 := 0) (ci := 6) hK hP hD rfl rfl) rfl rfl hl.1 rfl (lv_room (Nat.le_of_ble_eq_true rfl)) dX7_dry_31 ⟨Nat.le_refl _, Nat.le_refl _⟩) (fun u31 hd H locs hP hD hS => ?_)
    refine lv_goto (tgt := 38) hx hb dX7_dry_34 rfl ?_
    exact rx_retUi (u := u31.2) (w1 := (fun u : MS => (wM cI cJ a_m u))) hx hb hr hlocks hd hK hP hD hS dX7_dry_38
  refine lv_aload_n hx hb dX7_dry_7 rfl (lv_at hl 0 rfl) ?_
  refine lv_ldc hx hb hown kc_48 dX7_dry_8 ?_
  refine rx_upi1 hd hD hS hA (fun v hv => va_runV (As := [.int (-1000000001 : Int32)]) (rest := []) hcf (c_X7_finds l dC dI cI cJ cQ fu a_m _  s_m (-1000000001 : Int32) v hv) (cwV 1 hts gX7_dry_X7_finds rfl rfl rfl cd_X7_finds ⟨(Nat.le_of_ble_eq_true rfl), (Nat.le_of_ble_eq_true rfl)⟩) (cq_U_V1 (q0 := 0) (ci := 6) hK hP hD rfl rfl) rfl rfl hl.1 rfl (lv_room (Nat.le_of_ble_eq_true rfl)) dX7_dry_10 ⟨Nat.le_refl _, Nat.le_refl _⟩) (fun u10 hd H locs hP hD hS => ?_)
  exact rx_retUi (u := u10.2) (w1 := (fun u : MS => (wM cI cJ a_m u))) hx hb hr hlocks hd hK hP hD hS dX7_dry_13
theorem fiX7_mostGiven_X7 : ∀ w ∈ wsX70, w ∈ wsX7_mostGiven := mem_r _ [21, 22, 23, 24, 25, 26, 27, 28, 29, 30, 31, 32, 33, 34, 35, 36, 37, 38] rfl
set_option maxHeartbeats 8000000 in
set_option maxRecDepth 100000 in
theorem c_X7_mostGiven (l : Launch) (dC : Nat → ClassId) (dI : Nat → Nat → Nat) (cI cJ cQ : ClassId) (fu : Nat) (a_m : Nat → Nat) (sz : Nat) (s_m : MS) (x1 : Int32) (x2 : Int32) (x3 : Int32) (r : Int32 × MS) (hd : fX7_mostGiven fu  s_m x1 x2 x3 = some r) : mUi l yX7_mostGiven wsX7_mostGiven (gRm 4 91) [.ref (a_m 0), .int x1, .int x2, .int x3] (dC, dI) vwCl (gty cI cJ cQ) (wM cI cJ a_m s_m) sz (fun u : MS => (wM cI cJ a_m u)) r := by
  refine Met.ofW (cc := cX7_mostGiven) (maxL := 9) (ret := (some .int)) (by decide) rfl ?_
  intro p e s m args below meth c s₁ B hml hv
  obtain ⟨hav, hsz, hP, hK, hD0⟩ := hv
  subst hsz
  have hD := hD0.self (sz := s.heap.size)
  generalize hAe : va_A (wM cI cJ a_m s_m) s.heap.size = A at hD ⊢
  have hA : ∀ q : Nat, s.heap.size ≤ q → A q := fun q h => by rw [← hAe]; exact Or.inr h
  have hS : va_S A s.heap s.heap [] := va_S.rf
  have hx := B.exec
  have hb := B.bytes
  have hr := B.returns
  have hts := atoms_spec (ws := wsX7_mostGiven) B.pre
  have hown : s.vm.findClass RX7 = some m.cls := findClass_of_methodNamed B.named
  have hlocks := B.notSynchronized
  have hcf : CallFix p m c cX7_mostGiven 9 s args wsX7_mostGiven RX7 := ⟨hx, hb, hml, hown, hts⟩
  have fl_7 := hts (.fieldLink RX7 7 "BucketGiftModel" "s" "[I") (List.mem_of_getElem? (i := 1) rfl)
  have hg : entryFrame m args 9 = entryFrame m ([.ref (a_m 0), .int x1, .int x2, .int x3] : List Value).toArray 9 := by rw [hav]
  rw [hg, lg_entry_eq]
  have hl := lv_entry ([.ref (a_m 0), .int x1, .int x2, .int x3]) (n := 9) (Nat.le_of_ble_eq_true rfl)
  generalize (lg_sl ([.ref (a_m 0), .int x1, .int x2, .int x3]) ++ List.replicate (9 - (lg_sl ([.ref (a_m 0), .int x1, .int x2, .int x3])).length) Slot.unset).toArray = ls at hl ⊢
  have hl : lv_has ls 9 [(0, .ref (a_m 0)), (1, .int x1), (2, .int x2), (3, .int x3)] := hl
  clear hg
  unfold fX7_mostGiven at hd
  have b56 : ∀ (x1 : Int32) (x2 : Int32) (x3 : Int32) (x4 : Int32), ∀ (K17 : MS → Int32 → Int32 → Int32 → Option (Int32 × MS)) (k17 : ∀ (s_m : MS) (x5 : Int32) (x6 : Int32) (x7 : Int32), K17 s_m x5 x6 x7 = some r → bk_U p l e (headSpec wsX7_mostGiven (gRm 4 91)).room s m args below meth c (qUi below args s (dC, dI) vwCl (gty cI cJ cQ) A (fun u : MS => (wM cI cJ a_m u)) r) (dC, dI) vwCl A 9 (wM cI cJ a_m s_m) 17 [(0, .ref (a_m 0)), (1, .int x1), (2, .int x2), (3, .int x3), (4, .int x4), (5, .int x5), (6, .int x6), (7, .int x7)] []), ∀ (s_m : MS) (x6 : Int32) (x7 : Int32) (x8 : Int32) (y0 : Int32), fX7_mostGiven_b56 fu  K17 x1 x2 x3 x4 s_m x6 x7 x8 y0 = some r → bk_U p l e (headSpec wsX7_mostGiven (gRm 4 91)).room s m args below meth c (qUi below args s (dC, dI) vwCl (gty cI cJ cQ) A (fun u : MS => (wM cI cJ a_m u)) r) (dC, dI) vwCl A 9 (wM cI cJ a_m s_m) 56 [(0, .ref (a_m 0)), (1, .int x1), (2, .int x2), (3, .int x3), (4, .int x4), (6, .int x6), (7, .int x7), (8, .int x8)] [.int y0] := by
    intro x1 x2 x3 x4
    intro K17 k17
    intro s_m x6 x7 x8 y0 hd
    intro H locs ls hP hD hS hl
    unfold fX7_mostGiven_b56 at hd
    refine lv_istore (lv' := [(5, .int y0), (0, .ref (a_m 0)), (1, .int x1), (2, .int x2), (3, .int x3), (4, .int x4), (6, .int x6), (7, .int x7), (8, .int x8)]) hx hb dX7_mostGiven_56 hl (Nat.le_of_ble_eq_true rfl) rfl (fun ls hl => ?_)
    refine lv_iload hx hb dX7_mostGiven_58 (lv_at hl 8 rfl) ?_
    refine lv_iload hx hb dX7_mostGiven_60 (lv_at hl 6 rfl) ?_
    refine rx_icmp_le hx hb 70 dX7_mostGiven_62 rfl hd (fun hd => ?_) (fun hd => ?_)
    · refine lv_iload hx hb dX7_mostGiven_70 (lv_at hl 6 rfl) ?_
      refine lv_istore (lv' := [(6, .int x6), (5, .int y0), (0, .ref (a_m 0)), (1, .int x1), (2, .int x2), (3, .int x3), (4, .int x4), (7, .int x7), (8, .int x8)]) hx hb dX7_mostGiven_72 hl (Nat.le_of_ble_eq_true rfl) rfl (fun ls hl => ?_)
      refine rx_iinc (lv' := fun z => (7, .int z) :: [(6, .int x6), (5, .int y0), (0, .ref (a_m 0)), (1, .int x1), (2, .int x2), (3, .int x3), (4, .int x4), (8, .int x8)]) hx hb (j := 7) dX7_mostGiven_74 hl rfl ki_1 hd (Nat.le_of_ble_eq_true rfl) (fun _ => rfl) (fun x7_74 hd ls hl => ?_)
      refine lv_goto (tgt := 17) hx hb dX7_mostGiven_77 rfl ?_
      exact k17 s_m y0 x6 x7_74 hd _ _ _ hP hD hS (lv_sub hl [3, 4, 5, 6, 7, 2, 1, 0] rfl)
    refine lv_iload hx hb dX7_mostGiven_65 (lv_at hl 8 rfl) ?_
    refine lv_goto (tgt := 72) hx hb dX7_mostGiven_67 rfl ?_
    refine lv_istore (lv' := [(6, .int x8), (5, .int y0), (0, .ref (a_m 0)), (1, .int x1), (2, .int x2), (3, .int x3), (4, .int x4), (7, .int x7), (8, .int x8)]) hx hb dX7_mostGiven_72 hl (Nat.le_of_ble_eq_true rfl) rfl (fun ls hl => ?_)
    refine rx_iinc (lv' := fun z => (7, .int z) :: [(6, .int x8), (5, .int y0), (0, .ref (a_m 0)), (1, .int x1), (2, .int x2), (3, .int x3), (4, .int x4), (8, .int x8)]) hx hb (j := 7) dX7_mostGiven_74 hl rfl ki_1 hd (Nat.le_of_ble_eq_true rfl) (fun _ => rfl) (fun x7_74 hd ls hl => ?_)
    refine lv_goto (tgt := 17) hx hb dX7_mostGiven_77 rfl ?_
    exact k17 s_m y0 x8 x7_74 hd _ _ _ hP hD hS (lv_sub hl [3, 4, 5, 6, 7, 2, 1, 0] rfl)
  have b17 : ∀ (x1 : Int32) (x2 : Int32) (x3 : Int32) (x4 : Int32) (s_m : MS) (x5 : Int32) (x6 : Int32) (x7 : Int32), fX7_mostGiven_b17 fu    x1 x2 x3 x4 s_m x5 x6 x7 = some r → bk_U p l e (headSpec wsX7_mostGiven (gRm 4 91)).room s m args below meth c (qUi below args s (dC, dI) vwCl (gty cI cJ cQ) A (fun u : MS => (wM cI cJ a_m u)) r) (dC, dI) vwCl A 9 (wM cI cJ a_m s_m) 17 [(0, .ref (a_m 0)), (1, .int x1), (2, .int x2), (3, .int x3), (4, .int x4), (5, .int x5), (6, .int x6), (7, .int x7)] [] := by
    intro x1 x2 x3 x4
    have L : ∀ (n : Nat) (s_m : MS) (x5 : Int32) (x6 : Int32) (x7 : Int32), g_lp (fun _ _ _ _ => none) (fX7_mostGiven_b17B fu    x1 x2 x3 x4) n s_m x5 x6 x7 = some r → bk_U p l e (headSpec wsX7_mostGiven (gRm 4 91)).room s m args below meth c (qUi below args s (dC, dI) vwCl (gty cI cJ cQ) A (fun u : MS => (wM cI cJ a_m u)) r) (dC, dI) vwCl A 9 (wM cI cJ a_m s_m) 17 [(0, .ref (a_m 0)), (1, .int x1), (2, .int x2), (3, .int x3), (4, .int x4), (5, .int x5), (6, .int x6), (7, .int x7)] [] := by
      intro n
      induction n with
      | zero => intro s_m x5 x6 x7 hd; exact absurd hd (by intro h; cases h)
      | succ n k17 =>
        intro s_m x5 x6 x7 hd
        intro H locs ls hP hD hS hl
        have hd : fX7_mostGiven_b17B fu    x1 x2 x3 x4 (g_lp (fun _ _ _ _ => none) (fX7_mostGiven_b17B fu    x1 x2 x3 x4) n) s_m x5 x6 x7 = some r := hd
        unfold fX7_mostGiven_b17B at hd
        refine lv_iload hx hb dX7_mostGiven_17 (lv_at hl 7 rfl) ?_
        refine lv_iload_n hx hb dX7_mostGiven_19 rfl (lv_at hl 3 rfl) ?_
        refine rx_icmp_ge hx hb 80 dX7_mostGiven_20 rfl hd (fun hd => ?_) (fun hd => ?_)
        · refine lv_aload_n hx hb dX7_mostGiven_80 rfl (lv_at hl 0 rfl) ?_
          refine rx_get hx hb hts fiX7_mostGiven_X7 hown hK hP 0 rfl rfl 0 (Nat.le_of_ble_eq_true rfl) fl_7 rfl rfl dX7_mostGiven_81 ?_
          refine lv_iload_n hx hb dX7_mostGiven_84 rfl (lv_at hl 1 rfl) ?_
          refine lv_iload_n hx hb dX7_mostGiven_85 rfl (lv_at hl 2 rfl) ?_
          refine rx_roi hd (fun v hv => W.runS (As := [.int x1, .int x2]) (rest := [.ref (a_m 1)]) hcf (c_X7_spot l dC dI cI cJ cQ fu    x1 x2 v hv) (va_cwS 2 hts gX7_mostGiven_X7_spot rfl rfl rfl cd_X7_spot ⟨(Nat.le_of_ble_eq_true rfl), (Nat.le_of_ble_eq_true rfl)⟩) (cq_R_S hK hP [] rfl) rfl rfl hl.1 rfl (lv_room (Nat.le_of_ble_eq_true rfl)) dX7_mostGiven_86 ⟨Nat.le_refl _, Nat.le_refl _⟩) (fun u86 hd => ?_)
          refine lv_iload hx hb dX7_mostGiven_89 (lv_at hl 4 rfl) ?_
          refine rx_iast (wM cI cJ a_m (muS s_m (Int32.toNatClampNeg u86) x4)) hx hb hK hP hD hS 1 0 rfl rfl hd (wM_uS ..) dX7_mostGiven_91 (fun hd H locs hP hD hS => ?_)
          refine lv_iload hx hb dX7_mostGiven_92 (lv_at hl 5 rfl) ?_
          exact rx_retUi (u := (muS s_m (Int32.toNatClampNeg u86) x4)) (w1 := (fun u : MS => (wM cI cJ a_m u))) hx hb hr hlocks hd hK hP hD hS dX7_mostGiven_94
        refine lv_aload_n hx hb dX7_mostGiven_23 rfl (lv_at hl 0 rfl) ?_
        refine rx_get hx hb hts fiX7_mostGiven_X7 hown hK hP 0 rfl rfl 0 (Nat.le_of_ble_eq_true rfl) fl_7 rfl rfl dX7_mostGiven_24 ?_
        refine lv_iload_n hx hb dX7_mostGiven_27 rfl (lv_at hl 1 rfl) ?_
        refine lv_iload_n hx hb dX7_mostGiven_28 rfl (lv_at hl 2 rfl) ?_
        refine rx_roi hd (fun v hv => W.runS (As := [.int x1, .int x2]) (rest := [.ref (a_m 1)]) hcf (c_X7_spot l dC dI cI cJ cQ fu    x1 x2 v hv) (va_cwS 2 hts gX7_mostGiven_X7_spot rfl rfl rfl cd_X7_spot ⟨(Nat.le_of_ble_eq_true rfl), (Nat.le_of_ble_eq_true rfl)⟩) (cq_R_S hK hP [] rfl) rfl rfl hl.1 rfl (lv_room (Nat.le_of_ble_eq_true rfl)) dX7_mostGiven_29 ⟨Nat.le_refl _, Nat.le_refl _⟩) (fun u29 hd => ?_)
        refine lv_iload hx hb dX7_mostGiven_32 (lv_at hl 7 rfl) ?_
        refine rx_iast (wM cI cJ a_m (muS s_m (Int32.toNatClampNeg u29) x7)) hx hb hK hP hD hS 1 0 rfl rfl hd (wM_uS ..) dX7_mostGiven_34 (fun hd H locs hP hD hS => ?_)
        refine lv_aload_n hx hb dX7_mostGiven_35 rfl (lv_at hl 0 rfl) ?_
        refine lv_iload_n hx hb dX7_mostGiven_36 rfl (lv_at hl 1 rfl) ?_
        refine rx_roi hd (fun v hv => W.runV (As := [.int x1]) (rest := []) hcf (c_X7_gives l dC dI cI cJ cQ fu a_m  (muS s_m (Int32.toNatClampNeg u29) x7) x1 v hv) (cwV 1 hts gX7_mostGiven_X7_gives rfl rfl rfl cd_X7_gives ⟨(Nat.le_of_ble_eq_true rfl), (Nat.le_of_ble_eq_true rfl)⟩) (cq_R_V1 (q0 := 0) (ci := 6) hK hP rfl rfl) rfl rfl hl.1 rfl (lv_room (Nat.le_of_ble_eq_true rfl)) dX7_mostGiven_37 ⟨Nat.le_refl _, Nat.le_refl _⟩) (fun u37 hd => ?_)
        refine lv_istore (lv' := [(8, .int u37), (0, .ref (a_m 0)), (1, .int x1), (2, .int x2), (3, .int x3), (4, .int x4), (5, .int x5), (6, .int x6), (7, .int x7)]) hx hb dX7_mostGiven_40 hl (Nat.le_of_ble_eq_true rfl) rfl (fun ls hl => ?_)
        refine lv_iload hx hb dX7_mostGiven_42 (lv_at hl 0 rfl) ?_
        refine lv_iload hx hb dX7_mostGiven_44 (lv_at hl 7 rfl) ?_
        refine rx_icmp_le hx hb 54 dX7_mostGiven_46 rfl hd (fun hd => ?_) (fun hd => ?_)
        · refine lv_iload hx hb dX7_mostGiven_54 (lv_at hl 6 rfl) ?_
          exact b56 x1 x2 x3 x4 _ k17 (muS s_m (Int32.toNatClampNeg u29) x7) x6 x7 u37 x5 hd _ _ _ hP hD hS (lv_sub hl [1, 2, 3, 4, 5, 7, 8, 0] rfl)
        refine lv_iload hx hb dX7_mostGiven_49 (lv_at hl 8 rfl) ?_
        refine lv_goto (tgt := 56) hx hb dX7_mostGiven_51 rfl ?_
        exact b56 x1 x2 x3 x4 _ k17 (muS s_m (Int32.toNatClampNeg u29) x7) x6 x7 u37 x7 hd _ _ _ hP hD hS (lv_sub hl [1, 2, 3, 4, 5, 7, 8, 0] rfl)
    exact fun s_m x5 x6 x7 => L fu s_m x5 x6 x7
  refine lv_aload_n hx hb dX7_mostGiven_0 rfl (lv_at hl 0 rfl) ?_
  refine lv_iload_n hx hb dX7_mostGiven_1 rfl (lv_at hl 1 rfl) ?_
  refine lv_iload_n hx hb dX7_mostGiven_2 rfl (lv_at hl 2 rfl) ?_
  refine rx_roi hd (fun v hv => W.runV (As := [.int x1, .int x2]) (rest := []) hcf (c_X7_its l dC dI cI cJ cQ fu a_m  s_m x1 x2 v hv) (cwV 2 hts gX7_mostGiven_X7_its rfl rfl rfl cd_X7_its ⟨(Nat.le_of_ble_eq_true rfl), (Nat.le_of_ble_eq_true rfl)⟩) (cq_R_V1 (q0 := 0) (ci := 6) hK hP rfl rfl) rfl rfl hl.1 rfl (lv_room (Nat.le_of_ble_eq_true rfl)) dX7_mostGiven_3 ⟨Nat.le_refl _, Nat.le_refl _⟩) (fun u3 hd => ?_)
  refine lv_istore (lv' := [(4, .int u3), (0, .ref (a_m 0)), (1, .int x1), (2, .int x2), (3, .int x3)]) hx hb dX7_mostGiven_6 hl (Nat.le_of_ble_eq_true rfl) rfl (fun ls hl => ?_)
  refine lv_iconst (v := 0) hx hb dX7_mostGiven_8 ki_0 ?_
  refine lv_istore (lv' := [(5, .int (0 : Int32)), (4, .int u3), (0, .ref (a_m 0)), (1, .int x1), (2, .int x2), (3, .int x3)]) hx hb dX7_mostGiven_9 hl (Nat.le_of_ble_eq_true rfl) rfl (fun ls hl => ?_)
  refine lv_iconst (v := -1) hx hb dX7_mostGiven_11 ki_m1 ?_
  refine lv_istore (lv' := [(6, .int (-1 : Int32)), (5, .int (0 : Int32)), (4, .int u3), (0, .ref (a_m 0)), (1, .int x1), (2, .int x2), (3, .int x3)]) hx hb dX7_mostGiven_12 hl (Nat.le_of_ble_eq_true rfl) rfl (fun ls hl => ?_)
  refine lv_iconst (v := 0) hx hb dX7_mostGiven_14 ki_0 ?_
  refine lv_istore (lv' := [(7, .int (0 : Int32)), (6, .int (-1 : Int32)), (5, .int (0 : Int32)), (4, .int u3), (0, .ref (a_m 0)), (1, .int x1), (2, .int x2), (3, .int x3)]) hx hb dX7_mostGiven_15 hl (Nat.le_of_ble_eq_true rfl) rfl (fun ls hl => ?_)
  exact b17   x1 x2 x3 u3 s_m (0 : Int32) (-1 : Int32) (0 : Int32) hd _ _ _ hP hD hS (lv_sub hl [4, 5, 6, 7, 3, 2, 1, 0] rfl)
theorem fiX7_favourite_X7 : ∀ w ∈ wsX70, w ∈ wsX7_favourite := mem_r _ [28, 29, 30, 31, 32, 33, 34, 35, 36, 37, 38, 39, 40, 41, 42, 43, 44, 45] rfl
set_option maxHeartbeats 8000000 in
set_option maxRecDepth 100000 in
theorem c_X7_favourite (l : Launch) (dC : Nat → ClassId) (dI : Nat → Nat → Nat) (cI cJ cQ : ClassId) (fu : Nat) (a_m : Nat → Nat) (sz : Nat) (s_m : MS)  (r : Int32 × MS) (hd : fX7_favourite fu  s_m  = some r) : mUi l yX7_favourite wsX7_favourite (gRm 4 91) [.ref (a_m 0)] (dC, dI) vwCl (gty cI cJ cQ) (wM cI cJ a_m s_m) sz (fun u : MS => (wM cI cJ a_m u)) r := by
  refine Met.ofW (cc := cX7_favourite) (maxL := 5) (ret := (some .int)) (by decide) rfl ?_
  intro p e s m args below meth c s₁ B hml hv
  obtain ⟨hav, hsz, hP, hK, hD0⟩ := hv
  subst hsz
  have hD := hD0.self (sz := s.heap.size)
  generalize hAe : va_A (wM cI cJ a_m s_m) s.heap.size = A at hD ⊢
  have hA : ∀ q : Nat, s.heap.size ≤ q → A q := fun q h => by rw [← hAe]; exact Or.inr h
  have hS : va_S A s.heap s.heap [] := va_S.rf
  have hx := B.exec
  have hb := B.bytes
  have hr := B.returns
  have hts := atoms_spec (ws := wsX7_favourite) B.pre
  have hown : s.vm.findClass RX7 = some m.cls := findClass_of_methodNamed B.named
  have hlocks := B.notSynchronized
  have hcf : CallFix p m c cX7_favourite 5 s args wsX7_favourite RX7 := ⟨hx, hb, hml, hown, hts⟩
  have fl_7 := hts (.fieldLink RX7 7 "BucketGiftModel" "s" "[I") (List.mem_of_getElem? (i := 1) rfl)
  have kc_147 := hts (.constant RX7 147 (-1000000004)) (List.mem_of_getElem? (i := 2) rfl)
  have hg : entryFrame m args 5 = entryFrame m ([.ref (a_m 0)] : List Value).toArray 5 := by rw [hav]
  rw [hg, lg_entry_eq]
  have hl := lv_entry ([.ref (a_m 0)]) (n := 5) (Nat.le_of_ble_eq_true rfl)
  generalize (lg_sl ([.ref (a_m 0)]) ++ List.replicate (5 - (lg_sl ([.ref (a_m 0)])).length) Slot.unset).toArray = ls at hl ⊢
  have hl : lv_has ls 5 [(0, .ref (a_m 0))] := hl
  clear hg
  unfold fX7_favourite at hd
  have b34 : ∀ (K6 : MS → Int32 → Int32 → Int32 → Option (Int32 × MS)) (k6 : ∀ (s_m : MS) (x1 : Int32) (x2 : Int32) (x3 : Int32), K6 s_m x1 x2 x3 = some r → bk_U p l e (headSpec wsX7_favourite (gRm 4 91)).room s m args below meth c (qUi below args s (dC, dI) vwCl (gty cI cJ cQ) A (fun u : MS => (wM cI cJ a_m u)) r) (dC, dI) vwCl A 5 (wM cI cJ a_m s_m) 6 [(0, .ref (a_m 0)), (1, .int x1), (2, .int x2), (3, .int x3)] []), ∀ (s_m : MS) (x2 : Int32) (x3 : Int32) (x4 : Int32) (y0 : Int32), fX7_favourite_b34 fu  K6  s_m x2 x3 x4 y0 = some r → bk_U p l e (headSpec wsX7_favourite (gRm 4 91)).room s m args below meth c (qUi below args s (dC, dI) vwCl (gty cI cJ cQ) A (fun u : MS => (wM cI cJ a_m u)) r) (dC, dI) vwCl A 5 (wM cI cJ a_m s_m) 34 [(0, .ref (a_m 0)), (2, .int x2), (3, .int x3), (4, .int x4)] [.int y0] := by
    intro K6 k6
    intro s_m x2 x3 x4 y0 hd
    intro H locs ls hP hD hS hl
    unfold fX7_favourite_b34 at hd
    refine lv_istore_n (lv' := [(1, .int y0), (0, .ref (a_m 0)), (2, .int x2), (3, .int x3), (4, .int x4)]) hx hb dX7_favourite_34 rfl hl (Nat.le_of_ble_eq_true rfl) rfl (fun ls hl => ?_)
    refine lv_iload hx hb dX7_favourite_35 (lv_at hl 4 rfl) ?_
    refine lv_iload_n hx hb dX7_favourite_37 rfl (lv_at hl 2 rfl) ?_
    refine rx_icmp_le hx hb 46 dX7_favourite_38 rfl hd (fun hd => ?_) (fun hd => ?_)
    · refine lv_iload_n hx hb dX7_favourite_46 rfl (lv_at hl 2 rfl) ?_
      refine lv_istore_n (lv' := [(2, .int x2), (1, .int y0), (0, .ref (a_m 0)), (3, .int x3), (4, .int x4)]) hx hb dX7_favourite_47 rfl hl (Nat.le_of_ble_eq_true rfl) rfl (fun ls hl => ?_)
      refine rx_iinc (lv' := fun z => (3, .int z) :: [(2, .int x2), (1, .int y0), (0, .ref (a_m 0)), (4, .int x4)]) hx hb (j := 3) dX7_favourite_48 hl rfl ki_1 hd (Nat.le_of_ble_eq_true rfl) (fun _ => rfl) (fun x3_48 hd ls hl => ?_)
      refine lv_goto (tgt := 6) hx hb dX7_favourite_51 rfl ?_
      exact k6 s_m y0 x2 x3_48 hd _ _ _ hP hD hS (lv_sub hl [3, 2, 1, 0] rfl)
    refine lv_iload hx hb dX7_favourite_41 (lv_at hl 4 rfl) ?_
    refine lv_goto (tgt := 47) hx hb dX7_favourite_43 rfl ?_
    refine lv_istore_n (lv' := [(2, .int x4), (1, .int y0), (0, .ref (a_m 0)), (3, .int x3), (4, .int x4)]) hx hb dX7_favourite_47 rfl hl (Nat.le_of_ble_eq_true rfl) rfl (fun ls hl => ?_)
    refine rx_iinc (lv' := fun z => (3, .int z) :: [(2, .int x4), (1, .int y0), (0, .ref (a_m 0)), (4, .int x4)]) hx hb (j := 3) dX7_favourite_48 hl rfl ki_1 hd (Nat.le_of_ble_eq_true rfl) (fun _ => rfl) (fun x3_48 hd ls hl => ?_)
    refine lv_goto (tgt := 6) hx hb dX7_favourite_51 rfl ?_
    exact k6 s_m y0 x4 x3_48 hd _ _ _ hP hD hS (lv_sub hl [3, 2, 1, 0] rfl)
  have b6 : ∀ (s_m : MS) (x1 : Int32) (x2 : Int32) (x3 : Int32), fX7_favourite_b6 fu     s_m x1 x2 x3 = some r → bk_U p l e (headSpec wsX7_favourite (gRm 4 91)).room s m args below meth c (qUi below args s (dC, dI) vwCl (gty cI cJ cQ) A (fun u : MS => (wM cI cJ a_m u)) r) (dC, dI) vwCl A 5 (wM cI cJ a_m s_m) 6 [(0, .ref (a_m 0)), (1, .int x1), (2, .int x2), (3, .int x3)] [] := by
    have L : ∀ (n : Nat) (s_m : MS) (x1 : Int32) (x2 : Int32) (x3 : Int32), g_lp (fun _ _ _ _ => none) (fX7_favourite_b6B fu    ) n s_m x1 x2 x3 = some r → bk_U p l e (headSpec wsX7_favourite (gRm 4 91)).room s m args below meth c (qUi below args s (dC, dI) vwCl (gty cI cJ cQ) A (fun u : MS => (wM cI cJ a_m u)) r) (dC, dI) vwCl A 5 (wM cI cJ a_m s_m) 6 [(0, .ref (a_m 0)), (1, .int x1), (2, .int x2), (3, .int x3)] [] := by
      intro n
      induction n with
      | zero => intro s_m x1 x2 x3 hd; exact absurd hd (by intro h; cases h)
      | succ n k6 =>
        intro s_m x1 x2 x3 hd
        intro H locs ls hP hD hS hl
        have hd : fX7_favourite_b6B fu     (g_lp (fun _ _ _ _ => none) (fX7_favourite_b6B fu    ) n) s_m x1 x2 x3 = some r := hd
        unfold fX7_favourite_b6B at hd
        refine lv_iload_n hx hb dX7_favourite_6 rfl (lv_at hl 3 rfl) ?_
        refine lv_aload_n hx hb dX7_favourite_7 rfl (lv_at hl 0 rfl) ?_
        refine rx_get hx hb hts fiX7_favourite_X7 hown hK hP 0 rfl rfl 0 (Nat.le_of_ble_eq_true rfl) fl_7 rfl rfl dX7_favourite_8 ?_
        refine lv_iconst (v := 0) hx hb dX7_favourite_11 ki_0 ?_
        refine rx_iald hx hb hK hP 1 0 rfl rfl hd dX7_favourite_12 (fun v12 hd => ?_)
        refine rx_icmp_ge hx hb 54 dX7_favourite_13 rfl hd (fun hd => ?_) (fun hd => ?_)
        · refine lv_iload_n hx hb dX7_favourite_54 rfl (lv_at hl 1 rfl) ?_
          refine rx_if_ge hx hb 67 dX7_favourite_55 rfl hd (fun hd => ?_) (fun hd => ?_)
          · refine lv_iload_n hx hb dX7_favourite_67 rfl (lv_at hl 1 rfl) ?_
            exact rx_retUi (u := s_m) (w1 := (fun u : MS => (wM cI cJ a_m u))) hx hb hr hlocks hd hK hP hD hS dX7_favourite_68
          refine lv_aload_n hx hb dX7_favourite_58 rfl (lv_at hl 0 rfl) ?_
          refine lv_ldc hx hb hown kc_147 dX7_favourite_59 ?_
          refine rx_upi1 hd hD hS hA (fun v hv => va_runV (As := [.int (-1000000004 : Int32)]) (rest := []) hcf (c_X7_finds l dC dI cI cJ cQ fu a_m _  s_m (-1000000004 : Int32) v hv) (cwV 1 hts gX7_favourite_X7_finds rfl rfl rfl cd_X7_finds ⟨(Nat.le_of_ble_eq_true rfl), (Nat.le_of_ble_eq_true rfl)⟩) (cq_U_V1 (q0 := 0) (ci := 6) hK hP hD rfl rfl) rfl rfl hl.1 rfl (lv_room (Nat.le_of_ble_eq_true rfl)) dX7_favourite_61 ⟨Nat.le_refl _, Nat.le_refl _⟩) (fun u61 hd H locs hP hD hS => ?_)
          refine lv_goto (tgt := 68) hx hb dX7_favourite_64 rfl ?_
          exact rx_retUi (u := u61.2) (w1 := (fun u : MS => (wM cI cJ a_m u))) hx hb hr hlocks hd hK hP hD hS dX7_favourite_68
        refine lv_aload_n hx hb dX7_favourite_16 rfl (lv_at hl 0 rfl) ?_
        refine lv_iload_n hx hb dX7_favourite_17 rfl (lv_at hl 3 rfl) ?_
        refine rx_roi hd (fun v hv => W.runV (As := [.int x3]) (rest := []) hcf (c_X7_gives l dC dI cI cJ cQ fu a_m  s_m x3 v hv) (cwV 1 hts gX7_favourite_X7_gives rfl rfl rfl cd_X7_gives ⟨(Nat.le_of_ble_eq_true rfl), (Nat.le_of_ble_eq_true rfl)⟩) (cq_R_V1 (q0 := 0) (ci := 6) hK hP rfl rfl) rfl rfl hl.1 rfl (lv_room (Nat.le_of_ble_eq_true rfl)) dX7_favourite_18 ⟨Nat.le_refl _, Nat.le_refl _⟩) (fun u18 hd => ?_)
        refine lv_istore (lv' := [(4, .int u18), (0, .ref (a_m 0)), (1, .int x1), (2, .int x2), (3, .int x3)]) hx hb dX7_favourite_21 hl (Nat.le_of_ble_eq_true rfl) rfl (fun ls hl => ?_)
        refine lv_iload hx hb dX7_favourite_23 (lv_at hl 0 rfl) ?_
        refine lv_iload_n hx hb dX7_favourite_25 rfl (lv_at hl 3 rfl) ?_
        refine rx_icmp_le hx hb 33 dX7_favourite_26 rfl hd (fun hd => ?_) (fun hd => ?_)
        · refine lv_iload_n hx hb dX7_favourite_33 rfl (lv_at hl 2 rfl) ?_
          exact b34  _ k6 s_m x2 x3 u18 x1 hd _ _ _ hP hD hS (lv_sub hl [1, 3, 4, 0] rfl)
        refine lv_iload_n hx hb dX7_favourite_29 rfl (lv_at hl 4 rfl) ?_
        refine lv_goto (tgt := 34) hx hb dX7_favourite_30 rfl ?_
        exact b34  _ k6 s_m x2 x3 u18 x3 hd _ _ _ hP hD hS (lv_sub hl [1, 3, 4, 0] rfl)
    exact fun s_m x1 x2 x3 => L fu s_m x1 x2 x3
  refine lv_iconst (v := -1) hx hb dX7_favourite_0 ki_m1 ?_
  refine lv_istore_n (lv' := [(1, .int (-1 : Int32)), (0, .ref (a_m 0))]) hx hb dX7_favourite_1 rfl hl (Nat.le_of_ble_eq_true rfl) rfl (fun ls hl => ?_)
  refine lv_iconst (v := -1) hx hb dX7_favourite_2 ki_m1 ?_
  refine lv_istore_n (lv' := [(2, .int (-1 : Int32)), (1, .int (-1 : Int32)), (0, .ref (a_m 0))]) hx hb dX7_favourite_3 rfl hl (Nat.le_of_ble_eq_true rfl) rfl (fun ls hl => ?_)
  refine lv_iconst (v := 0) hx hb dX7_favourite_4 ki_0 ?_
  refine lv_istore_n (lv' := [(3, .int (0 : Int32)), (2, .int (-1 : Int32)), (1, .int (-1 : Int32)), (0, .ref (a_m 0))]) hx hb dX7_favourite_5 rfl hl (Nat.le_of_ble_eq_true rfl) rfl (fun ls hl => ?_)
  exact b6   s_m (-1 : Int32) (-1 : Int32) (0 : Int32) hd _ _ _ hP hD hS (lv_sub hl [3, 2, 1, 0] rfl)
set_option maxHeartbeats 8000000 in
set_option maxRecDepth 100000 in
theorem c_X7_dryOn (l : Launch) (dC : Nat → ClassId) (dI : Nat → Nat → Nat) (cI cJ cQ : ClassId) (fu : Nat) (a_m : Nat → Nat) (sz : Nat) (s_m : MS) (x1 : Int32) (r : Int32 × MS) (hd : fX7_dryOn fu  s_m x1 = some r) : mUi l yX7_dryOn wsX7_dryOn (gRm 7 159) [.ref (a_m 0), .int x1] (dC, dI) vwCl (gty cI cJ cQ) (wM cI cJ a_m s_m) sz (fun u : MS => (wM cI cJ a_m u)) r := by
  refine Met.ofW (cc := cX7_dryOn) (maxL := 3) (ret := (some .int)) (by decide) rfl ?_
  intro p e s m args below meth c s₁ B hml hv
  obtain ⟨hav, hsz, hP, hK, hD0⟩ := hv
  subst hsz
  have hD := hD0.self (sz := s.heap.size)
  generalize hAe : va_A (wM cI cJ a_m s_m) s.heap.size = A at hD ⊢
  have hA : ∀ q : Nat, s.heap.size ≤ q → A q := fun q h => by rw [← hAe]; exact Or.inr h
  have hS : va_S A s.heap s.heap [] := va_S.rf
  have hx := B.exec
  have hb := B.bytes
  have hr := B.returns
  have hts := atoms_spec (ws := wsX7_dryOn) B.pre
  have hown : s.vm.findClass RX7 = some m.cls := findClass_of_methodNamed B.named
  have hlocks := B.notSynchronized
  have hcf : CallFix p m c cX7_dryOn 3 s args wsX7_dryOn RX7 := ⟨hx, hb, hml, hown, hts⟩
  have hg : entryFrame m args 3 = entryFrame m ([.ref (a_m 0), .int x1] : List Value).toArray 3 := by rw [hav]
  rw [hg, lg_entry_eq]
  have hl := lv_entry ([.ref (a_m 0), .int x1]) (n := 3) (Nat.le_of_ble_eq_true rfl)
  generalize (lg_sl ([.ref (a_m 0), .int x1]) ++ List.replicate (3 - (lg_sl ([.ref (a_m 0), .int x1])).length) Slot.unset).toArray = ls at hl ⊢
  have hl : lv_has ls 3 [(0, .ref (a_m 0)), (1, .int x1)] := hl
  clear hg
  unfold fX7_dryOn at hd
  refine lv_aload_n hx hb dX7_dryOn_0 rfl (lv_at hl 0 rfl) ?_
  refine lv_iconst (v := 2) hx hb dX7_dryOn_1 ki_2 ?_
  refine rx_roi hd (fun v hv => W.runV (As := [.int (2 : Int32)]) (rest := []) hcf (c_X7_together l dC dI cI cJ cQ fu a_m  s_m (2 : Int32) v hv) (cwV 1 hts gX7_dryOn_X7_together rfl rfl rfl cd_X7_together ⟨(Nat.le_of_ble_eq_true rfl), (Nat.le_of_ble_eq_true rfl)⟩) (cq_R_V1 (q0 := 0) (ci := 6) hK hP rfl rfl) rfl rfl hl.1 rfl (lv_room (Nat.le_of_ble_eq_true rfl)) dX7_dryOn_2 ⟨Nat.le_refl _, Nat.le_refl _⟩) (fun u2 hd => ?_)
  refine lv_istore_n (lv' := [(2, .int u2), (0, .ref (a_m 0)), (1, .int x1)]) hx hb dX7_dryOn_5 rfl hl (Nat.le_of_ble_eq_true rfl) rfl (fun ls hl => ?_)
  refine lv_aload_n hx hb dX7_dryOn_6 rfl (lv_at hl 1 rfl) ?_
  refine rx_upv1 hd hD hS hA (fun v hv => va_runV (As := []) (rest := []) hcf (c_X7_laysAside l dC dI cI cJ cQ fu a_m _  s_m  v hv) (cwV 0 hts gX7_dryOn_X7_laysAside rfl rfl rfl cd_X7_laysAside ⟨(Nat.le_of_ble_eq_true rfl), (Nat.le_of_ble_eq_true rfl)⟩) (cq_U_V1 (q0 := 0) (ci := 6) hK hP hD rfl rfl) rfl rfl hl.1 rfl (lv_room (Nat.le_of_ble_eq_true rfl)) dX7_dryOn_7 ⟨Nat.le_refl _, Nat.le_refl _⟩) (fun u7 hd H locs hP hD hS => ?_)
  refine lv_aload_n hx hb dX7_dryOn_10 rfl (lv_at hl 1 rfl) ?_
  refine lv_iload_n hx hb dX7_dryOn_11 rfl (lv_at hl 2 rfl) ?_
  refine rx_upv1 hd hD hS hA (fun v hv => va_runV (As := [.int x1]) (rest := []) hcf (c_X7_goesOn l dC dI cI cJ cQ fu a_m _  u7 x1 v hv) (cwV 1 hts gX7_dryOn_X7_goesOn rfl rfl rfl cd_X7_goesOn ⟨(Nat.le_of_ble_eq_true rfl), (Nat.le_of_ble_eq_true rfl)⟩) (cq_U_V1 (q0 := 0) (ci := 6) hK hP hD rfl rfl) rfl rfl hl.1 rfl (lv_room (Nat.le_of_ble_eq_true rfl)) dX7_dryOn_12 ⟨Nat.le_refl _, Nat.le_refl _⟩) (fun u12 hd H locs hP hD hS => ?_)
  refine lv_aload_n hx hb dX7_dryOn_15 rfl (lv_at hl 1 rfl) ?_
  refine lv_aload_n hx hb dX7_dryOn_16 rfl (lv_at hl 1 rfl) ?_
  refine lv_iconst (v := 2) hx hb dX7_dryOn_17 ki_2 ?_
  refine rx_roi hd (fun v hv => W.runV (As := [.int (2 : Int32)]) (rest := [.ref (a_m 0)]) hcf (c_X7_together l dC dI cI cJ cQ fu a_m  u12 (2 : Int32) v hv) (cwV 1 hts gX7_dryOn_X7_together rfl rfl rfl cd_X7_together ⟨(Nat.le_of_ble_eq_true rfl), (Nat.le_of_ble_eq_true rfl)⟩) (cq_R_V1 (q0 := 0) (ci := 6) hK hP rfl rfl) rfl rfl hl.1 rfl (lv_room (Nat.le_of_ble_eq_true rfl)) dX7_dryOn_18 ⟨Nat.le_refl _, Nat.le_refl _⟩) (fun u18 hd => ?_)
  refine lv_iload_n hx hb dX7_dryOn_21 rfl (lv_at hl 0 rfl) ?_
  refine lv_isub hx hb dX7_dryOn_22 ?_
  refine rx_upi1 hd hD hS hA (fun v hv => va_runV (As := [.int (u18 - u2)]) (rest := []) hcf (c_X7_takesBack l dC dI cI cJ cQ fu a_m _  u12 (u18 - u2) v hv) (cwV 1 hts gX7_dryOn_X7_takesBack rfl rfl rfl cd_X7_takesBack ⟨(Nat.le_of_ble_eq_true rfl), (Nat.le_of_ble_eq_true rfl)⟩) (cq_U_V1 (q0 := 0) (ci := 6) hK hP hD rfl rfl) rfl rfl hl.1 rfl (lv_room (Nat.le_of_ble_eq_true rfl)) dX7_dryOn_23 ⟨Nat.le_refl _, Nat.le_refl _⟩) (fun u23 hd H locs hP hD hS => ?_)
  exact rx_retUi (u := u23.2) (w1 := (fun u : MS => (wM cI cJ a_m u))) hx hb hr hlocks hd hK hP hD hS dX7_dryOn_26
set_option maxHeartbeats 8000000 in
set_option maxRecDepth 100000 in
theorem c_X7_isSoon (l : Launch) (dC : Nat → ClassId) (dI : Nat → Nat → Nat) (cI cJ cQ : ClassId) (fu : Nat)   (x0 : Int32) (r : Int32) (hd : fX7_isSoon fu   x0 = some r) : mRi l yX7_isSoon wsX7_isSoon (gRm 1 25) [.int x0] (cq_R (dC, dI) vwCl (gty cI cJ cQ) ([] : va_W)) r := by
  refine Met.ofW (cc := cX7_isSoon) (maxL := 1) (ret := (some .boolean)) (by decide) rfl ?_
  intro p e s m args below meth c s₁ B hml hv
  obtain ⟨hav, hP, hK⟩ := hv
  have hx := B.exec
  have hb := B.bytes
  have hr := B.returns
  have hts := atoms_spec (ws := wsX7_isSoon) B.pre
  have hown : s.vm.findClass RX7 = some m.cls := findClass_of_methodNamed B.named
  have hlocks := B.notSynchronized
  have hcf : CallFix p m c cX7_isSoon 1 s args wsX7_isSoon RX7 := ⟨hx, hb, hml, hown, hts⟩
  have kc_60 := hts (.constantLong RX7 60 (20)) (List.mem_of_getElem? (i := 1) rfl)
  have hg : entryFrame m args 1 = entryFrame m ([.int x0] : List Value).toArray 1 := by rw [hav]
  rw [hg, lg_entry_eq]
  have hl := lv_entry ([.int x0]) (n := 1) (Nat.le_of_ble_eq_true rfl)
  generalize (lg_sl ([.int x0]) ++ List.replicate (1 - (lg_sl ([.int x0])).length) Slot.unset).toArray = ls at hl ⊢
  have hl : lv_has ls 1 [(0, .int x0)] := hl
  clear hg
  unfold fX7_isSoon at hd
  refine lv_iload_n hx hb dX7_isSoon_0 rfl (lv_at hl 0 rfl) ?_
  refine lv_i2l hx hb dX7_isSoon_1 rfl ?_
  refine lv_lconst (v := 1) hx hb dX7_isSoon_2 rfl ?_
  refine lv_ldc2 hx hb hown kc_60 dX7_isSoon_3 ?_
  refine rx_roi hd (fun v hv => W.runS (As := [.long (Int32.toInt64 x0), .long (1 : Int64), .long (20 : Int64)]) (rest := []) hcf (c_X7_in l dC dI cI cJ cQ fu    (Int32.toInt64 x0) (1 : Int64) (20 : Int64) v hv) (va_cwS 3 hts gX7_isSoon_X7_in rfl rfl rfl cd_X7_in ⟨(Nat.le_of_ble_eq_true rfl), (Nat.le_of_ble_eq_true rfl)⟩) (cq_R_S hK hP [] rfl) rfl rfl hl.1 rfl (lv_room (Nat.le_of_ble_eq_true rfl)) dX7_isSoon_6 ⟨Nat.le_refl _, Nat.le_refl _⟩) (fun u6 hd => ?_)
  exact rx_retRz hx hb hr hlocks hd dX7_isSoon_9
theorem fiX7_leastDry_X7 : ∀ w ∈ wsX70, w ∈ wsX7_leastDry := mem_r _ [58, 59, 60, 61, 62, 63, 64, 65, 66, 67, 68, 69, 70, 71, 72, 73, 74, 75] rfl
set_option maxHeartbeats 8000000 in
set_option maxRecDepth 100000 in
theorem c_X7_leastDry (l : Launch) (dC : Nat → ClassId) (dI : Nat → Nat → Nat) (cI cJ cQ : ClassId) (fu : Nat) (a_m : Nat → Nat) (sz : Nat) (s_m : MS) (x1 : Int32) (x2 : Int32) (x3 : Int32) (r : Int32 × MS) (hd : fX7_leastDry fu  s_m x1 x2 x3 = some r) : mUi l yX7_leastDry wsX7_leastDry (gRm 8 181) [.ref (a_m 0), .int x1, .int x2, .int x3] (dC, dI) vwCl (gty cI cJ cQ) (wM cI cJ a_m s_m) sz (fun u : MS => (wM cI cJ a_m u)) r := by
  refine Met.ofW (cc := cX7_leastDry) (maxL := 9) (ret := (some .int)) (by decide) rfl ?_
  intro p e s m args below meth c s₁ B hml hv
  obtain ⟨hav, hsz, hP, hK, hD0⟩ := hv
  subst hsz
  have hD := hD0.self (sz := s.heap.size)
  generalize hAe : va_A (wM cI cJ a_m s_m) s.heap.size = A at hD ⊢
  have hA : ∀ q : Nat, s.heap.size ≤ q → A q := fun q h => by rw [← hAe]; exact Or.inr h
  have hS : va_S A s.heap s.heap [] := va_S.rf
  have hx := B.exec
  have hb := B.bytes
  have hr := B.returns
  have hts := atoms_spec (ws := wsX7_leastDry) B.pre
  have hown : s.vm.findClass RX7 = some m.cls := findClass_of_methodNamed B.named
  have hlocks := B.notSynchronized
  have hcf : CallFix p m c cX7_leastDry 9 s args wsX7_leastDry RX7 := ⟨hx, hb, hml, hown, hts⟩
  have fl_7 := hts (.fieldLink RX7 7 "BucketGiftModel" "s" "[I") (List.mem_of_getElem? (i := 1) rfl)
  have hg : entryFrame m args 9 = entryFrame m ([.ref (a_m 0), .int x1, .int x2, .int x3] : List Value).toArray 9 := by rw [hav]
  rw [hg, lg_entry_eq]
  have hl := lv_entry ([.ref (a_m 0), .int x1, .int x2, .int x3]) (n := 9) (Nat.le_of_ble_eq_true rfl)
  generalize (lg_sl ([.ref (a_m 0), .int x1, .int x2, .int x3]) ++ List.replicate (9 - (lg_sl ([.ref (a_m 0), .int x1, .int x2, .int x3])).length) Slot.unset).toArray = ls at hl ⊢
  have hl : lv_has ls 9 [(0, .ref (a_m 0)), (1, .int x1), (2, .int x2), (3, .int x3)] := hl
  clear hg
  unfold fX7_leastDry at hd
  have b57 : ∀ (x1 : Int32) (x2 : Int32) (x3 : Int32) (x4 : Int32), ∀ (K17 : MS → Int32 → Int32 → Int32 → Option (Int32 × MS)) (k17 : ∀ (s_m : MS) (x5 : Int32) (x6 : Int32) (x7 : Int32), K17 s_m x5 x6 x7 = some r → bk_U p l e (headSpec wsX7_leastDry (gRm 8 181)).room s m args below meth c (qUi below args s (dC, dI) vwCl (gty cI cJ cQ) A (fun u : MS => (wM cI cJ a_m u)) r) (dC, dI) vwCl A 9 (wM cI cJ a_m s_m) 17 [(0, .ref (a_m 0)), (1, .int x1), (2, .int x2), (3, .int x3), (4, .int x4), (5, .int x5), (6, .int x6), (7, .int x7)] []), ∀ (s_m : MS) (x6 : Int32) (x7 : Int32) (x8 : Int32) (y0 : Int32), fX7_leastDry_b57 fu  K17 x1 x2 x3 x4 s_m x6 x7 x8 y0 = some r → bk_U p l e (headSpec wsX7_leastDry (gRm 8 181)).room s m args below meth c (qUi below args s (dC, dI) vwCl (gty cI cJ cQ) A (fun u : MS => (wM cI cJ a_m u)) r) (dC, dI) vwCl A 9 (wM cI cJ a_m s_m) 57 [(0, .ref (a_m 0)), (1, .int x1), (2, .int x2), (3, .int x3), (4, .int x4), (6, .int x6), (7, .int x7), (8, .int x8)] [.int y0] := by
    intro x1 x2 x3 x4
    intro K17 k17
    intro s_m x6 x7 x8 y0 hd
    intro H locs ls hP hD hS hl
    unfold fX7_leastDry_b57 at hd
    refine lv_istore (lv' := [(5, .int y0), (0, .ref (a_m 0)), (1, .int x1), (2, .int x2), (3, .int x3), (4, .int x4), (6, .int x6), (7, .int x7), (8, .int x8)]) hx hb dX7_leastDry_57 hl (Nat.le_of_ble_eq_true rfl) rfl (fun ls hl => ?_)
    refine lv_iload hx hb dX7_leastDry_59 (lv_at hl 0 rfl) ?_
    refine lv_iload hx hb dX7_leastDry_61 (lv_at hl 7 rfl) ?_
    refine rx_icmp_ne hx hb 71 dX7_leastDry_63 rfl hd (fun hd => ?_) (fun hd => ?_)
    · refine lv_iload hx hb dX7_leastDry_71 (lv_at hl 6 rfl) ?_
      refine lv_istore (lv' := [(6, .int x6), (5, .int y0), (0, .ref (a_m 0)), (1, .int x1), (2, .int x2), (3, .int x3), (4, .int x4), (7, .int x7), (8, .int x8)]) hx hb dX7_leastDry_73 hl (Nat.le_of_ble_eq_true rfl) rfl (fun ls hl => ?_)
      refine rx_iinc (lv' := fun z => (7, .int z) :: [(6, .int x6), (5, .int y0), (0, .ref (a_m 0)), (1, .int x1), (2, .int x2), (3, .int x3), (4, .int x4), (8, .int x8)]) hx hb (j := 7) dX7_leastDry_75 hl rfl ki_1 hd (Nat.le_of_ble_eq_true rfl) (fun _ => rfl) (fun x7_75 hd ls hl => ?_)
      refine lv_goto (tgt := 17) hx hb dX7_leastDry_78 rfl ?_
      exact k17 s_m y0 x6 x7_75 hd _ _ _ hP hD hS (lv_sub hl [3, 4, 5, 6, 7, 2, 1, 0] rfl)
    refine lv_iload hx hb dX7_leastDry_66 (lv_at hl 8 rfl) ?_
    refine lv_goto (tgt := 73) hx hb dX7_leastDry_68 rfl ?_
    refine lv_istore (lv' := [(6, .int x8), (5, .int y0), (0, .ref (a_m 0)), (1, .int x1), (2, .int x2), (3, .int x3), (4, .int x4), (7, .int x7), (8, .int x8)]) hx hb dX7_leastDry_73 hl (Nat.le_of_ble_eq_true rfl) rfl (fun ls hl => ?_)
    refine rx_iinc (lv' := fun z => (7, .int z) :: [(6, .int x8), (5, .int y0), (0, .ref (a_m 0)), (1, .int x1), (2, .int x2), (3, .int x3), (4, .int x4), (8, .int x8)]) hx hb (j := 7) dX7_leastDry_75 hl rfl ki_1 hd (Nat.le_of_ble_eq_true rfl) (fun _ => rfl) (fun x7_75 hd ls hl => ?_)
    refine lv_goto (tgt := 17) hx hb dX7_leastDry_78 rfl ?_
    exact k17 s_m y0 x8 x7_75 hd _ _ _ hP hD hS (lv_sub hl [3, 4, 5, 6, 7, 2, 1, 0] rfl)
  have b17 : ∀ (x1 : Int32) (x2 : Int32) (x3 : Int32) (x4 : Int32) (s_m : MS) (x5 : Int32) (x6 : Int32) (x7 : Int32), fX7_leastDry_b17 fu    x1 x2 x3 x4 s_m x5 x6 x7 = some r → bk_U p l e (headSpec wsX7_leastDry (gRm 8 181)).room s m args below meth c (qUi below args s (dC, dI) vwCl (gty cI cJ cQ) A (fun u : MS => (wM cI cJ a_m u)) r) (dC, dI) vwCl A 9 (wM cI cJ a_m s_m) 17 [(0, .ref (a_m 0)), (1, .int x1), (2, .int x2), (3, .int x3), (4, .int x4), (5, .int x5), (6, .int x6), (7, .int x7)] [] := by
    intro x1 x2 x3 x4
    have L : ∀ (n : Nat) (s_m : MS) (x5 : Int32) (x6 : Int32) (x7 : Int32), g_lp (fun _ _ _ _ => none) (fX7_leastDry_b17B fu    x1 x2 x3 x4) n s_m x5 x6 x7 = some r → bk_U p l e (headSpec wsX7_leastDry (gRm 8 181)).room s m args below meth c (qUi below args s (dC, dI) vwCl (gty cI cJ cQ) A (fun u : MS => (wM cI cJ a_m u)) r) (dC, dI) vwCl A 9 (wM cI cJ a_m s_m) 17 [(0, .ref (a_m 0)), (1, .int x1), (2, .int x2), (3, .int x3), (4, .int x4), (5, .int x5), (6, .int x6), (7, .int x7)] [] := by
      intro n
      induction n with
      | zero => intro s_m x5 x6 x7 hd; exact absurd hd (by intro h; cases h)
      | succ n k17 =>
        intro s_m x5 x6 x7 hd
        intro H locs ls hP hD hS hl
        have hd : fX7_leastDry_b17B fu    x1 x2 x3 x4 (g_lp (fun _ _ _ _ => none) (fX7_leastDry_b17B fu    x1 x2 x3 x4) n) s_m x5 x6 x7 = some r := hd
        unfold fX7_leastDry_b17B at hd
        refine lv_iload hx hb dX7_leastDry_17 (lv_at hl 7 rfl) ?_
        refine lv_iload_n hx hb dX7_leastDry_19 rfl (lv_at hl 2 rfl) ?_
        refine rx_icmp_ge hx hb 81 dX7_leastDry_20 rfl hd (fun hd => ?_) (fun hd => ?_)
        · refine lv_aload_n hx hb dX7_leastDry_81 rfl (lv_at hl 0 rfl) ?_
          refine rx_get hx hb hts fiX7_leastDry_X7 hown hK hP 0 rfl rfl 0 (Nat.le_of_ble_eq_true rfl) fl_7 rfl rfl dX7_leastDry_82 ?_
          refine lv_iload_n hx hb dX7_leastDry_85 rfl (lv_at hl 1 rfl) ?_
          refine lv_iload hx hb dX7_leastDry_86 (lv_at hl 4 rfl) ?_
          refine rx_iast (wM cI cJ a_m (muS s_m (Int32.toNatClampNeg x1) x4)) hx hb hK hP hD hS 1 0 rfl rfl hd (wM_uS ..) dX7_leastDry_88 (fun hd H locs hP hD hS => ?_)
          refine lv_iload hx hb dX7_leastDry_89 (lv_at hl 5 rfl) ?_
          exact rx_retUi (u := (muS s_m (Int32.toNatClampNeg x1) x4)) (w1 := (fun u : MS => (wM cI cJ a_m u))) hx hb hr hlocks hd hK hP hD hS dX7_leastDry_91
        refine lv_aload_n hx hb dX7_leastDry_23 rfl (lv_at hl 0 rfl) ?_
        refine rx_get hx hb hts fiX7_leastDry_X7 hown hK hP 0 rfl rfl 0 (Nat.le_of_ble_eq_true rfl) fl_7 rfl rfl dX7_leastDry_24 ?_
        refine lv_iload_n hx hb dX7_leastDry_27 rfl (lv_at hl 1 rfl) ?_
        refine lv_iload hx hb dX7_leastDry_28 (lv_at hl 7 rfl) ?_
        refine rx_iast (wM cI cJ a_m (muS s_m (Int32.toNatClampNeg x1) x7)) hx hb hK hP hD hS 1 0 rfl rfl hd (wM_uS ..) dX7_leastDry_30 (fun hd H locs hP hD hS => ?_)
        refine lv_aload_n hx hb dX7_leastDry_31 rfl (lv_at hl 0 rfl) ?_
        refine lv_iload_n hx hb dX7_leastDry_32 rfl (lv_at hl 3 rfl) ?_
        refine rx_upi1 hd hD hS hA (fun v hv => va_runV (As := [.int x3]) (rest := []) hcf (c_X7_dryOn l dC dI cI cJ cQ fu a_m _  (muS s_m (Int32.toNatClampNeg x1) x7) x3 v hv) (cwV 1 hts gX7_leastDry_X7_dryOn rfl rfl rfl cd_X7_dryOn ⟨(Nat.le_of_ble_eq_true rfl), (Nat.le_of_ble_eq_true rfl)⟩) (cq_U_V1 (q0 := 0) (ci := 6) hK hP hD rfl rfl) rfl rfl hl.1 rfl (lv_room (Nat.le_of_ble_eq_true rfl)) dX7_leastDry_33 ⟨Nat.le_refl _, Nat.le_refl _⟩) (fun u33 hd H locs hP hD hS => ?_)
        refine lv_istore (lv' := [(8, .int u33.1), (0, .ref (a_m 0)), (1, .int x1), (2, .int x2), (3, .int x3), (4, .int x4), (5, .int x5), (6, .int x6), (7, .int x7)]) hx hb dX7_leastDry_36 hl (Nat.le_of_ble_eq_true rfl) rfl (fun ls hl => ?_)
        refine lv_iload hx hb dX7_leastDry_38 (lv_at hl 6 rfl) ?_
        refine rx_if_lt hx hb 50 dX7_leastDry_40 rfl hd (fun hd => ?_) (fun hd => ?_)
        · refine lv_iload hx hb dX7_leastDry_50 (lv_at hl 8 rfl) ?_
          refine lv_goto (tgt := 57) hx hb dX7_leastDry_52 rfl ?_
          exact b57 x1 x2 x3 x4 _ k17 u33.2 x6 x7 u33.1 x7 hd _ _ _ hP hD hS (lv_sub hl [1, 2, 3, 4, 5, 7, 8, 0] rfl)
        refine lv_iload hx hb dX7_leastDry_43 (lv_at hl 0 rfl) ?_
        refine lv_iload hx hb dX7_leastDry_45 (lv_at hl 7 rfl) ?_
        refine rx_icmp_ge hx hb 55 dX7_leastDry_47 rfl hd (fun hd => ?_) (fun hd => ?_)
        · refine lv_iload hx hb dX7_leastDry_55 (lv_at hl 6 rfl) ?_
          exact b57 x1 x2 x3 x4 _ k17 u33.2 x6 x7 u33.1 x5 hd _ _ _ hP hD hS (lv_sub hl [1, 2, 3, 4, 5, 7, 8, 0] rfl)
        refine lv_iload hx hb dX7_leastDry_50 (lv_at hl 8 rfl) ?_
        refine lv_goto (tgt := 57) hx hb dX7_leastDry_52 rfl ?_
        exact b57 x1 x2 x3 x4 _ k17 u33.2 x6 x7 u33.1 x7 hd _ _ _ hP hD hS (lv_sub hl [1, 2, 3, 4, 5, 7, 8, 0] rfl)
    exact fun s_m x5 x6 x7 => L fu s_m x5 x6 x7
  refine lv_aload_n hx hb dX7_leastDry_0 rfl (lv_at hl 0 rfl) ?_
  refine rx_get hx hb hts fiX7_leastDry_X7 hown hK hP 0 rfl rfl 0 (Nat.le_of_ble_eq_true rfl) fl_7 rfl rfl dX7_leastDry_1 ?_
  refine lv_iload_n hx hb dX7_leastDry_4 rfl (lv_at hl 1 rfl) ?_
  refine rx_iald hx hb hK hP 1 0 rfl rfl hd dX7_leastDry_5 (fun v5 hd => ?_)
  refine lv_istore (lv' := [(4, .int v5), (0, .ref (a_m 0)), (1, .int x1), (2, .int x2), (3, .int x3)]) hx hb dX7_leastDry_6 hl (Nat.le_of_ble_eq_true rfl) rfl (fun ls hl => ?_)
  refine lv_iconst (v := -1) hx hb dX7_leastDry_8 ki_m1 ?_
  refine lv_istore (lv' := [(5, .int (-1 : Int32)), (4, .int v5), (0, .ref (a_m 0)), (1, .int x1), (2, .int x2), (3, .int x3)]) hx hb dX7_leastDry_9 hl (Nat.le_of_ble_eq_true rfl) rfl (fun ls hl => ?_)
  refine lv_iconst (v := 0) hx hb dX7_leastDry_11 ki_0 ?_
  refine lv_istore (lv' := [(6, .int (0 : Int32)), (5, .int (-1 : Int32)), (4, .int v5), (0, .ref (a_m 0)), (1, .int x1), (2, .int x2), (3, .int x3)]) hx hb dX7_leastDry_12 hl (Nat.le_of_ble_eq_true rfl) rfl (fun ls hl => ?_)
  refine lv_iconst (v := 0) hx hb dX7_leastDry_14 ki_0 ?_
  refine lv_istore (lv' := [(7, .int (0 : Int32)), (6, .int (0 : Int32)), (5, .int (-1 : Int32)), (4, .int v5), (0, .ref (a_m 0)), (1, .int x1), (2, .int x2), (3, .int x3)]) hx hb dX7_leastDry_15 hl (Nat.le_of_ble_eq_true rfl) rfl (fun ls hl => ?_)
  exact b17   x1 x2 x3 v5 s_m (-1 : Int32) (0 : Int32) (0 : Int32) hd _ _ _ hP hD hS (lv_sub hl [4, 5, 6, 7, 3, 2, 1, 0] rfl)
theorem fiX7_send_X7 : ∀ w ∈ wsX70, w ∈ wsX7_send := mem_r _ [80, 81, 82, 83, 84, 85, 86, 87, 88, 89, 90, 91, 92, 93, 94, 95, 96, 97] rfl
set_option maxHeartbeats 8000000 in
set_option maxRecDepth 100000 in
theorem c_X7_send (l : Launch) (dC : Nat → ClassId) (dI : Nat → Nat → Nat) (cI cJ cQ : ClassId) (fu : Nat) (a_m : Nat → Nat) (sz : Nat) (s_m : MS) (x1 : Int32) (x2 : Int32) (r : Int32 × MS) (hd : fX7_send fu  s_m x1 x2 = some r) : mUi l yX7_send wsX7_send (gRm 9 209) [.ref (a_m 0), .int x1, .int x2] (dC, dI) vwCl (gty cI cJ cQ) (wM cI cJ a_m s_m) sz (fun u : MS => (wM cI cJ a_m u)) r := by
  refine Met.ofW (cc := cX7_send) (maxL := 4) (ret := (some .int)) (by decide) rfl ?_
  intro p e s m args below meth c s₁ B hml hv
  obtain ⟨hav, hsz, hP, hK, hD0⟩ := hv
  subst hsz
  have hD := hD0.self (sz := s.heap.size)
  generalize hAe : va_A (wM cI cJ a_m s_m) s.heap.size = A at hD ⊢
  have hA : ∀ q : Nat, s.heap.size ≤ q → A q := fun q h => by rw [← hAe]; exact Or.inr h
  have hS : va_S A s.heap s.heap [] := va_S.rf
  have hx := B.exec
  have hb := B.bytes
  have hr := B.returns
  have hts := atoms_spec (ws := wsX7_send) B.pre
  have hown : s.vm.findClass RX7 = some m.cls := findClass_of_methodNamed B.named
  have hlocks := B.notSynchronized
  have hcf : CallFix p m c cX7_send 4 s args wsX7_send RX7 := ⟨hx, hb, hml, hown, hts⟩
  have fl_7 := hts (.fieldLink RX7 7 "BucketGiftModel" "s" "[I") (List.mem_of_getElem? (i := 2) rfl)
  have kc_48 := hts (.constant RX7 48 (-1000000001)) (List.mem_of_getElem? (i := 1) rfl)
  have kc_147 := hts (.constant RX7 147 (-1000000004)) (List.mem_of_getElem? (i := 3) rfl)
  have hg : entryFrame m args 4 = entryFrame m ([.ref (a_m 0), .int x1, .int x2] : List Value).toArray 4 := by rw [hav]
  rw [hg, lg_entry_eq]
  have hl := lv_entry ([.ref (a_m 0), .int x1, .int x2]) (n := 4) (Nat.le_of_ble_eq_true rfl)
  generalize (lg_sl ([.ref (a_m 0), .int x1, .int x2]) ++ List.replicate (4 - (lg_sl ([.ref (a_m 0), .int x1, .int x2])).length) Slot.unset).toArray = ls at hl ⊢
  have hl : lv_has ls 4 [(0, .ref (a_m 0)), (1, .int x1), (2, .int x2)] := hl
  clear hg
  unfold fX7_send at hd
  have b14 : ∀ (s_m : MS), fX7_send_b14 fu    s_m = some r → bk_U p l e (headSpec wsX7_send (gRm 9 209)).room s m args below meth c (qUi below args s (dC, dI) vwCl (gty cI cJ cQ) A (fun u : MS => (wM cI cJ a_m u)) r) (dC, dI) vwCl A 4 (wM cI cJ a_m s_m) 14 [(0, .ref (a_m 0))] [] := by
    intro s_m hd
    intro H locs ls hP hD hS hl
    unfold fX7_send_b14 at hd
    refine lv_aload_n hx hb dX7_send_14 rfl (lv_at hl 0 rfl) ?_
    refine lv_ldc hx hb hown kc_48 dX7_send_15 ?_
    refine rx_upi1 hd hD hS hA (fun v hv => va_runV (As := [.int (-1000000001 : Int32)]) (rest := []) hcf (c_X7_finds l dC dI cI cJ cQ fu a_m _  s_m (-1000000001 : Int32) v hv) (cwV 1 hts gX7_send_X7_finds rfl rfl rfl cd_X7_finds ⟨(Nat.le_of_ble_eq_true rfl), (Nat.le_of_ble_eq_true rfl)⟩) (cq_U_V1 (q0 := 0) (ci := 6) hK hP hD rfl rfl) rfl rfl hl.1 rfl (lv_room (Nat.le_of_ble_eq_true rfl)) dX7_send_17 ⟨Nat.le_refl _, Nat.le_refl _⟩) (fun u17 hd H locs hP hD hS => ?_)
    exact rx_retUi (u := u17.2) (w1 := (fun u : MS => (wM cI cJ a_m u))) hx hb hr hlocks hd hK hP hD hS dX7_send_20
  refine lv_iload_n hx hb dX7_send_0 rfl (lv_at hl 1 rfl) ?_
  refine rx_roi hd (fun v hv => W.runS (As := [.int x1]) (rest := []) hcf (c_X7_isFarm l dC dI cI cJ cQ fu    x1 v hv) (va_cwS 1 hts gX7_send_X7_isFarm rfl rfl rfl cd_X7_isFarm ⟨(Nat.le_of_ble_eq_true rfl), (Nat.le_of_ble_eq_true rfl)⟩) (cq_R_S hK hP [] rfl) rfl rfl hl.1 rfl (lv_room (Nat.le_of_ble_eq_true rfl)) dX7_send_1 ⟨Nat.le_refl _, Nat.le_refl _⟩) (fun u1 hd => ?_)
  refine rx_if_eq hx hb 14 dX7_send_4 rfl hd (fun hd => ?_) (fun hd => ?_)
  · exact b14   s_m hd _ _ _ hP hD hS (lv_sub hl [0] rfl)
  refine lv_iload_n hx hb dX7_send_7 rfl (lv_at hl 2 rfl) ?_
  refine rx_roi hd (fun v hv => W.runS (As := [.int x2]) (rest := []) hcf (c_X7_isSoon l dC dI cI cJ cQ fu    x2 v hv) (va_cwS 1 hts gX7_send_X7_isSoon rfl rfl rfl cd_X7_isSoon ⟨(Nat.le_of_ble_eq_true rfl), (Nat.le_of_ble_eq_true rfl)⟩) (cq_R_S hK hP [] rfl) rfl rfl hl.1 rfl (lv_room (Nat.le_of_ble_eq_true rfl)) dX7_send_8 ⟨Nat.le_refl _, Nat.le_refl _⟩) (fun u8 hd => ?_)
  refine rx_if_ne hx hb 21 dX7_send_11 rfl hd (fun hd => ?_) (fun hd => ?_)
  · refine lv_aload_n hx hb dX7_send_21 rfl (lv_at hl 0 rfl) ?_
    refine lv_iload_n hx hb dX7_send_22 rfl (lv_at hl 1 rfl) ?_
    refine lv_iconst (v := 3) hx hb dX7_send_23 ki_3 ?_
    refine rx_roi hd (fun v hv => W.runS (As := [.int x1, .int (3 : Int32)]) (rest := [.ref (a_m 0)]) hcf (c_X7_field l dC dI cI cJ cQ fu    x1 (3 : Int32) v hv) (va_cwS 2 hts gX7_send_X7_field rfl rfl rfl cd_X7_field ⟨(Nat.le_of_ble_eq_true rfl), (Nat.le_of_ble_eq_true rfl)⟩) (cq_R_S hK hP [] rfl) rfl rfl hl.1 rfl (lv_room (Nat.le_of_ble_eq_true rfl)) dX7_send_24 ⟨Nat.le_refl _, Nat.le_refl _⟩) (fun u24 hd => ?_)
    refine lv_aload_n hx hb dX7_send_27 rfl (lv_at hl 0 rfl) ?_
    refine rx_get hx hb hts fiX7_send_X7 hown hK hP 0 rfl rfl 0 (Nat.le_of_ble_eq_true rfl) fl_7 rfl rfl dX7_send_28 ?_
    refine lv_iconst (v := 0) hx hb dX7_send_31 ki_0 ?_
    refine rx_iald hx hb hK hP 1 0 rfl rfl hd dX7_send_32 (fun v32 hd => ?_)
    refine lv_iload_n hx hb dX7_send_33 rfl (lv_at hl 2 rfl) ?_
    refine rx_upi1 hd hD hS hA (fun v hv => va_runV (As := [.int u24, .int v32, .int x2]) (rest := []) hcf (c_X7_leastDry l dC dI cI cJ cQ fu a_m _  s_m u24 v32 x2 v hv) (cwV 3 hts gX7_send_X7_leastDry rfl rfl rfl cd_X7_leastDry ⟨(Nat.le_of_ble_eq_true rfl), (Nat.le_of_ble_eq_true rfl)⟩) (cq_U_V1 (q0 := 0) (ci := 6) hK hP hD rfl rfl) rfl rfl hl.1 rfl (lv_room (Nat.le_of_ble_eq_true rfl)) dX7_send_34 ⟨Nat.le_refl _, Nat.le_refl _⟩) (fun u34 hd H locs hP hD hS => ?_)
    refine lv_istore_n (lv' := [(3, .int u34.1), (0, .ref (a_m 0)), (1, .int x1), (2, .int x2)]) hx hb dX7_send_37 rfl hl (Nat.le_of_ble_eq_true rfl) rfl (fun ls hl => ?_)
    refine lv_iload_n hx hb dX7_send_38 rfl (lv_at hl 0 rfl) ?_
    refine rx_if_ge hx hb 51 dX7_send_39 rfl hd (fun hd => ?_) (fun hd => ?_)
    · refine lv_iload_n hx hb dX7_send_51 rfl (lv_at hl 0 rfl) ?_
      exact rx_retUi (u := u34.2) (w1 := (fun u : MS => (wM cI cJ a_m u))) hx hb hr hlocks hd hK hP hD hS dX7_send_52
    refine lv_aload_n hx hb dX7_send_42 rfl (lv_at hl 1 rfl) ?_
    refine lv_ldc hx hb hown kc_147 dX7_send_43 ?_
    refine rx_upi1 hd hD hS hA (fun v hv => va_runV (As := [.int (-1000000004 : Int32)]) (rest := []) hcf (c_X7_finds l dC dI cI cJ cQ fu a_m _  u34.2 (-1000000004 : Int32) v hv) (cwV 1 hts gX7_send_X7_finds rfl rfl rfl cd_X7_finds ⟨(Nat.le_of_ble_eq_true rfl), (Nat.le_of_ble_eq_true rfl)⟩) (cq_U_V1 (q0 := 0) (ci := 6) hK hP hD rfl rfl) rfl rfl hl.1 rfl (lv_room (Nat.le_of_ble_eq_true rfl)) dX7_send_45 ⟨Nat.le_refl _, Nat.le_refl _⟩) (fun u45 hd H locs hP hD hS => ?_)
    refine lv_goto (tgt := 52) hx hb dX7_send_48 rfl ?_
    exact rx_retUi (u := u45.2) (w1 := (fun u : MS => (wM cI cJ a_m u))) hx hb hr hlocks hd hK hP hD hS dX7_send_52
  exact b14   s_m hd _ _ _ hP hD hS (lv_sub hl [0] rfl)
theorem fiX7_round_X7 : ∀ w ∈ wsX70, w ∈ wsX7_round := mem_r _ [70, 71, 72, 73, 74, 75, 76, 77, 78, 79, 80, 81, 82, 83, 84, 85, 86, 87] rfl
set_option maxHeartbeats 8000000 in
set_option maxRecDepth 100000 in
theorem c_X7_round (l : Launch) (dC : Nat → ClassId) (dI : Nat → Nat → Nat) (cI cJ cQ : ClassId) (fu : Nat) (a_m : Nat → Nat) (sz : Nat) (s_m : MS) (x1 : Int32) (r : Int32 × MS) (hd : fX7_round fu  s_m x1 = some r) : mUi l yX7_round wsX7_round (gRm 8 181) [.ref (a_m 0), .int x1] (dC, dI) vwCl (gty cI cJ cQ) (wM cI cJ a_m s_m) sz (fun u : MS => (wM cI cJ a_m u)) r := by
  refine Met.ofW (cc := cX7_round) (maxL := 12) (ret := (some .int)) (by decide) rfl ?_
  intro p e s m args below meth c s₁ B hml hv
  obtain ⟨hav, hsz, hP, hK, hD0⟩ := hv
  subst hsz
  have hD := hD0.self (sz := s.heap.size)
  generalize hAe : va_A (wM cI cJ a_m s_m) s.heap.size = A at hD ⊢
  have hA : ∀ q : Nat, s.heap.size ≤ q → A q := fun q h => by rw [← hAe]; exact Or.inr h
  have hS : va_S A s.heap s.heap [] := va_S.rf
  have hx := B.exec
  have hb := B.bytes
  have hr := B.returns
  have hts := atoms_spec (ws := wsX7_round) B.pre
  have hown : s.vm.findClass RX7 = some m.cls := findClass_of_methodNamed B.named
  have hlocks := B.notSynchronized
  have hcf : CallFix p m c cX7_round 12 s args wsX7_round RX7 := ⟨hx, hb, hml, hown, hts⟩
  have fl_7 := hts (.fieldLink RX7 7 "BucketGiftModel" "s" "[I") (List.mem_of_getElem? (i := 4) rfl)
  have fl_25 := hts (.fieldLink RX7 25 "BucketGiftModel" "sent" "[I") (List.mem_of_getElem? (i := 3) rfl)
  have kc_113 := hts (.constantLong RX7 113 (7)) (List.mem_of_getElem? (i := 1) rfl)
  have kc_147 := hts (.constant RX7 147 (-1000000004)) (List.mem_of_getElem? (i := 5) rfl)
  have kc_48 := hts (.constant RX7 48 (-1000000001)) (List.mem_of_getElem? (i := 2) rfl)
  have hg : entryFrame m args 12 = entryFrame m ([.ref (a_m 0), .int x1] : List Value).toArray 12 := by rw [hav]
  rw [hg, lg_entry_eq]
  have hl := lv_entry ([.ref (a_m 0), .int x1]) (n := 12) (Nat.le_of_ble_eq_true rfl)
  generalize (lg_sl ([.ref (a_m 0), .int x1]) ++ List.replicate (12 - (lg_sl ([.ref (a_m 0), .int x1])).length) Slot.unset).toArray = ls at hl ⊢
  have hl : lv_has ls 12 [(0, .ref (a_m 0)), (1, .int x1)] := hl
  clear hg
  unfold fX7_round at hd
  have b288 : ∀ (x2 : Int32) (s_m : MS) (x5 : Int32), fX7_round_b288 fu    x2 s_m x5 = some r → bk_U p l e (headSpec wsX7_round (gRm 8 181)).room s m args below meth c (qUi below args s (dC, dI) vwCl (gty cI cJ cQ) A (fun u : MS => (wM cI cJ a_m u)) r) (dC, dI) vwCl A 12 (wM cI cJ a_m s_m) 288 [(0, .ref (a_m 0)), (2, .int x2), (5, .int x5)] [] := by
    intro x2
    have L : ∀ (n : Nat) (s_m : MS) (x5 : Int32), g_lp (fun _ _ => none) (fX7_round_b288B fu    x2) n s_m x5 = some r → bk_U p l e (headSpec wsX7_round (gRm 8 181)).room s m args below meth c (qUi below args s (dC, dI) vwCl (gty cI cJ cQ) A (fun u : MS => (wM cI cJ a_m u)) r) (dC, dI) vwCl A 12 (wM cI cJ a_m s_m) 288 [(0, .ref (a_m 0)), (2, .int x2), (5, .int x5)] [] := by
      intro n
      induction n with
      | zero => intro s_m x5 hd; exact absurd hd (by intro h; cases h)
      | succ n k288 =>
        intro s_m x5 hd
        intro H locs ls hP hD hS hl
        have hd : fX7_round_b288B fu    x2 (g_lp (fun _ _ => none) (fX7_round_b288B fu    x2) n) s_m x5 = some r := hd
        unfold fX7_round_b288B at hd
        refine lv_iload hx hb dX7_round_288 (lv_at hl 2 rfl) ?_
        refine lv_iconst (v := 4) hx hb dX7_round_290 ki_4 ?_
        refine rx_icmp_ge hx hb 318 dX7_round_291 rfl hd (fun hd => ?_) (fun hd => ?_)
        · refine lv_iload_n hx hb dX7_round_318 rfl (lv_at hl 1 rfl) ?_
          refine rx_if_ge hx hb 331 dX7_round_319 rfl hd (fun hd => ?_) (fun hd => ?_)
          · refine lv_iload_n hx hb dX7_round_331 rfl (lv_at hl 1 rfl) ?_
            exact rx_retUi (u := s_m) (w1 := (fun u : MS => (wM cI cJ a_m u))) hx hb hr hlocks hd hK hP hD hS dX7_round_332
          refine lv_aload_n hx hb dX7_round_322 rfl (lv_at hl 0 rfl) ?_
          refine lv_ldc hx hb hown kc_147 dX7_round_323 ?_
          refine rx_upi1 hd hD hS hA (fun v hv => va_runV (As := [.int (-1000000004 : Int32)]) (rest := []) hcf (c_X7_finds l dC dI cI cJ cQ fu a_m _  s_m (-1000000004 : Int32) v hv) (cwV 1 hts gX7_round_X7_finds rfl rfl rfl cd_X7_finds ⟨(Nat.le_of_ble_eq_true rfl), (Nat.le_of_ble_eq_true rfl)⟩) (cq_U_V1 (q0 := 0) (ci := 6) hK hP hD rfl rfl) rfl rfl hl.1 rfl (lv_room (Nat.le_of_ble_eq_true rfl)) dX7_round_325 ⟨Nat.le_refl _, Nat.le_refl _⟩) (fun u325 hd H locs hP hD hS => ?_)
          refine lv_goto (tgt := 332) hx hb dX7_round_328 rfl ?_
          exact rx_retUi (u := u325.2) (w1 := (fun u : MS => (wM cI cJ a_m u))) hx hb hr hlocks hd hK hP hD hS dX7_round_332
        refine lv_aload_n hx hb dX7_round_294 rfl (lv_at hl 0 rfl) ?_
        refine rx_get hx hb hts fiX7_round_X7 hown hK hP 0 rfl rfl 0 (Nat.le_of_ble_eq_true rfl) fl_7 rfl rfl dX7_round_295 ?_
        refine lv_iload hx hb dX7_round_298 (lv_at hl 2 rfl) ?_
        refine lv_iconst (v := 3) hx hb dX7_round_300 ki_3 ?_
        refine rx_roi hd (fun v hv => W.runS (As := [.int x5, .int (3 : Int32)]) (rest := [.ref (a_m 1)]) hcf (c_X7_field l dC dI cI cJ cQ fu    x5 (3 : Int32) v hv) (va_cwS 2 hts gX7_round_X7_field rfl rfl rfl cd_X7_field ⟨(Nat.le_of_ble_eq_true rfl), (Nat.le_of_ble_eq_true rfl)⟩) (cq_R_S hK hP [] rfl) rfl rfl hl.1 rfl (lv_room (Nat.le_of_ble_eq_true rfl)) dX7_round_301 ⟨Nat.le_refl _, Nat.le_refl _⟩) (fun u301 hd => ?_)
        refine lv_aload_n hx hb dX7_round_304 rfl (lv_at hl 0 rfl) ?_
        refine rx_get hx hb hts fiX7_round_X7 hown hK hP 0 rfl rfl 7 (Nat.le_of_ble_eq_true rfl) fl_25 rfl rfl dX7_round_305 ?_
        refine lv_iload hx hb dX7_round_308 (lv_at hl 2 rfl) ?_
        refine rx_iald hx hb hK hP 6 0 rfl rfl hd dX7_round_310 (fun v310 hd => ?_)
        refine rx_iast (wM cI cJ a_m (muS s_m (Int32.toNatClampNeg u301) v310)) hx hb hK hP hD hS 1 0 rfl rfl hd (wM_uS ..) dX7_round_311 (fun hd H locs hP hD hS => ?_)
        refine rx_iinc (lv' := fun z => (5, .int z) :: [(0, .ref (a_m 0)), (2, .int x2)]) hx hb (j := 2) dX7_round_312 hl rfl ki_1 hd (Nat.le_of_ble_eq_true rfl) (fun _ => rfl) (fun x5_312 hd ls hl => ?_)
        refine lv_goto (tgt := 288) hx hb dX7_round_315 rfl ?_
        exact k288 (muS s_m (Int32.toNatClampNeg u301) v310) x5_312 hd _ _ _ hP hD hS (lv_sub hl [1, 2, 0] rfl)
    exact fun s_m x5 => L fu s_m x5
  have b266 : ∀ (x1 : Int32) (x4 : Int32), ∀ (K63 : MS → Int32 → Int32 → Int32 → Option (Int32 × MS)) (k63 : ∀ (s_m : MS) (x2 : Int32) (x3 : Int32) (x5 : Int32), K63 s_m x2 x3 x5 = some r → bk_U p l e (headSpec wsX7_round (gRm 8 181)).room s m args below meth c (qUi below args s (dC, dI) vwCl (gty cI cJ cQ) A (fun u : MS => (wM cI cJ a_m u)) r) (dC, dI) vwCl A 12 (wM cI cJ a_m s_m) 63 [(0, .ref (a_m 0)), (1, .int x1), (2, .int x2), (3, .int x3), (4, .int x4), (5, .int x5)] []), ∀ (s_m : MS) (x3 : Int32) (x5 : Int32) (x10 : Int32) (x11 : Int32) (y0 : Int32), fX7_round_b266 fu  K63 x1 x4 s_m x3 x5 x10 x11 y0 = some r → bk_U p l e (headSpec wsX7_round (gRm 8 181)).room s m args below meth c (qUi below args s (dC, dI) vwCl (gty cI cJ cQ) A (fun u : MS => (wM cI cJ a_m u)) r) (dC, dI) vwCl A 12 (wM cI cJ a_m s_m) 266 [(0, .ref (a_m 0)), (1, .int x1), (3, .int x3), (4, .int x4), (5, .int x5), (10, .int x10), (11, .int x11)] [.int y0] := by
    intro x1 x4
    intro K63 k63
    intro s_m x3 x5 x10 x11 y0 hd
    intro H locs ls hP hD hS hl
    unfold fX7_round_b266 at hd
    refine lv_istore_n (lv' := [(2, .int y0), (0, .ref (a_m 0)), (1, .int x1), (3, .int x3), (4, .int x4), (5, .int x5), (10, .int x10), (11, .int x11)]) hx hb dX7_round_266 rfl hl (Nat.le_of_ble_eq_true rfl) rfl (fun ls hl => ?_)
    refine lv_iload hx hb dX7_round_267 (lv_at hl 7 rfl) ?_
    refine rx_if_eq hx hb 277 dX7_round_269 rfl hd (fun hd => ?_) (fun hd => ?_)
    · refine lv_iload_n hx hb dX7_round_277 rfl (lv_at hl 3 rfl) ?_
      refine lv_istore_n (lv' := [(3, .int x3), (2, .int y0), (0, .ref (a_m 0)), (1, .int x1), (4, .int x4), (5, .int x5), (10, .int x10), (11, .int x11)]) hx hb dX7_round_278 rfl hl (Nat.le_of_ble_eq_true rfl) rfl (fun ls hl => ?_)
      refine rx_iinc (lv' := fun z => (5, .int z) :: [(3, .int x3), (2, .int y0), (0, .ref (a_m 0)), (1, .int x1), (4, .int x4), (10, .int x10), (11, .int x11)]) hx hb (j := 5) dX7_round_279 hl rfl ki_1 hd (Nat.le_of_ble_eq_true rfl) (fun _ => rfl) (fun x5_279 hd ls hl => ?_)
      refine lv_goto (tgt := 63) hx hb dX7_round_282 rfl ?_
      exact k63 s_m y0 x3 x5_279 hd _ _ _ hP hD hS (lv_sub hl [3, 4, 2, 1, 5, 0] rfl)
    refine lv_iload hx hb dX7_round_272 (lv_at hl 6 rfl) ?_
    refine lv_goto (tgt := 278) hx hb dX7_round_274 rfl ?_
    refine lv_istore_n (lv' := [(3, .int x10), (2, .int y0), (0, .ref (a_m 0)), (1, .int x1), (4, .int x4), (5, .int x5), (10, .int x10), (11, .int x11)]) hx hb dX7_round_278 rfl hl (Nat.le_of_ble_eq_true rfl) rfl (fun ls hl => ?_)
    refine rx_iinc (lv' := fun z => (5, .int z) :: [(3, .int x10), (2, .int y0), (0, .ref (a_m 0)), (1, .int x1), (4, .int x4), (10, .int x10), (11, .int x11)]) hx hb (j := 5) dX7_round_279 hl rfl ki_1 hd (Nat.le_of_ble_eq_true rfl) (fun _ => rfl) (fun x5_279 hd ls hl => ?_)
    refine lv_goto (tgt := 63) hx hb dX7_round_282 rfl ?_
    exact k63 s_m y0 x10 x5_279 hd _ _ _ hP hD hS (lv_sub hl [3, 4, 2, 1, 5, 0] rfl)
  have b234 : ∀ (x1 : Int32) (x4 : Int32), ∀ (K63 : MS → Int32 → Int32 → Int32 → Option (Int32 × MS)) (k63 : ∀ (s_m : MS) (x2 : Int32) (x3 : Int32) (x5 : Int32), K63 s_m x2 x3 x5 = some r → bk_U p l e (headSpec wsX7_round (gRm 8 181)).room s m args below meth c (qUi below args s (dC, dI) vwCl (gty cI cJ cQ) A (fun u : MS => (wM cI cJ a_m u)) r) (dC, dI) vwCl A 12 (wM cI cJ a_m s_m) 63 [(0, .ref (a_m 0)), (1, .int x1), (2, .int x2), (3, .int x3), (4, .int x4), (5, .int x5)] []), ∀ (s_m : MS) (x2 : Int32) (x3 : Int32) (x5 : Int32) (x6 : Int32) (x7 : Int32) (x8 : Int32) (x9 : Int32) (x10 : Int32) (y0 : Int32), fX7_round_b234 fu  K63 x1 x4 s_m x2 x3 x5 x6 x7 x8 x9 x10 y0 = some r → bk_U p l e (headSpec wsX7_round (gRm 8 181)).room s m args below meth c (qUi below args s (dC, dI) vwCl (gty cI cJ cQ) A (fun u : MS => (wM cI cJ a_m u)) r) (dC, dI) vwCl A 12 (wM cI cJ a_m s_m) 234 [(0, .ref (a_m 0)), (1, .int x1), (2, .int x2), (3, .int x3), (4, .int x4), (5, .int x5), (6, .int x6), (7, .int x7), (8, .int x8), (9, .int x9), (10, .int x10)] [.int y0] := by
    intro x1 x4
    intro K63 k63
    intro s_m x2 x3 x5 x6 x7 x8 x9 x10 y0 hd
    intro H locs ls hP hD hS hl
    unfold fX7_round_b234 at hd
    refine lv_istore (lv' := [(11, .int y0), (0, .ref (a_m 0)), (1, .int x1), (2, .int x2), (3, .int x3), (4, .int x4), (5, .int x5), (6, .int x6), (7, .int x7), (8, .int x8), (9, .int x9), (10, .int x10)]) hx hb dX7_round_234 hl (Nat.le_of_ble_eq_true rfl) rfl (fun ls hl => ?_)
    refine lv_iload hx hb dX7_round_236 (lv_at hl 0 rfl) ?_
    refine rx_if_eq hx hb 265 dX7_round_238 rfl hd (fun hd => ?_) (fun hd => ?_)
    · refine lv_iload_n hx hb dX7_round_265 rfl (lv_at hl 3 rfl) ?_
      exact b266 x1 x4 _ k63 s_m x3 x5 x10 y0 x2 hd _ _ _ hP hD hS (lv_sub hl [1, 2, 4, 5, 6, 11, 0] rfl)
    refine lv_iload hx hb dX7_round_241 (lv_at hl 7 rfl) ?_
    refine lv_bipush (v := 10) hx hb dX7_round_243 kb_10 ?_
    refine lv_iload hx hb dX7_round_245 (lv_at hl 8 rfl) ?_
    refine lv_imul hx hb dX7_round_247 ?_
    refine lv_iadd hx hb dX7_round_248 ?_
    refine lv_bipush (v := 100) hx hb dX7_round_249 kb_100 ?_
    refine lv_iload hx hb dX7_round_251 (lv_at hl 9 rfl) ?_
    refine lv_imul hx hb dX7_round_253 ?_
    refine lv_iadd hx hb dX7_round_254 ?_
    refine lv_sipush (v := 1000) hx hb dX7_round_255 ks_1000 ?_
    refine lv_iload hx hb dX7_round_258 (lv_at hl 10 rfl) ?_
    refine lv_imul hx hb dX7_round_260 ?_
    refine lv_iadd hx hb dX7_round_261 ?_
    refine lv_goto (tgt := 266) hx hb dX7_round_262 rfl ?_
    exact b266 x1 x4 _ k63 s_m x3 x5 x10 y0 (((x6 + ((10 : Int32) * x7)) + ((100 : Int32) * x8)) + ((1000 : Int32) * x9)) hd _ _ _ hP hD hS (lv_sub hl [1, 2, 4, 5, 6, 11, 0] rfl)
  have b63 : ∀ (x1 : Int32) (x4 : Int32) (s_m : MS) (x2 : Int32) (x3 : Int32) (x5 : Int32), fX7_round_b63 fu    x1 x4 s_m x2 x3 x5 = some r → bk_U p l e (headSpec wsX7_round (gRm 8 181)).room s m args below meth c (qUi below args s (dC, dI) vwCl (gty cI cJ cQ) A (fun u : MS => (wM cI cJ a_m u)) r) (dC, dI) vwCl A 12 (wM cI cJ a_m s_m) 63 [(0, .ref (a_m 0)), (1, .int x1), (2, .int x2), (3, .int x3), (4, .int x4), (5, .int x5)] [] := by
    intro x1 x4
    have L : ∀ (n : Nat) (s_m : MS) (x2 : Int32) (x3 : Int32) (x5 : Int32), g_lp (fun _ _ _ _ => none) (fX7_round_b63B fu    x1 x4) n s_m x2 x3 x5 = some r → bk_U p l e (headSpec wsX7_round (gRm 8 181)).room s m args below meth c (qUi below args s (dC, dI) vwCl (gty cI cJ cQ) A (fun u : MS => (wM cI cJ a_m u)) r) (dC, dI) vwCl A 12 (wM cI cJ a_m s_m) 63 [(0, .ref (a_m 0)), (1, .int x1), (2, .int x2), (3, .int x3), (4, .int x4), (5, .int x5)] [] := by
      intro n
      induction n with
      | zero => intro s_m x2 x3 x5 hd; exact absurd hd (by intro h; cases h)
      | succ n k63 =>
        intro s_m x2 x3 x5 hd
        intro H locs ls hP hD hS hl
        have hd : fX7_round_b63B fu    x1 x4 (g_lp (fun _ _ _ _ => none) (fX7_round_b63B fu    x1 x4) n) s_m x2 x3 x5 = some r := hd
        unfold fX7_round_b63B at hd
        refine lv_iload hx hb dX7_round_63 (lv_at hl 5 rfl) ?_
        refine lv_iload hx hb dX7_round_65 (lv_at hl 4 rfl) ?_
        refine lv_iload hx hb dX7_round_67 (lv_at hl 4 rfl) ?_
        refine lv_imul hx hb dX7_round_69 ?_
        refine lv_iload hx hb dX7_round_70 (lv_at hl 4 rfl) ?_
        refine lv_imul hx hb dX7_round_72 ?_
        refine lv_iload hx hb dX7_round_73 (lv_at hl 4 rfl) ?_
        refine lv_imul hx hb dX7_round_75 ?_
        refine rx_icmp_ge hx hb 285 dX7_round_76 rfl hd (fun hd => ?_) (fun hd => ?_)
        · refine lv_iconst (v := 0) hx hb dX7_round_285 ki_0 ?_
          refine lv_istore (lv' := [(5, .int (0 : Int32)), (0, .ref (a_m 0)), (1, .int x1), (2, .int x2), (3, .int x3), (4, .int x4)]) hx hb dX7_round_286 hl (Nat.le_of_ble_eq_true rfl) rfl (fun ls hl => ?_)
          exact b288   x2 s_m (0 : Int32) hd _ _ _ hP hD hS (lv_sub hl [1, 3, 0] rfl)
        refine lv_iload hx hb dX7_round_79 (lv_at hl 5 rfl) ?_
        refine lv_iload hx hb dX7_round_81 (lv_at hl 4 rfl) ?_
        refine lv_iload hx hb dX7_round_83 (lv_at hl 4 rfl) ?_
        refine lv_imul hx hb dX7_round_85 ?_
        refine lv_iload hx hb dX7_round_86 (lv_at hl 4 rfl) ?_
        refine lv_imul hx hb dX7_round_88 ?_
        refine rx_idiv hx hb dX7_round_89 hd (fun hd => ?_)
        refine rx_topi hd (fun x6_90 hd => ?_)
        refine lv_istore (lv' := [(6, .int x6_90), (0, .ref (a_m 0)), (1, .int x1), (2, .int x2), (3, .int x3), (4, .int x4), (5, .int x5)]) hx hb dX7_round_90 hl (Nat.le_of_ble_eq_true rfl) rfl (fun ls hl => ?_)
        refine lv_iload hx hb dX7_round_92 (lv_at hl 6 rfl) ?_
        refine lv_iload hx hb dX7_round_94 (lv_at hl 5 rfl) ?_
        refine lv_iload hx hb dX7_round_96 (lv_at hl 5 rfl) ?_
        refine lv_imul hx hb dX7_round_98 ?_
        refine rx_idiv hx hb dX7_round_99 hd (fun hd => ?_)
        refine lv_iload hx hb dX7_round_100 (lv_at hl 5 rfl) ?_
        refine rx_irem hx hb dX7_round_102 hd (fun hd => ?_)
        refine rx_topi hd (fun x7_103 hd => ?_)
        refine lv_istore (lv' := [(7, .int x7_103), (6, .int x6_90), (0, .ref (a_m 0)), (1, .int x1), (2, .int x2), (3, .int x3), (4, .int x4), (5, .int x5)]) hx hb dX7_round_103 hl (Nat.le_of_ble_eq_true rfl) rfl (fun ls hl => ?_)
        refine lv_iload hx hb dX7_round_105 (lv_at hl 7 rfl) ?_
        refine lv_iload hx hb dX7_round_107 (lv_at hl 6 rfl) ?_
        refine rx_idiv hx hb dX7_round_109 hd (fun hd => ?_)
        refine lv_iload hx hb dX7_round_110 (lv_at hl 6 rfl) ?_
        refine rx_irem hx hb dX7_round_112 hd (fun hd => ?_)
        refine rx_topi hd (fun x8_113 hd => ?_)
        refine lv_istore (lv' := [(8, .int x8_113), (7, .int x7_103), (6, .int x6_90), (0, .ref (a_m 0)), (1, .int x1), (2, .int x2), (3, .int x3), (4, .int x4), (5, .int x5)]) hx hb dX7_round_113 hl (Nat.le_of_ble_eq_true rfl) rfl (fun ls hl => ?_)
        refine lv_iload hx hb dX7_round_115 (lv_at hl 8 rfl) ?_
        refine lv_iload hx hb dX7_round_117 (lv_at hl 7 rfl) ?_
        refine rx_irem hx hb dX7_round_119 hd (fun hd => ?_)
        refine rx_topi hd (fun x9_120 hd => ?_)
        refine lv_istore (lv' := [(9, .int x9_120), (8, .int x8_113), (7, .int x7_103), (6, .int x6_90), (0, .ref (a_m 0)), (1, .int x1), (2, .int x2), (3, .int x3), (4, .int x4), (5, .int x5)]) hx hb dX7_round_120 hl (Nat.le_of_ble_eq_true rfl) rfl (fun ls hl => ?_)
        refine lv_iload hx hb dX7_round_122 (lv_at hl 3 rfl) ?_
        refine lv_iload hx hb dX7_round_124 (lv_at hl 2 rfl) ?_
        refine rx_icmp_eq hx hb 279 dX7_round_126 rfl hd (fun hd => ?_) (fun hd => ?_)
        · refine rx_iinc (lv' := fun z => (5, .int z) :: [(9, .int x9_120), (8, .int x8_113), (7, .int x7_103), (6, .int x6_90), (0, .ref (a_m 0)), (1, .int x1), (2, .int x2), (3, .int x3), (4, .int x4)]) hx hb (j := 9) dX7_round_279 hl rfl ki_1 hd (Nat.le_of_ble_eq_true rfl) (fun _ => rfl) (fun x5_279 hd ls hl => ?_)
          refine lv_goto (tgt := 63) hx hb dX7_round_282 rfl ?_
          exact k63 s_m x2 x3 x5_279 hd _ _ _ hP hD hS (lv_sub hl [5, 6, 7, 8, 9, 0] rfl)
        refine lv_iload hx hb dX7_round_129 (lv_at hl 3 rfl) ?_
        refine lv_iload hx hb dX7_round_131 (lv_at hl 1 rfl) ?_
        refine rx_icmp_eq hx hb 279 dX7_round_133 rfl hd (fun hd => ?_) (fun hd => ?_)
        · refine rx_iinc (lv' := fun z => (5, .int z) :: [(9, .int x9_120), (8, .int x8_113), (7, .int x7_103), (6, .int x6_90), (0, .ref (a_m 0)), (1, .int x1), (2, .int x2), (3, .int x3), (4, .int x4)]) hx hb (j := 9) dX7_round_279 hl rfl ki_1 hd (Nat.le_of_ble_eq_true rfl) (fun _ => rfl) (fun x5_279 hd ls hl => ?_)
          refine lv_goto (tgt := 63) hx hb dX7_round_282 rfl ?_
          exact k63 s_m x2 x3 x5_279 hd _ _ _ hP hD hS (lv_sub hl [5, 6, 7, 8, 9, 0] rfl)
        refine lv_iload hx hb dX7_round_136 (lv_at hl 3 rfl) ?_
        refine lv_iload hx hb dX7_round_138 (lv_at hl 0 rfl) ?_
        refine rx_icmp_eq hx hb 279 dX7_round_140 rfl hd (fun hd => ?_) (fun hd => ?_)
        · refine rx_iinc (lv' := fun z => (5, .int z) :: [(9, .int x9_120), (8, .int x8_113), (7, .int x7_103), (6, .int x6_90), (0, .ref (a_m 0)), (1, .int x1), (2, .int x2), (3, .int x3), (4, .int x4)]) hx hb (j := 9) dX7_round_279 hl rfl ki_1 hd (Nat.le_of_ble_eq_true rfl) (fun _ => rfl) (fun x5_279 hd ls hl => ?_)
          refine lv_goto (tgt := 63) hx hb dX7_round_282 rfl ?_
          exact k63 s_m x2 x3 x5_279 hd _ _ _ hP hD hS (lv_sub hl [5, 6, 7, 8, 9, 0] rfl)
        refine lv_iload hx hb dX7_round_143 (lv_at hl 2 rfl) ?_
        refine lv_iload hx hb dX7_round_145 (lv_at hl 1 rfl) ?_
        refine rx_icmp_eq hx hb 279 dX7_round_147 rfl hd (fun hd => ?_) (fun hd => ?_)
        · refine rx_iinc (lv' := fun z => (5, .int z) :: [(9, .int x9_120), (8, .int x8_113), (7, .int x7_103), (6, .int x6_90), (0, .ref (a_m 0)), (1, .int x1), (2, .int x2), (3, .int x3), (4, .int x4)]) hx hb (j := 9) dX7_round_279 hl rfl ki_1 hd (Nat.le_of_ble_eq_true rfl) (fun _ => rfl) (fun x5_279 hd ls hl => ?_)
          refine lv_goto (tgt := 63) hx hb dX7_round_282 rfl ?_
          exact k63 s_m x2 x3 x5_279 hd _ _ _ hP hD hS (lv_sub hl [5, 6, 7, 8, 9, 0] rfl)
        refine lv_iload hx hb dX7_round_150 (lv_at hl 2 rfl) ?_
        refine lv_iload hx hb dX7_round_152 (lv_at hl 0 rfl) ?_
        refine rx_icmp_eq hx hb 279 dX7_round_154 rfl hd (fun hd => ?_) (fun hd => ?_)
        · refine rx_iinc (lv' := fun z => (5, .int z) :: [(9, .int x9_120), (8, .int x8_113), (7, .int x7_103), (6, .int x6_90), (0, .ref (a_m 0)), (1, .int x1), (2, .int x2), (3, .int x3), (4, .int x4)]) hx hb (j := 9) dX7_round_279 hl rfl ki_1 hd (Nat.le_of_ble_eq_true rfl) (fun _ => rfl) (fun x5_279 hd ls hl => ?_)
          refine lv_goto (tgt := 63) hx hb dX7_round_282 rfl ?_
          exact k63 s_m x2 x3 x5_279 hd _ _ _ hP hD hS (lv_sub hl [5, 6, 7, 8, 9, 0] rfl)
        refine lv_iload hx hb dX7_round_157 (lv_at hl 1 rfl) ?_
        refine lv_iload hx hb dX7_round_159 (lv_at hl 0 rfl) ?_
        refine rx_icmp_eq hx hb 279 dX7_round_161 rfl hd (fun hd => ?_) (fun hd => ?_)
        · refine rx_iinc (lv' := fun z => (5, .int z) :: [(9, .int x9_120), (8, .int x8_113), (7, .int x7_103), (6, .int x6_90), (0, .ref (a_m 0)), (1, .int x1), (2, .int x2), (3, .int x3), (4, .int x4)]) hx hb (j := 9) dX7_round_279 hl rfl ki_1 hd (Nat.le_of_ble_eq_true rfl) (fun _ => rfl) (fun x5_279 hd ls hl => ?_)
          refine lv_goto (tgt := 63) hx hb dX7_round_282 rfl ?_
          exact k63 s_m x2 x3 x5_279 hd _ _ _ hP hD hS (lv_sub hl [5, 6, 7, 8, 9, 0] rfl)
        refine lv_aload_n hx hb dX7_round_164 rfl (lv_at hl 4 rfl) ?_
        refine rx_get hx hb hts fiX7_round_X7 hown hK hP 0 rfl rfl 0 (Nat.le_of_ble_eq_true rfl) fl_7 rfl rfl dX7_round_165 ?_
        refine lv_iconst (v := 0) hx hb dX7_round_168 ki_0 ?_
        refine lv_iconst (v := 3) hx hb dX7_round_169 ki_3 ?_
        refine rx_roi hd (fun v hv => W.runS (As := [.int (0 : Int32), .int (3 : Int32)]) (rest := [.ref (a_m 1)]) hcf (c_X7_field l dC dI cI cJ cQ fu    (0 : Int32) (3 : Int32) v hv) (va_cwS 2 hts gX7_round_X7_field rfl rfl rfl cd_X7_field ⟨(Nat.le_of_ble_eq_true rfl), (Nat.le_of_ble_eq_true rfl)⟩) (cq_R_S hK hP [] rfl) rfl rfl hl.1 rfl (lv_room (Nat.le_of_ble_eq_true rfl)) dX7_round_170 ⟨Nat.le_refl _, Nat.le_refl _⟩) (fun u170 hd => ?_)
        refine lv_iload hx hb dX7_round_173 (lv_at hl 3 rfl) ?_
        refine rx_iast (wM cI cJ a_m (muS s_m (Int32.toNatClampNeg u170) x6_90)) hx hb hK hP hD hS 1 0 rfl rfl hd (wM_uS ..) dX7_round_175 (fun hd H locs hP hD hS => ?_)
        refine lv_aload_n hx hb dX7_round_176 rfl (lv_at hl 4 rfl) ?_
        refine rx_get hx hb hts fiX7_round_X7 hown hK hP 0 rfl rfl 0 (Nat.le_of_ble_eq_true rfl) fl_7 rfl rfl dX7_round_177 ?_
        refine lv_iconst (v := 1) hx hb dX7_round_180 ki_1 ?_
        refine lv_iconst (v := 3) hx hb dX7_round_181 ki_3 ?_
        refine rx_roi hd (fun v hv => W.runS (As := [.int (1 : Int32), .int (3 : Int32)]) (rest := [.ref (a_m 1)]) hcf (c_X7_field l dC dI cI cJ cQ fu    (1 : Int32) (3 : Int32) v hv) (va_cwS 2 hts gX7_round_X7_field rfl rfl rfl cd_X7_field ⟨(Nat.le_of_ble_eq_true rfl), (Nat.le_of_ble_eq_true rfl)⟩) (cq_R_S hK hP [] rfl) rfl rfl hl.1 rfl (lv_room (Nat.le_of_ble_eq_true rfl)) dX7_round_182 ⟨Nat.le_refl _, Nat.le_refl _⟩) (fun u182 hd => ?_)
        refine lv_iload hx hb dX7_round_185 (lv_at hl 2 rfl) ?_
        refine rx_iast (wM cI cJ a_m (muS (muS s_m (Int32.toNatClampNeg u170) x6_90) (Int32.toNatClampNeg u182) x7_103)) hx hb hK hP hD hS 1 0 rfl rfl hd (wM_uS ..) dX7_round_187 (fun hd H locs hP hD hS => ?_)
        refine lv_aload_n hx hb dX7_round_188 rfl (lv_at hl 4 rfl) ?_
        refine rx_get hx hb hts fiX7_round_X7 hown hK hP 0 rfl rfl 0 (Nat.le_of_ble_eq_true rfl) fl_7 rfl rfl dX7_round_189 ?_
        refine lv_iconst (v := 2) hx hb dX7_round_192 ki_2 ?_
        refine lv_iconst (v := 3) hx hb dX7_round_193 ki_3 ?_
        refine rx_roi hd (fun v hv => W.runS (As := [.int (2 : Int32), .int (3 : Int32)]) (rest := [.ref (a_m 1)]) hcf (c_X7_field l dC dI cI cJ cQ fu    (2 : Int32) (3 : Int32) v hv) (va_cwS 2 hts gX7_round_X7_field rfl rfl rfl cd_X7_field ⟨(Nat.le_of_ble_eq_true rfl), (Nat.le_of_ble_eq_true rfl)⟩) (cq_R_S hK hP [] rfl) rfl rfl hl.1 rfl (lv_room (Nat.le_of_ble_eq_true rfl)) dX7_round_194 ⟨Nat.le_refl _, Nat.le_refl _⟩) (fun u194 hd => ?_)
        refine lv_iload hx hb dX7_round_197 (lv_at hl 1 rfl) ?_
        refine rx_iast (wM cI cJ a_m (muS (muS (muS s_m (Int32.toNatClampNeg u170) x6_90) (Int32.toNatClampNeg u182) x7_103) (Int32.toNatClampNeg u194) x8_113)) hx hb hK hP hD hS 1 0 rfl rfl hd (wM_uS ..) dX7_round_199 (fun hd H locs hP hD hS => ?_)
        refine lv_aload_n hx hb dX7_round_200 rfl (lv_at hl 4 rfl) ?_
        refine rx_get hx hb hts fiX7_round_X7 hown hK hP 0 rfl rfl 0 (Nat.le_of_ble_eq_true rfl) fl_7 rfl rfl dX7_round_201 ?_
        refine lv_iconst (v := 3) hx hb dX7_round_204 ki_3 ?_
        refine lv_iconst (v := 3) hx hb dX7_round_205 ki_3 ?_
        refine rx_roi hd (fun v hv => W.runS (As := [.int (3 : Int32), .int (3 : Int32)]) (rest := [.ref (a_m 1)]) hcf (c_X7_field l dC dI cI cJ cQ fu    (3 : Int32) (3 : Int32) v hv) (va_cwS 2 hts gX7_round_X7_field rfl rfl rfl cd_X7_field ⟨(Nat.le_of_ble_eq_true rfl), (Nat.le_of_ble_eq_true rfl)⟩) (cq_R_S hK hP [] rfl) rfl rfl hl.1 rfl (lv_room (Nat.le_of_ble_eq_true rfl)) dX7_round_206 ⟨Nat.le_refl _, Nat.le_refl _⟩) (fun u206 hd => ?_)
        refine lv_iload hx hb dX7_round_209 (lv_at hl 0 rfl) ?_
        refine rx_iast (wM cI cJ a_m (muS (muS (muS (muS s_m (Int32.toNatClampNeg u170) x6_90) (Int32.toNatClampNeg u182) x7_103) (Int32.toNatClampNeg u194) x8_113) (Int32.toNatClampNeg u206) x9_120)) hx hb hK hP hD hS 1 0 rfl rfl hd (wM_uS ..) dX7_round_211 (fun hd H locs hP hD hS => ?_)
        refine lv_aload_n hx hb dX7_round_212 rfl (lv_at hl 4 rfl) ?_
        refine lv_iload_n hx hb dX7_round_213 rfl (lv_at hl 5 rfl) ?_
        refine rx_upi1 hd hD hS hA (fun v hv => va_runV (As := [.int x1]) (rest := []) hcf (c_X7_dryOn l dC dI cI cJ cQ fu a_m _  (muS (muS (muS (muS s_m (Int32.toNatClampNeg u170) x6_90) (Int32.toNatClampNeg u182) x7_103) (Int32.toNatClampNeg u194) x8_113) (Int32.toNatClampNeg u206) x9_120) x1 v hv) (cwV 1 hts gX7_round_X7_dryOn rfl rfl rfl cd_X7_dryOn ⟨(Nat.le_of_ble_eq_true rfl), (Nat.le_of_ble_eq_true rfl)⟩) (cq_U_V1 (q0 := 0) (ci := 6) hK hP hD rfl rfl) rfl rfl hl.1 rfl (lv_room (Nat.le_of_ble_eq_true rfl)) dX7_round_214 ⟨Nat.le_refl _, Nat.le_refl _⟩) (fun u214 hd H locs hP hD hS => ?_)
        refine lv_istore (lv' := [(10, .int u214.1), (9, .int x9_120), (8, .int x8_113), (7, .int x7_103), (6, .int x6_90), (0, .ref (a_m 0)), (1, .int x1), (2, .int x2), (3, .int x3), (4, .int x4), (5, .int x5)]) hx hb dX7_round_217 hl (Nat.le_of_ble_eq_true rfl) rfl (fun ls hl => ?_)
        refine lv_iload_n hx hb dX7_round_219 rfl (lv_at hl 7 rfl) ?_
        refine rx_if_lt hx hb 229 dX7_round_220 rfl hd (fun hd => ?_) (fun hd => ?_)
        · refine lv_iconst (v := 1) hx hb dX7_round_229 ki_1 ?_
          refine lv_goto (tgt := 234) hx hb dX7_round_230 rfl ?_
          exact b234 x1 x4 _ k63 u214.2 x2 x3 x5 x6_90 x7_103 x8_113 x9_120 u214.1 (1 : Int32) hd _ _ _ hP hD hS (lv_sub hl [5, 6, 7, 8, 9, 10, 4, 3, 2, 1, 0] rfl)
        refine lv_iload hx hb dX7_round_223 (lv_at hl 0 rfl) ?_
        refine lv_iload_n hx hb dX7_round_225 rfl (lv_at hl 8 rfl) ?_
        refine rx_icmp_ge hx hb 233 dX7_round_226 rfl hd (fun hd => ?_) (fun hd => ?_)
        · refine lv_iconst (v := 0) hx hb dX7_round_233 ki_0 ?_
          exact b234 x1 x4 _ k63 u214.2 x2 x3 x5 x6_90 x7_103 x8_113 x9_120 u214.1 (0 : Int32) hd _ _ _ hP hD hS (lv_sub hl [5, 6, 7, 8, 9, 10, 4, 3, 2, 1, 0] rfl)
        refine lv_iconst (v := 1) hx hb dX7_round_229 ki_1 ?_
        refine lv_goto (tgt := 234) hx hb dX7_round_230 rfl ?_
        exact b234 x1 x4 _ k63 u214.2 x2 x3 x5 x6_90 x7_103 x8_113 x9_120 u214.1 (1 : Int32) hd _ _ _ hP hD hS (lv_sub hl [5, 6, 7, 8, 9, 10, 4, 3, 2, 1, 0] rfl)
    exact fun s_m x2 x3 x5 => L fu s_m x2 x3 x5
  have b21 : ∀ (x1 : Int32) (s_m : MS) (x2 : Int32), fX7_round_b21 fu    x1 s_m x2 = some r → bk_U p l e (headSpec wsX7_round (gRm 8 181)).room s m args below meth c (qUi below args s (dC, dI) vwCl (gty cI cJ cQ) A (fun u : MS => (wM cI cJ a_m u)) r) (dC, dI) vwCl A 12 (wM cI cJ a_m s_m) 21 [(0, .ref (a_m 0)), (1, .int x1), (2, .int x2)] [] := by
    intro x1
    have L : ∀ (n : Nat) (s_m : MS) (x2 : Int32), g_lp (fun _ _ => none) (fX7_round_b21B fu    x1) n s_m x2 = some r → bk_U p l e (headSpec wsX7_round (gRm 8 181)).room s m args below meth c (qUi below args s (dC, dI) vwCl (gty cI cJ cQ) A (fun u : MS => (wM cI cJ a_m u)) r) (dC, dI) vwCl A 12 (wM cI cJ a_m s_m) 21 [(0, .ref (a_m 0)), (1, .int x1), (2, .int x2)] [] := by
      intro n
      induction n with
      | zero => intro s_m x2 hd; exact absurd hd (by intro h; cases h)
      | succ n k21 =>
        intro s_m x2 hd
        intro H locs ls hP hD hS hl
        have hd : fX7_round_b21B fu    x1 (g_lp (fun _ _ => none) (fX7_round_b21B fu    x1) n) s_m x2 = some r := hd
        unfold fX7_round_b21B at hd
        refine lv_iload_n hx hb dX7_round_21 rfl (lv_at hl 2 rfl) ?_
        refine lv_iconst (v := 4) hx hb dX7_round_22 ki_4 ?_
        refine rx_icmp_ge hx hb 48 dX7_round_23 rfl hd (fun hd => ?_) (fun hd => ?_)
        · refine lv_iconst (v := -1) hx hb dX7_round_48 ki_m1 ?_
          refine lv_istore_n (lv' := [(2, .int (-1 : Int32)), (0, .ref (a_m 0)), (1, .int x1)]) hx hb dX7_round_49 rfl hl (Nat.le_of_ble_eq_true rfl) rfl (fun ls hl => ?_)
          refine lv_iconst (v := 0) hx hb dX7_round_50 ki_0 ?_
          refine lv_istore_n (lv' := [(3, .int (0 : Int32)), (2, .int (-1 : Int32)), (0, .ref (a_m 0)), (1, .int x1)]) hx hb dX7_round_51 rfl hl (Nat.le_of_ble_eq_true rfl) rfl (fun ls hl => ?_)
          refine lv_aload_n hx hb dX7_round_52 rfl (lv_at hl 2 rfl) ?_
          refine rx_get hx hb hts fiX7_round_X7 hown hK hP 0 rfl rfl 0 (Nat.le_of_ble_eq_true rfl) fl_7 rfl rfl dX7_round_53 ?_
          refine lv_iconst (v := 0) hx hb dX7_round_56 ki_0 ?_
          refine rx_iald hx hb hK hP 1 0 rfl rfl hd dX7_round_57 (fun v57 hd => ?_)
          refine lv_istore (lv' := [(4, .int v57), (3, .int (0 : Int32)), (2, .int (-1 : Int32)), (0, .ref (a_m 0)), (1, .int x1)]) hx hb dX7_round_58 hl (Nat.le_of_ble_eq_true rfl) rfl (fun ls hl => ?_)
          refine lv_iconst (v := 0) hx hb dX7_round_60 ki_0 ?_
          refine lv_istore (lv' := [(5, .int (0 : Int32)), (4, .int v57), (3, .int (0 : Int32)), (2, .int (-1 : Int32)), (0, .ref (a_m 0)), (1, .int x1)]) hx hb dX7_round_61 hl (Nat.le_of_ble_eq_true rfl) rfl (fun ls hl => ?_)
          exact b63   x1 v57 s_m (-1 : Int32) (0 : Int32) (0 : Int32) hd _ _ _ hP hD hS (lv_sub hl [4, 5, 3, 2, 1, 0] rfl)
        refine lv_aload_n hx hb dX7_round_26 rfl (lv_at hl 0 rfl) ?_
        refine rx_get hx hb hts fiX7_round_X7 hown hK hP 0 rfl rfl 7 (Nat.le_of_ble_eq_true rfl) fl_25 rfl rfl dX7_round_27 ?_
        refine lv_iload_n hx hb dX7_round_30 rfl (lv_at hl 2 rfl) ?_
        refine lv_aload_n hx hb dX7_round_31 rfl (lv_at hl 0 rfl) ?_
        refine rx_get hx hb hts fiX7_round_X7 hown hK hP 0 rfl rfl 0 (Nat.le_of_ble_eq_true rfl) fl_7 rfl rfl dX7_round_32 ?_
        refine lv_iload_n hx hb dX7_round_35 rfl (lv_at hl 2 rfl) ?_
        refine lv_iconst (v := 3) hx hb dX7_round_36 ki_3 ?_
        refine rx_roi hd (fun v hv => W.runS (As := [.int x2, .int (3 : Int32)]) (rest := [.ref (a_m 1), .int x2, .ref (a_m 6)]) hcf (c_X7_field l dC dI cI cJ cQ fu    x2 (3 : Int32) v hv) (va_cwS 2 hts gX7_round_X7_field rfl rfl rfl cd_X7_field ⟨(Nat.le_of_ble_eq_true rfl), (Nat.le_of_ble_eq_true rfl)⟩) (cq_R_S hK hP [] rfl) rfl rfl hl.1 rfl (lv_room (Nat.le_of_ble_eq_true rfl)) dX7_round_37 ⟨Nat.le_refl _, Nat.le_refl _⟩) (fun u37 hd => ?_)
        refine rx_iald hx hb hK hP 1 0 rfl rfl hd dX7_round_40 (fun v40 hd => ?_)
        refine rx_iast (wM cI cJ a_m (muSent s_m (Int32.toNatClampNeg x2) v40)) hx hb hK hP hD hS 6 0 rfl rfl hd (wM_uSent ..) dX7_round_41 (fun hd H locs hP hD hS => ?_)
        refine rx_iinc (lv' := fun z => (2, .int z) :: [(0, .ref (a_m 0)), (1, .int x1)]) hx hb (j := 2) dX7_round_42 hl rfl ki_1 hd (Nat.le_of_ble_eq_true rfl) (fun _ => rfl) (fun x2_42 hd ls hl => ?_)
        refine lv_goto (tgt := 21) hx hb dX7_round_45 rfl ?_
        exact k21 (muSent s_m (Int32.toNatClampNeg x2) v40) x2_42 hd _ _ _ hP hD hS (lv_sub hl [1, 2, 0] rfl)
    exact fun s_m x2 => L fu s_m x2
  refine lv_iload_n hx hb dX7_round_0 rfl (lv_at hl 1 rfl) ?_
  refine lv_i2l hx hb dX7_round_1 rfl ?_
  refine lv_lconst (v := 1) hx hb dX7_round_2 rfl ?_
  refine lv_ldc2 hx hb hown kc_113 dX7_round_3 ?_
  refine rx_roi hd (fun v hv => W.runS (As := [.long (Int32.toInt64 x1), .long (1 : Int64), .long (7 : Int64)]) (rest := []) hcf (c_X7_in l dC dI cI cJ cQ fu    (Int32.toInt64 x1) (1 : Int64) (7 : Int64) v hv) (va_cwS 3 hts gX7_round_X7_in rfl rfl rfl cd_X7_in ⟨(Nat.le_of_ble_eq_true rfl), (Nat.le_of_ble_eq_true rfl)⟩) (cq_R_S hK hP [] rfl) rfl rfl hl.1 rfl (lv_room (Nat.le_of_ble_eq_true rfl)) dX7_round_6 ⟨Nat.le_refl _, Nat.le_refl _⟩) (fun u6 hd => ?_)
  refine rx_if_ne hx hb 19 dX7_round_9 rfl hd (fun hd => ?_) (fun hd => ?_)
  · refine lv_iconst (v := 0) hx hb dX7_round_19 ki_0 ?_
    refine lv_istore_n (lv' := [(2, .int (0 : Int32)), (0, .ref (a_m 0)), (1, .int x1)]) hx hb dX7_round_20 rfl hl (Nat.le_of_ble_eq_true rfl) rfl (fun ls hl => ?_)
    exact b21   x1 s_m (0 : Int32) hd _ _ _ hP hD hS (lv_sub hl [1, 2, 0] rfl)
  refine lv_aload_n hx hb dX7_round_12 rfl (lv_at hl 0 rfl) ?_
  refine lv_ldc hx hb hown kc_48 dX7_round_13 ?_
  refine rx_upi1 hd hD hS hA (fun v hv => va_runV (As := [.int (-1000000001 : Int32)]) (rest := []) hcf (c_X7_finds l dC dI cI cJ cQ fu a_m _  s_m (-1000000001 : Int32) v hv) (cwV 1 hts gX7_round_X7_finds rfl rfl rfl cd_X7_finds ⟨(Nat.le_of_ble_eq_true rfl), (Nat.le_of_ble_eq_true rfl)⟩) (cq_U_V1 (q0 := 0) (ci := 6) hK hP hD rfl rfl) rfl rfl hl.1 rfl (lv_room (Nat.le_of_ble_eq_true rfl)) dX7_round_15 ⟨Nat.le_refl _, Nat.le_refl _⟩) (fun u15 hd H locs hP hD hS => ?_)
  exact rx_retUi (u := u15.2) (w1 := (fun u : MS => (wM cI cJ a_m u))) hx hb hr hlocks hd hK hP hD hS dX7_round_18
theorem fiX7_deeds_X7 : ∀ w ∈ wsX70, w ∈ wsX7_deeds := mem_r _ [32, 33, 34, 35, 36, 37, 38, 39, 40, 41, 42, 43, 44, 45, 46, 47, 48, 49] rfl
set_option maxHeartbeats 8000000 in
set_option maxRecDepth 100000 in
theorem c_X7_deeds (l : Launch) (dC : Nat → ClassId) (dI : Nat → Nat → Nat) (cI cJ cQ : ClassId) (fu : Nat) (a_m : Nat → Nat) (sz : Nat) (s_m : MS) (x1 : Int32) (x2 : Int32) (r : Int32 × MS) (hd : fX7_deeds fu  s_m x1 x2 = some r) : mUi l yX7_deeds wsX7_deeds (gRm 3 68) [.ref (a_m 0), .int x1, .int x2] (dC, dI) vwCl (gty cI cJ cQ) (wM cI cJ a_m s_m) sz (fun u : MS => (wM cI cJ a_m u)) r := by
  refine Met.ofW (cc := cX7_deeds) (maxL := 6) (ret := (some .int)) (by decide) rfl ?_
  intro p e s m args below meth c s₁ B hml hv
  obtain ⟨hav, hsz, hP, hK, hD0⟩ := hv
  subst hsz
  have hD := hD0.self (sz := s.heap.size)
  generalize hAe : va_A (wM cI cJ a_m s_m) s.heap.size = A at hD ⊢
  have hA : ∀ q : Nat, s.heap.size ≤ q → A q := fun q h => by rw [← hAe]; exact Or.inr h
  have hS : va_S A s.heap s.heap [] := va_S.rf
  have hx := B.exec
  have hb := B.bytes
  have hr := B.returns
  have hts := atoms_spec (ws := wsX7_deeds) B.pre
  have hown : s.vm.findClass RX7 = some m.cls := findClass_of_methodNamed B.named
  have hlocks := B.notSynchronized
  have hcf : CallFix p m c cX7_deeds 6 s args wsX7_deeds RX7 := ⟨hx, hb, hml, hown, hts⟩
  have fl_7 := hts (.fieldLink RX7 7 "BucketGiftModel" "s" "[I") (List.mem_of_getElem? (i := 3) rfl)
  have kc_48 := hts (.constant RX7 48 (-1000000001)) (List.mem_of_getElem? (i := 2) rfl)
  have kc_158 := hts (.constantLong RX7 158 (15)) (List.mem_of_getElem? (i := 1) rfl)
  have kc_147 := hts (.constant RX7 147 (-1000000004)) (List.mem_of_getElem? (i := 4) rfl)
  have hg : entryFrame m args 6 = entryFrame m ([.ref (a_m 0), .int x1, .int x2] : List Value).toArray 6 := by rw [hav]
  rw [hg, lg_entry_eq]
  have hl := lv_entry ([.ref (a_m 0), .int x1, .int x2]) (n := 6) (Nat.le_of_ble_eq_true rfl)
  generalize (lg_sl ([.ref (a_m 0), .int x1, .int x2]) ++ List.replicate (6 - (lg_sl ([.ref (a_m 0), .int x1, .int x2])).length) Slot.unset).toArray = ls at hl ⊢
  have hl : lv_has ls 6 [(0, .ref (a_m 0)), (1, .int x1), (2, .int x2)] := hl
  clear hg
  unfold fX7_deeds at hd
  have b20 : ∀ (s_m : MS), fX7_deeds_b20 fu    s_m = some r → bk_U p l e (headSpec wsX7_deeds (gRm 3 68)).room s m args below meth c (qUi below args s (dC, dI) vwCl (gty cI cJ cQ) A (fun u : MS => (wM cI cJ a_m u)) r) (dC, dI) vwCl A 6 (wM cI cJ a_m s_m) 20 [(0, .ref (a_m 0))] [] := by
    intro s_m hd
    intro H locs ls hP hD hS hl
    unfold fX7_deeds_b20 at hd
    refine lv_aload_n hx hb dX7_deeds_20 rfl (lv_at hl 0 rfl) ?_
    refine lv_ldc hx hb hown kc_48 dX7_deeds_21 ?_
    refine rx_upi1 hd hD hS hA (fun v hv => va_runV (As := [.int (-1000000001 : Int32)]) (rest := []) hcf (c_X7_finds l dC dI cI cJ cQ fu a_m _  s_m (-1000000001 : Int32) v hv) (cwV 1 hts gX7_deeds_X7_finds rfl rfl rfl cd_X7_finds ⟨(Nat.le_of_ble_eq_true rfl), (Nat.le_of_ble_eq_true rfl)⟩) (cq_U_V1 (q0 := 0) (ci := 6) hK hP hD rfl rfl) rfl rfl hl.1 rfl (lv_room (Nat.le_of_ble_eq_true rfl)) dX7_deeds_23 ⟨Nat.le_refl _, Nat.le_refl _⟩) (fun u23 hd H locs hP hD hS => ?_)
    exact rx_retUi (u := u23.2) (w1 := (fun u : MS => (wM cI cJ a_m u))) hx hb hr hlocks hd hK hP hD hS dX7_deeds_26
  have b40 : ∀ (x1 : Int32) (x2 : Int32) (x3 : Int32) (s_m : MS) (x4 : Int32) (x5 : Int32), fX7_deeds_b40 fu    x1 x2 x3 s_m x4 x5 = some r → bk_U p l e (headSpec wsX7_deeds (gRm 3 68)).room s m args below meth c (qUi below args s (dC, dI) vwCl (gty cI cJ cQ) A (fun u : MS => (wM cI cJ a_m u)) r) (dC, dI) vwCl A 6 (wM cI cJ a_m s_m) 40 [(0, .ref (a_m 0)), (1, .int x1), (2, .int x2), (3, .int x3), (4, .int x4), (5, .int x5)] [] := by
    intro x1 x2 x3
    have L : ∀ (n : Nat) (s_m : MS) (x4 : Int32) (x5 : Int32), g_lp (fun _ _ _ => none) (fX7_deeds_b40B fu    x1 x2 x3) n s_m x4 x5 = some r → bk_U p l e (headSpec wsX7_deeds (gRm 3 68)).room s m args below meth c (qUi below args s (dC, dI) vwCl (gty cI cJ cQ) A (fun u : MS => (wM cI cJ a_m u)) r) (dC, dI) vwCl A 6 (wM cI cJ a_m s_m) 40 [(0, .ref (a_m 0)), (1, .int x1), (2, .int x2), (3, .int x3), (4, .int x4), (5, .int x5)] [] := by
      intro n
      induction n with
      | zero => intro s_m x4 x5 hd; exact absurd hd (by intro h; cases h)
      | succ n k40 =>
        intro s_m x4 x5 hd
        intro H locs ls hP hD hS hl
        have hd : fX7_deeds_b40B fu    x1 x2 x3 (g_lp (fun _ _ _ => none) (fX7_deeds_b40B fu    x1 x2 x3) n) s_m x4 x5 = some r := hd
        unfold fX7_deeds_b40B at hd
        refine lv_iload hx hb dX7_deeds_40 (lv_at hl 5 rfl) ?_
        refine lv_sipush (v := 256) hx hb dX7_deeds_42 ks_256 ?_
        refine rx_icmp_ge hx hb 102 dX7_deeds_45 rfl hd (fun hd => ?_) (fun hd => ?_)
        · refine lv_aload_n hx hb dX7_deeds_102 rfl (lv_at hl 0 rfl) ?_
          refine rx_get hx hb hts fiX7_deeds_X7 hown hK hP 0 rfl rfl 0 (Nat.le_of_ble_eq_true rfl) fl_7 rfl rfl dX7_deeds_103 ?_
          refine lv_iload_n hx hb dX7_deeds_106 rfl (lv_at hl 1 rfl) ?_
          refine lv_iconst (v := 1) hx hb dX7_deeds_107 ki_1 ?_
          refine rx_roi hd (fun v hv => W.runS (As := [.int x1, .int (1 : Int32)]) (rest := [.ref (a_m 1)]) hcf (c_X7_spot l dC dI cI cJ cQ fu    x1 (1 : Int32) v hv) (va_cwS 2 hts gX7_deeds_X7_spot rfl rfl rfl cd_X7_spot ⟨(Nat.le_of_ble_eq_true rfl), (Nat.le_of_ble_eq_true rfl)⟩) (cq_R_S hK hP [] rfl) rfl rfl hl.1 rfl (lv_room (Nat.le_of_ble_eq_true rfl)) dX7_deeds_108 ⟨Nat.le_refl _, Nat.le_refl _⟩) (fun u108 hd => ?_)
          refine lv_iload_n hx hb dX7_deeds_111 rfl (lv_at hl 3 rfl) ?_
          refine rx_iast (wM cI cJ a_m (muS s_m (Int32.toNatClampNeg u108) x3)) hx hb hK hP hD hS 1 0 rfl rfl hd (wM_uS ..) dX7_deeds_112 (fun hd H locs hP hD hS => ?_)
          refine lv_iload hx hb dX7_deeds_113 (lv_at hl 4 rfl) ?_
          refine rx_if_ge hx hb 127 dX7_deeds_115 rfl hd (fun hd => ?_) (fun hd => ?_)
          · refine lv_iload hx hb dX7_deeds_127 (lv_at hl 4 rfl) ?_
            exact rx_retUi (u := (muS s_m (Int32.toNatClampNeg u108) x3)) (w1 := (fun u : MS => (wM cI cJ a_m u))) hx hb hr hlocks hd hK hP hD hS dX7_deeds_129
          refine lv_aload_n hx hb dX7_deeds_118 rfl (lv_at hl 0 rfl) ?_
          refine lv_ldc hx hb hown kc_147 dX7_deeds_119 ?_
          refine rx_upi1 hd hD hS hA (fun v hv => va_runV (As := [.int (-1000000004 : Int32)]) (rest := []) hcf (c_X7_finds l dC dI cI cJ cQ fu a_m _  (muS s_m (Int32.toNatClampNeg u108) x3) (-1000000004 : Int32) v hv) (cwV 1 hts gX7_deeds_X7_finds rfl rfl rfl cd_X7_finds ⟨(Nat.le_of_ble_eq_true rfl), (Nat.le_of_ble_eq_true rfl)⟩) (cq_U_V1 (q0 := 0) (ci := 6) hK hP hD rfl rfl) rfl rfl hl.1 rfl (lv_room (Nat.le_of_ble_eq_true rfl)) dX7_deeds_121 ⟨Nat.le_refl _, Nat.le_refl _⟩) (fun u121 hd H locs hP hD hS => ?_)
          refine lv_goto (tgt := 129) hx hb dX7_deeds_124 rfl ?_
          exact rx_retUi (u := u121.2) (w1 := (fun u : MS => (wM cI cJ a_m u))) hx hb hr hlocks hd hK hP hD hS dX7_deeds_129
        refine lv_aload_n hx hb dX7_deeds_48 rfl (lv_at hl 0 rfl) ?_
        refine rx_get hx hb hts fiX7_deeds_X7 hown hK hP 0 rfl rfl 0 (Nat.le_of_ble_eq_true rfl) fl_7 rfl rfl dX7_deeds_49 ?_
        refine lv_iload_n hx hb dX7_deeds_52 rfl (lv_at hl 1 rfl) ?_
        refine lv_iconst (v := 1) hx hb dX7_deeds_53 ki_1 ?_
        refine rx_roi hd (fun v hv => W.runS (As := [.int x1, .int (1 : Int32)]) (rest := [.ref (a_m 1)]) hcf (c_X7_spot l dC dI cI cJ cQ fu    x1 (1 : Int32) v hv) (va_cwS 2 hts gX7_deeds_X7_spot rfl rfl rfl cd_X7_spot ⟨(Nat.le_of_ble_eq_true rfl), (Nat.le_of_ble_eq_true rfl)⟩) (cq_R_S hK hP [] rfl) rfl rfl hl.1 rfl (lv_room (Nat.le_of_ble_eq_true rfl)) dX7_deeds_54 ⟨Nat.le_refl _, Nat.le_refl _⟩) (fun u54 hd => ?_)
        refine lv_iload hx hb dX7_deeds_57 (lv_at hl 5 rfl) ?_
        refine rx_iast (wM cI cJ a_m (muS s_m (Int32.toNatClampNeg u54) x5)) hx hb hK hP hD hS 1 0 rfl rfl hd (wM_uS ..) dX7_deeds_59 (fun hd H locs hP hD hS => ?_)
        refine lv_aload_n hx hb dX7_deeds_60 rfl (lv_at hl 0 rfl) ?_
        refine lv_iload_n hx hb dX7_deeds_61 rfl (lv_at hl 1 rfl) ?_
        refine rx_roi hd (fun v hv => W.runV (As := [.int x1]) (rest := []) hcf (c_X7_deserves l dC dI cI cJ cQ fu a_m  (muS s_m (Int32.toNatClampNeg u54) x5) x1 v hv) (cwV 1 hts gX7_deeds_X7_deserves rfl rfl rfl cd_X7_deserves ⟨(Nat.le_of_ble_eq_true rfl), (Nat.le_of_ble_eq_true rfl)⟩) (cq_R_V1 (q0 := 0) (ci := 6) hK hP rfl rfl) rfl rfl hl.1 rfl (lv_room (Nat.le_of_ble_eq_true rfl)) dX7_deeds_62 ⟨Nat.le_refl _, Nat.le_refl _⟩) (fun u62 hd => ?_)
        refine lv_iload_n hx hb dX7_deeds_65 rfl (lv_at hl 2 rfl) ?_
        refine rx_icmp_lt hx hb 92 dX7_deeds_66 rfl hd (fun hd => ?_) (fun hd => ?_)
        · refine lv_iload hx hb dX7_deeds_92 (lv_at hl 4 rfl) ?_
          refine lv_istore (lv' := [(4, .int x4), (0, .ref (a_m 0)), (1, .int x1), (2, .int x2), (3, .int x3), (5, .int x5)]) hx hb dX7_deeds_94 hl (Nat.le_of_ble_eq_true rfl) rfl (fun ls hl => ?_)
          refine rx_iinc (lv' := fun z => (5, .int z) :: [(4, .int x4), (0, .ref (a_m 0)), (1, .int x1), (2, .int x2), (3, .int x3)]) hx hb (j := 5) dX7_deeds_96 hl rfl ki_1 hd (Nat.le_of_ble_eq_true rfl) (fun _ => rfl) (fun x5_96 hd ls hl => ?_)
          refine lv_goto (tgt := 40) hx hb dX7_deeds_99 rfl ?_
          exact k40 (muS s_m (Int32.toNatClampNeg u54) x5) x4 x5_96 hd _ _ _ hP hD hS (lv_sub hl [2, 3, 4, 5, 1, 0] rfl)
        refine lv_iload hx hb dX7_deeds_69 (lv_at hl 4 rfl) ?_
        refine rx_if_lt hx hb 87 dX7_deeds_71 rfl hd (fun hd => ?_) (fun hd => ?_)
        · refine lv_iload hx hb dX7_deeds_87 (lv_at hl 5 rfl) ?_
          refine lv_goto (tgt := 94) hx hb dX7_deeds_89 rfl ?_
          refine lv_istore (lv' := [(4, .int x5), (0, .ref (a_m 0)), (1, .int x1), (2, .int x2), (3, .int x3), (5, .int x5)]) hx hb dX7_deeds_94 hl (Nat.le_of_ble_eq_true rfl) rfl (fun ls hl => ?_)
          refine rx_iinc (lv' := fun z => (5, .int z) :: [(4, .int x5), (0, .ref (a_m 0)), (1, .int x1), (2, .int x2), (3, .int x3)]) hx hb (j := 5) dX7_deeds_96 hl rfl ki_1 hd (Nat.le_of_ble_eq_true rfl) (fun _ => rfl) (fun x5_96 hd ls hl => ?_)
          refine lv_goto (tgt := 40) hx hb dX7_deeds_99 rfl ?_
          exact k40 (muS s_m (Int32.toNatClampNeg u54) x5) x5 x5_96 hd _ _ _ hP hD hS (lv_sub hl [2, 3, 4, 5, 1, 0] rfl)
        refine lv_iload hx hb dX7_deeds_74 (lv_at hl 5 rfl) ?_
        refine rx_roi hd (fun v hv => W.runS (As := [.int x5]) (rest := []) hcf (c_X7_ones l dC dI cI cJ cQ fu    x5 v hv) (va_cwS 1 hts gX7_deeds_X7_ones rfl rfl rfl cd_X7_ones ⟨(Nat.le_of_ble_eq_true rfl), (Nat.le_of_ble_eq_true rfl)⟩) (cq_R_S hK hP [] rfl) rfl rfl hl.1 rfl (lv_room (Nat.le_of_ble_eq_true rfl)) dX7_deeds_76 ⟨Nat.le_refl _, Nat.le_refl _⟩) (fun u76 hd => ?_)
        refine lv_iload hx hb dX7_deeds_79 (lv_at hl 4 rfl) ?_
        refine rx_roi hd (fun v hv => W.runS (As := [.int x4]) (rest := [.int u76]) hcf (c_X7_ones l dC dI cI cJ cQ fu    x4 v hv) (va_cwS 1 hts gX7_deeds_X7_ones rfl rfl rfl cd_X7_ones ⟨(Nat.le_of_ble_eq_true rfl), (Nat.le_of_ble_eq_true rfl)⟩) (cq_R_S hK hP [] rfl) rfl rfl hl.1 rfl (lv_room (Nat.le_of_ble_eq_true rfl)) dX7_deeds_81 ⟨Nat.le_refl _, Nat.le_refl _⟩) (fun u81 hd => ?_)
        refine rx_icmp_ge hx hb 92 dX7_deeds_84 rfl hd (fun hd => ?_) (fun hd => ?_)
        · refine lv_iload hx hb dX7_deeds_92 (lv_at hl 4 rfl) ?_
          refine lv_istore (lv' := [(4, .int x4), (0, .ref (a_m 0)), (1, .int x1), (2, .int x2), (3, .int x3), (5, .int x5)]) hx hb dX7_deeds_94 hl (Nat.le_of_ble_eq_true rfl) rfl (fun ls hl => ?_)
          refine rx_iinc (lv' := fun z => (5, .int z) :: [(4, .int x4), (0, .ref (a_m 0)), (1, .int x1), (2, .int x2), (3, .int x3)]) hx hb (j := 5) dX7_deeds_96 hl rfl ki_1 hd (Nat.le_of_ble_eq_true rfl) (fun _ => rfl) (fun x5_96 hd ls hl => ?_)
          refine lv_goto (tgt := 40) hx hb dX7_deeds_99 rfl ?_
          exact k40 (muS s_m (Int32.toNatClampNeg u54) x5) x4 x5_96 hd _ _ _ hP hD hS (lv_sub hl [2, 3, 4, 5, 1, 0] rfl)
        refine lv_iload hx hb dX7_deeds_87 (lv_at hl 5 rfl) ?_
        refine lv_goto (tgt := 94) hx hb dX7_deeds_89 rfl ?_
        refine lv_istore (lv' := [(4, .int x5), (0, .ref (a_m 0)), (1, .int x1), (2, .int x2), (3, .int x3), (5, .int x5)]) hx hb dX7_deeds_94 hl (Nat.le_of_ble_eq_true rfl) rfl (fun ls hl => ?_)
        refine rx_iinc (lv' := fun z => (5, .int z) :: [(4, .int x5), (0, .ref (a_m 0)), (1, .int x1), (2, .int x2), (3, .int x3)]) hx hb (j := 5) dX7_deeds_96 hl rfl ki_1 hd (Nat.le_of_ble_eq_true rfl) (fun _ => rfl) (fun x5_96 hd ls hl => ?_)
        refine lv_goto (tgt := 40) hx hb dX7_deeds_99 rfl ?_
        exact k40 (muS s_m (Int32.toNatClampNeg u54) x5) x5 x5_96 hd _ _ _ hP hD hS (lv_sub hl [2, 3, 4, 5, 1, 0] rfl)
    exact fun s_m x4 x5 => L fu s_m x4 x5
  refine lv_aload_n hx hb dX7_deeds_0 rfl (lv_at hl 0 rfl) ?_
  refine lv_iload_n hx hb dX7_deeds_1 rfl (lv_at hl 1 rfl) ?_
  refine rx_roi hd (fun v hv => W.runV (As := [.int x1]) (rest := []) hcf (c_X7_isPerson l dC dI cI cJ cQ fu a_m  s_m x1 v hv) (cwV 1 hts gX7_deeds_X7_isPerson rfl rfl rfl cd_X7_isPerson ⟨(Nat.le_of_ble_eq_true rfl), (Nat.le_of_ble_eq_true rfl)⟩) (cq_R_V1 (q0 := 0) (ci := 6) hK hP rfl rfl) rfl rfl hl.1 rfl (lv_room (Nat.le_of_ble_eq_true rfl)) dX7_deeds_2 ⟨Nat.le_refl _, Nat.le_refl _⟩) (fun u2 hd => ?_)
  refine rx_if_eq hx hb 20 dX7_deeds_5 rfl hd (fun hd => ?_) (fun hd => ?_)
  · exact b20   s_m hd _ _ _ hP hD hS (lv_sub hl [0] rfl)
  refine lv_iload_n hx hb dX7_deeds_8 rfl (lv_at hl 2 rfl) ?_
  refine lv_i2l hx hb dX7_deeds_9 rfl ?_
  refine lv_lconst (v := 0) hx hb dX7_deeds_10 rfl ?_
  refine lv_ldc2 hx hb hown kc_158 dX7_deeds_11 ?_
  refine rx_roi hd (fun v hv => W.runS (As := [.long (Int32.toInt64 x2), .long (0 : Int64), .long (15 : Int64)]) (rest := []) hcf (c_X7_in l dC dI cI cJ cQ fu    (Int32.toInt64 x2) (0 : Int64) (15 : Int64) v hv) (va_cwS 3 hts gX7_deeds_X7_in rfl rfl rfl cd_X7_in ⟨(Nat.le_of_ble_eq_true rfl), (Nat.le_of_ble_eq_true rfl)⟩) (cq_R_S hK hP [] rfl) rfl rfl hl.1 rfl (lv_room (Nat.le_of_ble_eq_true rfl)) dX7_deeds_14 ⟨Nat.le_refl _, Nat.le_refl _⟩) (fun u14 hd => ?_)
  refine rx_if_ne hx hb 27 dX7_deeds_17 rfl hd (fun hd => ?_) (fun hd => ?_)
  · refine lv_aload_n hx hb dX7_deeds_27 rfl (lv_at hl 0 rfl) ?_
    refine lv_iload_n hx hb dX7_deeds_28 rfl (lv_at hl 1 rfl) ?_
    refine lv_iconst (v := 1) hx hb dX7_deeds_29 ki_1 ?_
    refine rx_roi hd (fun v hv => W.runV (As := [.int x1, .int (1 : Int32)]) (rest := []) hcf (c_X7_its l dC dI cI cJ cQ fu a_m  s_m x1 (1 : Int32) v hv) (cwV 2 hts gX7_deeds_X7_its rfl rfl rfl cd_X7_its ⟨(Nat.le_of_ble_eq_true rfl), (Nat.le_of_ble_eq_true rfl)⟩) (cq_R_V1 (q0 := 0) (ci := 6) hK hP rfl rfl) rfl rfl hl.1 rfl (lv_room (Nat.le_of_ble_eq_true rfl)) dX7_deeds_30 ⟨Nat.le_refl _, Nat.le_refl _⟩) (fun u30 hd => ?_)
    refine lv_istore_n (lv' := [(3, .int u30), (0, .ref (a_m 0)), (1, .int x1), (2, .int x2)]) hx hb dX7_deeds_33 rfl hl (Nat.le_of_ble_eq_true rfl) rfl (fun ls hl => ?_)
    refine lv_iconst (v := -1) hx hb dX7_deeds_34 ki_m1 ?_
    refine lv_istore (lv' := [(4, .int (-1 : Int32)), (3, .int u30), (0, .ref (a_m 0)), (1, .int x1), (2, .int x2)]) hx hb dX7_deeds_35 hl (Nat.le_of_ble_eq_true rfl) rfl (fun ls hl => ?_)
    refine lv_iconst (v := 0) hx hb dX7_deeds_37 ki_0 ?_
    refine lv_istore (lv' := [(5, .int (0 : Int32)), (4, .int (-1 : Int32)), (3, .int u30), (0, .ref (a_m 0)), (1, .int x1), (2, .int x2)]) hx hb dX7_deeds_38 hl (Nat.le_of_ble_eq_true rfl) rfl (fun ls hl => ?_)
    exact b40   x1 x2 u30 s_m (-1 : Int32) (0 : Int32) hd _ _ _ hP hD hS (lv_sub hl [3, 4, 5, 2, 1, 0] rfl)
  exact b20   s_m hd _ _ _ hP hD hS (lv_sub hl [0] rfl)
theorem fiX7_step_X7 : ∀ w ∈ wsX70, w ∈ wsX7_step := mem_r _ [38, 39, 40, 41, 42, 43, 44, 45, 46, 47, 48, 49, 50, 51, 52, 53, 54, 55] rfl
set_option maxHeartbeats 8000000 in
set_option maxRecDepth 100000 in
theorem c_X7_step (l : Launch) (dC : Nat → ClassId) (dI : Nat → Nat → Nat) (cI cJ cQ : ClassId) (fu : Nat) (a_m : Nat → Nat) (sz : Nat) (s_m : MS) (x1 : Int32) (r : Int32 × MS) (hd : fX7_step fu  s_m x1 = some r) : mUi l yX7_step wsX7_step (gRm 5 119) [.ref (a_m 0), .int x1] (dC, dI) vwCl (gty cI cJ cQ) (wM cI cJ a_m s_m) sz (fun u : MS => (wM cI cJ a_m u)) r := by
  refine Met.ofW (cc := cX7_step) (maxL := 2) (ret := (some .int)) (by decide) rfl ?_
  intro p e s m args below meth c s₁ B hml hv
  obtain ⟨hav, hsz, hP, hK, hD0⟩ := hv
  subst hsz
  have hD := hD0.self (sz := s.heap.size)
  generalize hAe : va_A (wM cI cJ a_m s_m) s.heap.size = A at hD ⊢
  have hA : ∀ q : Nat, s.heap.size ≤ q → A q := fun q h => by rw [← hAe]; exact Or.inr h
  have hS : va_S A s.heap s.heap [] := va_S.rf
  have hx := B.exec
  have hb := B.bytes
  have hr := B.returns
  have hts := atoms_spec (ws := wsX7_step) B.pre
  have hown : s.vm.findClass RX7 = some m.cls := findClass_of_methodNamed B.named
  have hlocks := B.notSynchronized
  have hcf : CallFix p m c cX7_step 2 s args wsX7_step RX7 := ⟨hx, hb, hml, hown, hts⟩
  have fl_7 := hts (.fieldLink RX7 7 "BucketGiftModel" "s" "[I") (List.mem_of_getElem? (i := 1) rfl)
  have kc_48 := hts (.constant RX7 48 (-1000000001)) (List.mem_of_getElem? (i := 2) rfl)
  have hg : entryFrame m args 2 = entryFrame m ([.ref (a_m 0), .int x1] : List Value).toArray 2 := by rw [hav]
  rw [hg, lg_entry_eq]
  have hl := lv_entry ([.ref (a_m 0), .int x1]) (n := 2) (Nat.le_of_ble_eq_true rfl)
  generalize (lg_sl ([.ref (a_m 0), .int x1]) ++ List.replicate (2 - (lg_sl ([.ref (a_m 0), .int x1])).length) Slot.unset).toArray = ls at hl ⊢
  have hl : lv_has ls 2 [(0, .ref (a_m 0)), (1, .int x1)] := hl
  clear hg
  unfold fX7_step at hd
  refine lv_aload_n hx hb dX7_step_0 rfl (lv_at hl 0 rfl) ?_
  refine lv_iload_n hx hb dX7_step_1 rfl (lv_at hl 1 rfl) ?_
  refine rx_roi hd (fun v hv => W.runV (As := [.int x1]) (rest := []) hcf (c_X7_isPerson l dC dI cI cJ cQ fu a_m  s_m x1 v hv) (cwV 1 hts gX7_step_X7_isPerson rfl rfl rfl cd_X7_isPerson ⟨(Nat.le_of_ble_eq_true rfl), (Nat.le_of_ble_eq_true rfl)⟩) (cq_R_V1 (q0 := 0) (ci := 6) hK hP rfl rfl) rfl rfl hl.1 rfl (lv_room (Nat.le_of_ble_eq_true rfl)) dX7_step_2 ⟨Nat.le_refl _, Nat.le_refl _⟩) (fun u2 hd => ?_)
  refine rx_if_eq hx hb 23 dX7_step_5 rfl hd (fun hd => ?_) (fun hd => ?_)
  · refine lv_aload_n hx hb dX7_step_23 rfl (lv_at hl 0 rfl) ?_
    refine lv_ldc hx hb hown kc_48 dX7_step_24 ?_
    refine rx_upi1 hd hD hS hA (fun v hv => va_runV (As := [.int (-1000000001 : Int32)]) (rest := []) hcf (c_X7_finds l dC dI cI cJ cQ fu a_m _  s_m (-1000000001 : Int32) v hv) (cwV 1 hts gX7_step_X7_finds rfl rfl rfl cd_X7_finds ⟨(Nat.le_of_ble_eq_true rfl), (Nat.le_of_ble_eq_true rfl)⟩) (cq_U_V1 (q0 := 0) (ci := 6) hK hP hD rfl rfl) rfl rfl hl.1 rfl (lv_room (Nat.le_of_ble_eq_true rfl)) dX7_step_26 ⟨Nat.le_refl _, Nat.le_refl _⟩) (fun u26 hd H locs hP hD hS => ?_)
    exact rx_retUi (u := u26.2) (w1 := (fun u : MS => (wM cI cJ a_m u))) hx hb hr hlocks hd hK hP hD hS dX7_step_29
  refine lv_aload_n hx hb dX7_step_8 rfl (lv_at hl 0 rfl) ?_
  refine lv_iload_n hx hb dX7_step_9 rfl (lv_at hl 1 rfl) ?_
  refine lv_iconst (v := 2) hx hb dX7_step_10 ki_2 ?_
  refine lv_aload_n hx hb dX7_step_11 rfl (lv_at hl 0 rfl) ?_
  refine rx_get hx hb hts fiX7_step_X7 hown hK hP 0 rfl rfl 0 (Nat.le_of_ble_eq_true rfl) fl_7 rfl rfl dX7_step_12 ?_
  refine lv_iconst (v := 0) hx hb dX7_step_15 ki_0 ?_
  refine rx_iald hx hb hK hP 1 0 rfl rfl hd dX7_step_16 (fun v16 hd => ?_)
  refine rx_upi1 hd hD hS hA (fun v hv => va_runV (As := [.int x1, .int (2 : Int32), .int v16]) (rest := []) hcf (c_X7_mostGiven l dC dI cI cJ cQ fu a_m _  s_m x1 (2 : Int32) v16 v hv) (cwV 3 hts gX7_step_X7_mostGiven rfl rfl rfl cd_X7_mostGiven ⟨(Nat.le_of_ble_eq_true rfl), (Nat.le_of_ble_eq_true rfl)⟩) (cq_U_V1 (q0 := 0) (ci := 6) hK hP hD rfl rfl) rfl rfl hl.1 rfl (lv_room (Nat.le_of_ble_eq_true rfl)) dX7_step_17 ⟨Nat.le_refl _, Nat.le_refl _⟩) (fun u17 hd H locs hP hD hS => ?_)
  refine lv_goto (tgt := 29) hx hb dX7_step_20 rfl ?_
  exact rx_retUi (u := u17.2) (w1 := (fun u : MS => (wM cI cJ a_m u))) hx hb hr hlocks hd hK hP hD hS dX7_step_29
set_option maxHeartbeats 8000000 in
set_option maxRecDepth 100000 in
theorem c_X7_kind (l : Launch) (dC : Nat → ClassId) (dI : Nat → Nat → Nat) (cI cJ cQ : ClassId) (fu : Nat) (a_m : Nat → Nat) (sz : Nat) (s_m : MS) (x1 : Int32) (r : Int32 × MS) (hd : fX7_kind fu  s_m x1 = some r) : mUi l yX7_kind wsX7_kind (gRm 5 119) [.ref (a_m 0), .int x1] (dC, dI) vwCl (gty cI cJ cQ) (wM cI cJ a_m s_m) sz (fun u : MS => (wM cI cJ a_m u)) r := by
  refine Met.ofW (cc := cX7_kind) (maxL := 2) (ret := (some .int)) (by decide) rfl ?_
  intro p e s m args below meth c s₁ B hml hv
  obtain ⟨hav, hsz, hP, hK, hD0⟩ := hv
  subst hsz
  have hD := hD0.self (sz := s.heap.size)
  generalize hAe : va_A (wM cI cJ a_m s_m) s.heap.size = A at hD ⊢
  have hA : ∀ q : Nat, s.heap.size ≤ q → A q := fun q h => by rw [← hAe]; exact Or.inr h
  have hS : va_S A s.heap s.heap [] := va_S.rf
  have hx := B.exec
  have hb := B.bytes
  have hr := B.returns
  have hts := atoms_spec (ws := wsX7_kind) B.pre
  have hown : s.vm.findClass RX7 = some m.cls := findClass_of_methodNamed B.named
  have hlocks := B.notSynchronized
  have hcf : CallFix p m c cX7_kind 2 s args wsX7_kind RX7 := ⟨hx, hb, hml, hown, hts⟩
  have kc_48 := hts (.constant RX7 48 (-1000000001)) (List.mem_of_getElem? (i := 1) rfl)
  have hg : entryFrame m args 2 = entryFrame m ([.ref (a_m 0), .int x1] : List Value).toArray 2 := by rw [hav]
  rw [hg, lg_entry_eq]
  have hl := lv_entry ([.ref (a_m 0), .int x1]) (n := 2) (Nat.le_of_ble_eq_true rfl)
  generalize (lg_sl ([.ref (a_m 0), .int x1]) ++ List.replicate (2 - (lg_sl ([.ref (a_m 0), .int x1])).length) Slot.unset).toArray = ls at hl ⊢
  have hl : lv_has ls 2 [(0, .ref (a_m 0)), (1, .int x1)] := hl
  clear hg
  unfold fX7_kind at hd
  refine lv_aload_n hx hb dX7_kind_0 rfl (lv_at hl 0 rfl) ?_
  refine lv_iload_n hx hb dX7_kind_1 rfl (lv_at hl 1 rfl) ?_
  refine rx_roi hd (fun v hv => W.runV (As := [.int x1]) (rest := []) hcf (c_X7_isPerson l dC dI cI cJ cQ fu a_m  s_m x1 v hv) (cwV 1 hts gX7_kind_X7_isPerson rfl rfl rfl cd_X7_isPerson ⟨(Nat.le_of_ble_eq_true rfl), (Nat.le_of_ble_eq_true rfl)⟩) (cq_R_V1 (q0 := 0) (ci := 6) hK hP rfl rfl) rfl rfl hl.1 rfl (lv_room (Nat.le_of_ble_eq_true rfl)) dX7_kind_2 ⟨Nat.le_refl _, Nat.le_refl _⟩) (fun u2 hd => ?_)
  refine rx_if_eq hx hb 19 dX7_kind_5 rfl hd (fun hd => ?_) (fun hd => ?_)
  · refine lv_aload_n hx hb dX7_kind_19 rfl (lv_at hl 0 rfl) ?_
    refine lv_ldc hx hb hown kc_48 dX7_kind_20 ?_
    refine rx_upi1 hd hD hS hA (fun v hv => va_runV (As := [.int (-1000000001 : Int32)]) (rest := []) hcf (c_X7_finds l dC dI cI cJ cQ fu a_m _  s_m (-1000000001 : Int32) v hv) (cwV 1 hts gX7_kind_X7_finds rfl rfl rfl cd_X7_finds ⟨(Nat.le_of_ble_eq_true rfl), (Nat.le_of_ble_eq_true rfl)⟩) (cq_U_V1 (q0 := 0) (ci := 6) hK hP hD rfl rfl) rfl rfl hl.1 rfl (lv_room (Nat.le_of_ble_eq_true rfl)) dX7_kind_22 ⟨Nat.le_refl _, Nat.le_refl _⟩) (fun u22 hd H locs hP hD hS => ?_)
    exact rx_retUi (u := u22.2) (w1 := (fun u : MS => (wM cI cJ a_m u))) hx hb hr hlocks hd hK hP hD hS dX7_kind_25
  refine lv_aload_n hx hb dX7_kind_8 rfl (lv_at hl 0 rfl) ?_
  refine lv_iload_n hx hb dX7_kind_9 rfl (lv_at hl 1 rfl) ?_
  refine lv_iconst (v := 0) hx hb dX7_kind_10 ki_0 ?_
  refine lv_bipush (v := 6) hx hb dX7_kind_11 kb_6 ?_
  refine rx_upi1 hd hD hS hA (fun v hv => va_runV (As := [.int x1, .int (0 : Int32), .int (6 : Int32)]) (rest := []) hcf (c_X7_mostGiven l dC dI cI cJ cQ fu a_m _  s_m x1 (0 : Int32) (6 : Int32) v hv) (cwV 3 hts gX7_kind_X7_mostGiven rfl rfl rfl cd_X7_mostGiven ⟨(Nat.le_of_ble_eq_true rfl), (Nat.le_of_ble_eq_true rfl)⟩) (cq_U_V1 (q0 := 0) (ci := 6) hK hP hD rfl rfl) rfl rfl hl.1 rfl (lv_room (Nat.le_of_ble_eq_true rfl)) dX7_kind_13 ⟨Nat.le_refl _, Nat.le_refl _⟩) (fun u13 hd H locs hP hD hS => ?_)
  refine lv_goto (tgt := 25) hx hb dX7_kind_16 rfl ?_
  exact rx_retUi (u := u13.2) (w1 := (fun u : MS => (wM cI cJ a_m u))) hx hb hr hlocks hd hK hP hD hS dX7_kind_25
set_option maxHeartbeats 8000000 in
set_option maxRecDepth 100000 in
theorem c_X7_spring (l : Launch) (dC : Nat → ClassId) (dI : Nat → Nat → Nat) (cI cJ cQ : ClassId) (fu : Nat) (a_m : Nat → Nat) (sz : Nat) (s_m : MS) (x1 : Int32) (r : Int32 × MS) (hd : fX7_spring fu  s_m x1 = some r) : mUi l yX7_spring wsX7_spring (gRm 9 209) [.ref (a_m 0), .int x1] (dC, dI) vwCl (gty cI cJ cQ) (wM cI cJ a_m s_m) sz (fun u : MS => (wM cI cJ a_m u)) r := by
  refine Met.ofW (cc := cX7_spring) (maxL := 2) (ret := (some .int)) (by decide) rfl ?_
  intro p e s m args below meth c s₁ B hml hv
  obtain ⟨hav, hsz, hP, hK, hD0⟩ := hv
  subst hsz
  have hD := hD0.self (sz := s.heap.size)
  generalize hAe : va_A (wM cI cJ a_m s_m) s.heap.size = A at hD ⊢
  have hA : ∀ q : Nat, s.heap.size ≤ q → A q := fun q h => by rw [← hAe]; exact Or.inr h
  have hS : va_S A s.heap s.heap [] := va_S.rf
  have hx := B.exec
  have hb := B.bytes
  have hr := B.returns
  have hts := atoms_spec (ws := wsX7_spring) B.pre
  have hown : s.vm.findClass RX7 = some m.cls := findClass_of_methodNamed B.named
  have hlocks := B.notSynchronized
  have hcf : CallFix p m c cX7_spring 2 s args wsX7_spring RX7 := ⟨hx, hb, hml, hown, hts⟩
  have kc_48 := hts (.constant RX7 48 (-1000000001)) (List.mem_of_getElem? (i := 1) rfl)
  have hg : entryFrame m args 2 = entryFrame m ([.ref (a_m 0), .int x1] : List Value).toArray 2 := by rw [hav]
  rw [hg, lg_entry_eq]
  have hl := lv_entry ([.ref (a_m 0), .int x1]) (n := 2) (Nat.le_of_ble_eq_true rfl)
  generalize (lg_sl ([.ref (a_m 0), .int x1]) ++ List.replicate (2 - (lg_sl ([.ref (a_m 0), .int x1])).length) Slot.unset).toArray = ls at hl ⊢
  have hl : lv_has ls 2 [(0, .ref (a_m 0)), (1, .int x1)] := hl
  clear hg
  unfold fX7_spring at hd
  refine lv_iload_n hx hb dX7_spring_0 rfl (lv_at hl 1 rfl) ?_
  refine rx_roi hd (fun v hv => W.runS (As := [.int x1]) (rest := []) hcf (c_X7_isSoon l dC dI cI cJ cQ fu    x1 v hv) (va_cwS 1 hts gX7_spring_X7_isSoon rfl rfl rfl cd_X7_isSoon ⟨(Nat.le_of_ble_eq_true rfl), (Nat.le_of_ble_eq_true rfl)⟩) (cq_R_S hK hP [] rfl) rfl rfl hl.1 rfl (lv_room (Nat.le_of_ble_eq_true rfl)) dX7_spring_1 ⟨Nat.le_refl _, Nat.le_refl _⟩) (fun u1 hd => ?_)
  refine rx_if_eq hx hb 18 dX7_spring_4 rfl hd (fun hd => ?_) (fun hd => ?_)
  · refine lv_aload_n hx hb dX7_spring_18 rfl (lv_at hl 0 rfl) ?_
    refine lv_ldc hx hb hown kc_48 dX7_spring_19 ?_
    refine rx_upi1 hd hD hS hA (fun v hv => va_runV (As := [.int (-1000000001 : Int32)]) (rest := []) hcf (c_X7_finds l dC dI cI cJ cQ fu a_m _  s_m (-1000000001 : Int32) v hv) (cwV 1 hts gX7_spring_X7_finds rfl rfl rfl cd_X7_finds ⟨(Nat.le_of_ble_eq_true rfl), (Nat.le_of_ble_eq_true rfl)⟩) (cq_U_V1 (q0 := 0) (ci := 6) hK hP hD rfl rfl) rfl rfl hl.1 rfl (lv_room (Nat.le_of_ble_eq_true rfl)) dX7_spring_21 ⟨Nat.le_refl _, Nat.le_refl _⟩) (fun u21 hd H locs hP hD hS => ?_)
    exact rx_retUi (u := u21.2) (w1 := (fun u : MS => (wM cI cJ a_m u))) hx hb hr hlocks hd hK hP hD hS dX7_spring_24
  refine lv_aload_n hx hb dX7_spring_7 rfl (lv_at hl 0 rfl) ?_
  refine lv_iconst (v := 3) hx hb dX7_spring_8 ki_3 ?_
  refine lv_bipush (v := 100) hx hb dX7_spring_9 kb_100 ?_
  refine lv_iload_n hx hb dX7_spring_11 rfl (lv_at hl 1 rfl) ?_
  refine rx_upi1 hd hD hS hA (fun v hv => va_runV (As := [.int (3 : Int32), .int (100 : Int32), .int x1]) (rest := []) hcf (c_X7_leastDry l dC dI cI cJ cQ fu a_m _  s_m (3 : Int32) (100 : Int32) x1 v hv) (cwV 3 hts gX7_spring_X7_leastDry rfl rfl rfl cd_X7_leastDry ⟨(Nat.le_of_ble_eq_true rfl), (Nat.le_of_ble_eq_true rfl)⟩) (cq_U_V1 (q0 := 0) (ci := 6) hK hP hD rfl rfl) rfl rfl hl.1 rfl (lv_room (Nat.le_of_ble_eq_true rfl)) dX7_spring_12 ⟨Nat.le_refl _, Nat.le_refl _⟩) (fun u12 hd H locs hP hD hS => ?_)
  refine lv_goto (tgt := 24) hx hb dX7_spring_15 rfl ?_
  exact rx_retUi (u := u12.2) (w1 := (fun u : MS => (wM cI cJ a_m u))) hx hb hr hlocks hd hK hP hD hS dX7_spring_24
theorem fiX7_isNeverDry_X7 : ∀ w ∈ wsX70, w ∈ wsX7_isNeverDry := mem_r _ [46, 47, 48, 49, 50, 51, 52, 53, 54, 55, 56, 57, 58, 59, 60, 61, 62, 63] rfl
set_option maxHeartbeats 8000000 in
set_option maxRecDepth 100000 in
theorem c_X7_isNeverDry (l : Launch) (dC : Nat → ClassId) (dI : Nat → Nat → Nat) (cI cJ cQ : ClassId) (fu : Nat) (a_m : Nat → Nat) (sz : Nat) (s_m : MS) (x1 : Int32) (x2 : Int32) (r : Int32 × MS) (hd : fX7_isNeverDry fu  s_m x1 x2 = some r) : mUi l yX7_isNeverDry wsX7_isNeverDry (gRm 6 137) [.ref (a_m 0), .int x1, .int x2] (dC, dI) vwCl (gty cI cJ cQ) (wM cI cJ a_m s_m) sz (fun u : MS => (wM cI cJ a_m u)) r := by
  refine Met.ofW (cc := cX7_isNeverDry) (maxL := 5) (ret := (some .boolean)) (by decide) rfl ?_
  intro p e s m args below meth c s₁ B hml hv
  obtain ⟨hav, hsz, hP, hK, hD0⟩ := hv
  subst hsz
  have hD := hD0.self (sz := s.heap.size)
  generalize hAe : va_A (wM cI cJ a_m s_m) s.heap.size = A at hD ⊢
  have hA : ∀ q : Nat, s.heap.size ≤ q → A q := fun q h => by rw [← hAe]; exact Or.inr h
  have hS : va_S A s.heap s.heap [] := va_S.rf
  have hx := B.exec
  have hb := B.bytes
  have hr := B.returns
  have hts := atoms_spec (ws := wsX7_isNeverDry) B.pre
  have hown : s.vm.findClass RX7 = some m.cls := findClass_of_methodNamed B.named
  have hlocks := B.notSynchronized
  have hcf : CallFix p m c cX7_isNeverDry 5 s args wsX7_isNeverDry RX7 := ⟨hx, hb, hml, hown, hts⟩
  have fl_118 := hts (.fieldLink RX7 118 "BucketGiftModel" "dryNow" "I") (List.mem_of_getElem? (i := 1) rfl)
  have hg : entryFrame m args 5 = entryFrame m ([.ref (a_m 0), .int x1, .int x2] : List Value).toArray 5 := by rw [hav]
  rw [hg, lg_entry_eq]
  have hl := lv_entry ([.ref (a_m 0), .int x1, .int x2]) (n := 5) (Nat.le_of_ble_eq_true rfl)
  generalize (lg_sl ([.ref (a_m 0), .int x1, .int x2]) ++ List.replicate (5 - (lg_sl ([.ref (a_m 0), .int x1, .int x2])).length) Slot.unset).toArray = ls at hl ⊢
  have hl : lv_has ls 5 [(0, .ref (a_m 0)), (1, .int x1), (2, .int x2)] := hl
  clear hg
  unfold fX7_isNeverDry at hd
  have b57 : ∀ (s_m : MS) (y0 : Int32), fX7_isNeverDry_b57 fu    s_m y0 = some r → bk_U p l e (headSpec wsX7_isNeverDry (gRm 6 137)).room s m args below meth c (qUi below args s (dC, dI) vwCl (gty cI cJ cQ) A (fun u : MS => (wM cI cJ a_m u)) r) (dC, dI) vwCl A 5 (wM cI cJ a_m s_m) 57 [] [.int y0, .ref (a_m 0)] := by
    intro s_m y0 hd
    intro H locs ls hP hD hS hl
    unfold fX7_isNeverDry_b57 at hd
    refine rx_upi1 hd hD hS hA (fun v hv => va_runV (As := [.int y0]) (rest := []) hcf (c_X7_takesBack l dC dI cI cJ cQ fu a_m _  s_m y0 v hv) (cwV 1 hts gX7_isNeverDry_X7_takesBack rfl rfl rfl cd_X7_takesBack ⟨(Nat.le_of_ble_eq_true rfl), (Nat.le_of_ble_eq_true rfl)⟩) (cq_U_V1 (q0 := 0) (ci := 6) hK hP hD rfl rfl) rfl rfl hl.1 rfl (lv_room (Nat.le_of_ble_eq_true rfl)) dX7_isNeverDry_57 ⟨Nat.le_refl _, Nat.le_refl _⟩) (fun u57 hd H locs hP hD hS => ?_)
    refine rx_if_ne hx hb 67 dX7_isNeverDry_60 rfl hd (fun hd => ?_) (fun hd => ?_)
    · refine lv_iconst (v := 0) hx hb dX7_isNeverDry_67 ki_0 ?_
      exact rx_retUz (u := u57.2) (w1 := (fun u : MS => (wM cI cJ a_m u))) hx hb hr hlocks hd hK hP hD hS dX7_isNeverDry_68
    refine lv_iconst (v := 1) hx hb dX7_isNeverDry_63 ki_1 ?_
    refine lv_goto (tgt := 68) hx hb dX7_isNeverDry_64 rfl ?_
    exact rx_retUz (u := u57.2) (w1 := (fun u : MS => (wM cI cJ a_m u))) hx hb hr hlocks hd hK hP hD hS dX7_isNeverDry_68
  have b9 : ∀ (x1 : Int32) (x2 : Int32) (s_m : MS) (x3 : Int32) (x4 : Int32), fX7_isNeverDry_b9 fu    x1 x2 s_m x3 x4 = some r → bk_U p l e (headSpec wsX7_isNeverDry (gRm 6 137)).room s m args below meth c (qUi below args s (dC, dI) vwCl (gty cI cJ cQ) A (fun u : MS => (wM cI cJ a_m u)) r) (dC, dI) vwCl A 5 (wM cI cJ a_m s_m) 9 [(0, .ref (a_m 0)), (1, .int x1), (2, .int x2), (3, .int x3), (4, .int x4)] [] := by
    intro x1 x2
    have L : ∀ (n : Nat) (s_m : MS) (x3 : Int32) (x4 : Int32), g_lp (fun _ _ _ => none) (fX7_isNeverDry_b9B fu    x1 x2) n s_m x3 x4 = some r → bk_U p l e (headSpec wsX7_isNeverDry (gRm 6 137)).room s m args below meth c (qUi below args s (dC, dI) vwCl (gty cI cJ cQ) A (fun u : MS => (wM cI cJ a_m u)) r) (dC, dI) vwCl A 5 (wM cI cJ a_m s_m) 9 [(0, .ref (a_m 0)), (1, .int x1), (2, .int x2), (3, .int x3), (4, .int x4)] [] := by
      intro n
      induction n with
      | zero => intro s_m x3 x4 hd; exact absurd hd (by intro h; cases h)
      | succ n k9 =>
        intro s_m x3 x4 hd
        intro H locs ls hP hD hS hl
        have hd : fX7_isNeverDry_b9B fu    x1 x2 (g_lp (fun _ _ _ => none) (fX7_isNeverDry_b9B fu    x1 x2) n) s_m x3 x4 = some r := hd
        unfold fX7_isNeverDry_b9B at hd
        refine lv_iload hx hb dX7_isNeverDry_9 (lv_at hl 4 rfl) ?_
        refine lv_iload_n hx hb dX7_isNeverDry_11 rfl (lv_at hl 2 rfl) ?_
        refine rx_icmp_ge hx hb 47 dX7_isNeverDry_12 rfl hd (fun hd => ?_) (fun hd => ?_)
        · refine lv_aload_n hx hb dX7_isNeverDry_47 rfl (lv_at hl 0 rfl) ?_
          refine lv_iload_n hx hb dX7_isNeverDry_48 rfl (lv_at hl 3 rfl) ?_
          refine rx_if_eq hx hb 56 dX7_isNeverDry_49 rfl hd (fun hd => ?_) (fun hd => ?_)
          · refine lv_iconst (v := 0) hx hb dX7_isNeverDry_56 ki_0 ?_
            exact b57   s_m (0 : Int32) hd _ _ _ hP hD hS (lv_sub hl [] rfl)
          refine lv_iconst (v := 1) hx hb dX7_isNeverDry_52 ki_1 ?_
          refine lv_goto (tgt := 57) hx hb dX7_isNeverDry_53 rfl ?_
          exact b57   s_m (1 : Int32) hd _ _ _ hP hD hS (lv_sub hl [] rfl)
        refine lv_aload_n hx hb dX7_isNeverDry_15 rfl (lv_at hl 0 rfl) ?_
        refine rx_upv1 hd hD hS hA (fun v hv => va_runV (As := []) (rest := []) hcf (c_X7_day l dC dI cI cJ cQ fu a_m _  s_m  v hv) (cwV 0 hts gX7_isNeverDry_X7_day rfl rfl rfl cd_X7_day ⟨(Nat.le_of_ble_eq_true rfl), (Nat.le_of_ble_eq_true rfl)⟩) (cq_U_V1 (q0 := 0) (ci := 6) hK hP hD rfl rfl) rfl rfl hl.1 rfl (lv_room (Nat.le_of_ble_eq_true rfl)) dX7_isNeverDry_16 ⟨Nat.le_refl _, Nat.le_refl _⟩) (fun u16 hd H locs hP hD hS => ?_)
        refine lv_iload_n hx hb dX7_isNeverDry_19 rfl (lv_at hl 3 rfl) ?_
        refine rx_if_ne hx hb 35 dX7_isNeverDry_20 rfl hd (fun hd => ?_) (fun hd => ?_)
        · refine lv_iconst (v := 1) hx hb dX7_isNeverDry_35 ki_1 ?_
          refine lv_goto (tgt := 40) hx hb dX7_isNeverDry_36 rfl ?_
          refine lv_istore_n (lv' := [(3, .int (1 : Int32)), (0, .ref (a_m 0)), (1, .int x1), (2, .int x2), (4, .int x4)]) hx hb dX7_isNeverDry_40 rfl hl (Nat.le_of_ble_eq_true rfl) rfl (fun ls hl => ?_)
          refine rx_iinc (lv' := fun z => (4, .int z) :: [(3, .int (1 : Int32)), (0, .ref (a_m 0)), (1, .int x1), (2, .int x2)]) hx hb (j := 4) dX7_isNeverDry_41 hl rfl ki_1 hd (Nat.le_of_ble_eq_true rfl) (fun _ => rfl) (fun x4_41 hd ls hl => ?_)
          refine lv_goto (tgt := 9) hx hb dX7_isNeverDry_44 rfl ?_
          exact k9 u16 (1 : Int32) x4_41 hd _ _ _ hP hD hS (lv_sub hl [2, 3, 4, 1, 0] rfl)
        refine lv_aload_n hx hb dX7_isNeverDry_23 rfl (lv_at hl 0 rfl) ?_
        refine rx_get hx hb hts fiX7_isNeverDry_X7 hown hK hP 0 rfl rfl 6 (Nat.le_of_ble_eq_true rfl) fl_118 rfl rfl dX7_isNeverDry_24 ?_
        refine lv_iload_n hx hb dX7_isNeverDry_27 rfl (lv_at hl 1 rfl) ?_
        refine lv_ishr hx hb dX7_isNeverDry_28 ?_
        refine lv_iconst (v := 1) hx hb dX7_isNeverDry_29 ki_1 ?_
        refine lv_iand hx hb dX7_isNeverDry_30 ?_
        refine lv_iconst (v := 1) hx hb dX7_isNeverDry_31 ki_1 ?_
        refine rx_icmp_ne hx hb 39 dX7_isNeverDry_32 rfl hd (fun hd => ?_) (fun hd => ?_)
        · refine lv_iconst (v := 0) hx hb dX7_isNeverDry_39 ki_0 ?_
          refine lv_istore_n (lv' := [(3, .int (0 : Int32)), (0, .ref (a_m 0)), (1, .int x1), (2, .int x2), (4, .int x4)]) hx hb dX7_isNeverDry_40 rfl hl (Nat.le_of_ble_eq_true rfl) rfl (fun ls hl => ?_)
          refine rx_iinc (lv' := fun z => (4, .int z) :: [(3, .int (0 : Int32)), (0, .ref (a_m 0)), (1, .int x1), (2, .int x2)]) hx hb (j := 4) dX7_isNeverDry_41 hl rfl ki_1 hd (Nat.le_of_ble_eq_true rfl) (fun _ => rfl) (fun x4_41 hd ls hl => ?_)
          refine lv_goto (tgt := 9) hx hb dX7_isNeverDry_44 rfl ?_
          exact k9 u16 (0 : Int32) x4_41 hd _ _ _ hP hD hS (lv_sub hl [2, 3, 4, 1, 0] rfl)
        refine lv_iconst (v := 1) hx hb dX7_isNeverDry_35 ki_1 ?_
        refine lv_goto (tgt := 40) hx hb dX7_isNeverDry_36 rfl ?_
        refine lv_istore_n (lv' := [(3, .int (1 : Int32)), (0, .ref (a_m 0)), (1, .int x1), (2, .int x2), (4, .int x4)]) hx hb dX7_isNeverDry_40 rfl hl (Nat.le_of_ble_eq_true rfl) rfl (fun ls hl => ?_)
        refine rx_iinc (lv' := fun z => (4, .int z) :: [(3, .int (1 : Int32)), (0, .ref (a_m 0)), (1, .int x1), (2, .int x2)]) hx hb (j := 4) dX7_isNeverDry_41 hl rfl ki_1 hd (Nat.le_of_ble_eq_true rfl) (fun _ => rfl) (fun x4_41 hd ls hl => ?_)
        refine lv_goto (tgt := 9) hx hb dX7_isNeverDry_44 rfl ?_
        exact k9 u16 (1 : Int32) x4_41 hd _ _ _ hP hD hS (lv_sub hl [2, 3, 4, 1, 0] rfl)
    exact fun s_m x3 x4 => L fu s_m x3 x4
  refine lv_aload_n hx hb dX7_isNeverDry_0 rfl (lv_at hl 0 rfl) ?_
  refine rx_upv1 hd hD hS hA (fun v hv => va_runV (As := []) (rest := []) hcf (c_X7_laysAside l dC dI cI cJ cQ fu a_m _  s_m  v hv) (cwV 0 hts gX7_isNeverDry_X7_laysAside rfl rfl rfl cd_X7_laysAside ⟨(Nat.le_of_ble_eq_true rfl), (Nat.le_of_ble_eq_true rfl)⟩) (cq_U_V1 (q0 := 0) (ci := 6) hK hP hD rfl rfl) rfl rfl hl.1 rfl (lv_room (Nat.le_of_ble_eq_true rfl)) dX7_isNeverDry_1 ⟨Nat.le_refl _, Nat.le_refl _⟩) (fun u1 hd H locs hP hD hS => ?_)
  refine lv_iconst (v := 0) hx hb dX7_isNeverDry_4 ki_0 ?_
  refine lv_istore_n (lv' := [(3, .int (0 : Int32)), (0, .ref (a_m 0)), (1, .int x1), (2, .int x2)]) hx hb dX7_isNeverDry_5 rfl hl (Nat.le_of_ble_eq_true rfl) rfl (fun ls hl => ?_)
  refine lv_iconst (v := 0) hx hb dX7_isNeverDry_6 ki_0 ?_
  refine lv_istore (lv' := [(4, .int (0 : Int32)), (3, .int (0 : Int32)), (0, .ref (a_m 0)), (1, .int x1), (2, .int x2)]) hx hb dX7_isNeverDry_7 hl (Nat.le_of_ble_eq_true rfl) rfl (fun ls hl => ?_)
  exact b9   x1 x2 u1 (0 : Int32) (0 : Int32) hd _ _ _ hP hD hS (lv_sub hl [2, 3, 4, 1, 0] rfl)
theorem fiX7_enough_X7 : ∀ w ∈ wsX70, w ∈ wsX7_enough := mem_r _ [68, 69, 70, 71, 72, 73, 74, 75, 76, 77, 78, 79, 80, 81, 82, 83, 84, 85] rfl
set_option maxHeartbeats 8000000 in
set_option maxRecDepth 100000 in
theorem c_X7_enough (l : Launch) (dC : Nat → ClassId) (dI : Nat → Nat → Nat) (cI cJ cQ : ClassId) (fu : Nat) (a_m : Nat → Nat) (sz : Nat) (s_m : MS) (x1 : Int32) (x2 : Int32) (r : Int32 × MS) (hd : fX7_enough fu  s_m x1 x2 = some r) : mUi l yX7_enough wsX7_enough (gRm 7 161) [.ref (a_m 0), .int x1, .int x2] (dC, dI) vwCl (gty cI cJ cQ) (wM cI cJ a_m s_m) sz (fun u : MS => (wM cI cJ a_m u)) r := by
  refine Met.ofW (cc := cX7_enough) (maxL := 6) (ret := (some .int)) (by decide) rfl ?_
  intro p e s m args below meth c s₁ B hml hv
  obtain ⟨hav, hsz, hP, hK, hD0⟩ := hv
  subst hsz
  have hD := hD0.self (sz := s.heap.size)
  generalize hAe : va_A (wM cI cJ a_m s_m) s.heap.size = A at hD ⊢
  have hA : ∀ q : Nat, s.heap.size ≤ q → A q := fun q h => by rw [← hAe]; exact Or.inr h
  have hS : va_S A s.heap s.heap [] := va_S.rf
  have hx := B.exec
  have hb := B.bytes
  have hr := B.returns
  have hts := atoms_spec (ws := wsX7_enough) B.pre
  have hown : s.vm.findClass RX7 = some m.cls := findClass_of_methodNamed B.named
  have hlocks := B.notSynchronized
  have hcf : CallFix p m c cX7_enough 6 s args wsX7_enough RX7 := ⟨hx, hb, hml, hown, hts⟩
  have fl_7 := hts (.fieldLink RX7 7 "BucketGiftModel" "s" "[I") (List.mem_of_getElem? (i := 2) rfl)
  have kc_48 := hts (.constant RX7 48 (-1000000001)) (List.mem_of_getElem? (i := 1) rfl)
  have kc_147 := hts (.constant RX7 147 (-1000000004)) (List.mem_of_getElem? (i := 3) rfl)
  have hg : entryFrame m args 6 = entryFrame m ([.ref (a_m 0), .int x1, .int x2] : List Value).toArray 6 := by rw [hav]
  rw [hg, lg_entry_eq]
  have hl := lv_entry ([.ref (a_m 0), .int x1, .int x2]) (n := 6) (Nat.le_of_ble_eq_true rfl)
  generalize (lg_sl ([.ref (a_m 0), .int x1, .int x2]) ++ List.replicate (6 - (lg_sl ([.ref (a_m 0), .int x1, .int x2])).length) Slot.unset).toArray = ls at hl ⊢
  have hl : lv_has ls 6 [(0, .ref (a_m 0)), (1, .int x1), (2, .int x2)] := hl
  clear hg
  unfold fX7_enough at hd
  have b14 : ∀ (s_m : MS), fX7_enough_b14 fu    s_m = some r → bk_U p l e (headSpec wsX7_enough (gRm 7 161)).room s m args below meth c (qUi below args s (dC, dI) vwCl (gty cI cJ cQ) A (fun u : MS => (wM cI cJ a_m u)) r) (dC, dI) vwCl A 6 (wM cI cJ a_m s_m) 14 [(0, .ref (a_m 0))] [] := by
    intro s_m hd
    intro H locs ls hP hD hS hl
    unfold fX7_enough_b14 at hd
    refine lv_aload_n hx hb dX7_enough_14 rfl (lv_at hl 0 rfl) ?_
    refine lv_ldc hx hb hown kc_48 dX7_enough_15 ?_
    refine rx_upi1 hd hD hS hA (fun v hv => va_runV (As := [.int (-1000000001 : Int32)]) (rest := []) hcf (c_X7_finds l dC dI cI cJ cQ fu a_m _  s_m (-1000000001 : Int32) v hv) (cwV 1 hts gX7_enough_X7_finds rfl rfl rfl cd_X7_finds ⟨(Nat.le_of_ble_eq_true rfl), (Nat.le_of_ble_eq_true rfl)⟩) (cq_U_V1 (q0 := 0) (ci := 6) hK hP hD rfl rfl) rfl rfl hl.1 rfl (lv_room (Nat.le_of_ble_eq_true rfl)) dX7_enough_17 ⟨Nat.le_refl _, Nat.le_refl _⟩) (fun u17 hd H locs hP hD hS => ?_)
    exact rx_retUi (u := u17.2) (w1 := (fun u : MS => (wM cI cJ a_m u))) hx hb hr hlocks hd hK hP hD hS dX7_enough_20
  have b86 : ∀ (s_m : MS) (x1 : Int32) (x3 : Int32) (x4 : Int32), fX7_enough_b86 fu    s_m x1 x3 x4 = some r → bk_U p l e (headSpec wsX7_enough (gRm 7 161)).room s m args below meth c (qUi below args s (dC, dI) vwCl (gty cI cJ cQ) A (fun u : MS => (wM cI cJ a_m u)) r) (dC, dI) vwCl A 6 (wM cI cJ a_m s_m) 86 [(0, .ref (a_m 0)), (1, .int x1), (3, .int x3), (4, .int x4)] [] := by
    intro s_m x1 x3 x4 hd
    intro H locs ls hP hD hS hl
    unfold fX7_enough_b86 at hd
    refine lv_aload_n hx hb dX7_enough_86 rfl (lv_at hl 0 rfl) ?_
    refine rx_get hx hb hts fiX7_enough_X7 hown hK hP 0 rfl rfl 0 (Nat.le_of_ble_eq_true rfl) fl_7 rfl rfl dX7_enough_87 ?_
    refine lv_iload_n hx hb dX7_enough_90 rfl (lv_at hl 1 rfl) ?_
    refine lv_iconst (v := 1) hx hb dX7_enough_91 ki_1 ?_
    refine rx_roi hd (fun v hv => W.runS (As := [.int x1, .int (1 : Int32)]) (rest := [.ref (a_m 1)]) hcf (c_X7_field l dC dI cI cJ cQ fu    x1 (1 : Int32) v hv) (va_cwS 2 hts gX7_enough_X7_field rfl rfl rfl cd_X7_field ⟨(Nat.le_of_ble_eq_true rfl), (Nat.le_of_ble_eq_true rfl)⟩) (cq_R_S hK hP [] rfl) rfl rfl hl.1 rfl (lv_room (Nat.le_of_ble_eq_true rfl)) dX7_enough_92 ⟨Nat.le_refl _, Nat.le_refl _⟩) (fun u92 hd => ?_)
    refine lv_iload_n hx hb dX7_enough_95 rfl (lv_at hl 2 rfl) ?_
    refine rx_iast (wM cI cJ a_m (muS s_m (Int32.toNatClampNeg u92) x3)) hx hb hK hP hD hS 1 0 rfl rfl hd (wM_uS ..) dX7_enough_96 (fun hd H locs hP hD hS => ?_)
    refine lv_iload hx hb dX7_enough_97 (lv_at hl 3 rfl) ?_
    refine rx_if_ge hx hb 111 dX7_enough_99 rfl hd (fun hd => ?_) (fun hd => ?_)
    · refine lv_iload hx hb dX7_enough_111 (lv_at hl 3 rfl) ?_
      exact rx_retUi (u := (muS s_m (Int32.toNatClampNeg u92) x3)) (w1 := (fun u : MS => (wM cI cJ a_m u))) hx hb hr hlocks hd hK hP hD hS dX7_enough_113
    refine lv_aload_n hx hb dX7_enough_102 rfl (lv_at hl 0 rfl) ?_
    refine lv_ldc hx hb hown kc_147 dX7_enough_103 ?_
    refine rx_upi1 hd hD hS hA (fun v hv => va_runV (As := [.int (-1000000004 : Int32)]) (rest := []) hcf (c_X7_finds l dC dI cI cJ cQ fu a_m _  (muS s_m (Int32.toNatClampNeg u92) x3) (-1000000004 : Int32) v hv) (cwV 1 hts gX7_enough_X7_finds rfl rfl rfl cd_X7_finds ⟨(Nat.le_of_ble_eq_true rfl), (Nat.le_of_ble_eq_true rfl)⟩) (cq_U_V1 (q0 := 0) (ci := 6) hK hP hD rfl rfl) rfl rfl hl.1 rfl (lv_room (Nat.le_of_ble_eq_true rfl)) dX7_enough_105 ⟨Nat.le_refl _, Nat.le_refl _⟩) (fun u105 hd H locs hP hD hS => ?_)
    refine lv_goto (tgt := 113) hx hb dX7_enough_108 rfl ?_
    exact rx_retUi (u := u105.2) (w1 := (fun u : MS => (wM cI cJ a_m u))) hx hb hr hlocks hd hK hP hD hS dX7_enough_113
  have b38 : ∀ (x1 : Int32) (x2 : Int32) (x3 : Int32) (s_m : MS) (x4 : Int32) (x5 : Int32), fX7_enough_b38 fu    x1 x2 x3 s_m x4 x5 = some r → bk_U p l e (headSpec wsX7_enough (gRm 7 161)).room s m args below meth c (qUi below args s (dC, dI) vwCl (gty cI cJ cQ) A (fun u : MS => (wM cI cJ a_m u)) r) (dC, dI) vwCl A 6 (wM cI cJ a_m s_m) 38 [(0, .ref (a_m 0)), (1, .int x1), (2, .int x2), (3, .int x3), (4, .int x4), (5, .int x5)] [] := by
    intro x1 x2 x3
    have L : ∀ (n : Nat) (s_m : MS) (x4 : Int32) (x5 : Int32), g_lp (fun _ _ _ => none) (fX7_enough_b38B fu    x1 x2 x3) n s_m x4 x5 = some r → bk_U p l e (headSpec wsX7_enough (gRm 7 161)).room s m args below meth c (qUi below args s (dC, dI) vwCl (gty cI cJ cQ) A (fun u : MS => (wM cI cJ a_m u)) r) (dC, dI) vwCl A 6 (wM cI cJ a_m s_m) 38 [(0, .ref (a_m 0)), (1, .int x1), (2, .int x2), (3, .int x3), (4, .int x4), (5, .int x5)] [] := by
      intro n
      induction n with
      | zero => intro s_m x4 x5 hd; exact absurd hd (by intro h; cases h)
      | succ n k38 =>
        intro s_m x4 x5 hd
        intro H locs ls hP hD hS hl
        have hd : fX7_enough_b38B fu    x1 x2 x3 (g_lp (fun _ _ _ => none) (fX7_enough_b38B fu    x1 x2 x3) n) s_m x4 x5 = some r := hd
        unfold fX7_enough_b38B at hd
        refine lv_iload hx hb dX7_enough_38 (lv_at hl 5 rfl) ?_
        refine lv_sipush (v := 400) hx hb dX7_enough_40 ks_400 ?_
        refine rx_icmp_gt hx hb 86 dX7_enough_43 rfl hd (fun hd => ?_) (fun hd => ?_)
        · exact b86   s_m x1 x3 x4 hd _ _ _ hP hD hS (lv_sub hl [0, 1, 3, 4] rfl)
        refine lv_iload hx hb dX7_enough_46 (lv_at hl 4 rfl) ?_
        refine rx_if_ge hx hb 86 dX7_enough_48 rfl hd (fun hd => ?_) (fun hd => ?_)
        · exact b86   s_m x1 x3 x4 hd _ _ _ hP hD hS (lv_sub hl [0, 1, 3, 4] rfl)
        refine lv_aload_n hx hb dX7_enough_51 rfl (lv_at hl 0 rfl) ?_
        refine rx_get hx hb hts fiX7_enough_X7 hown hK hP 0 rfl rfl 0 (Nat.le_of_ble_eq_true rfl) fl_7 rfl rfl dX7_enough_52 ?_
        refine lv_iload_n hx hb dX7_enough_55 rfl (lv_at hl 1 rfl) ?_
        refine lv_iconst (v := 1) hx hb dX7_enough_56 ki_1 ?_
        refine rx_roi hd (fun v hv => W.runS (As := [.int x1, .int (1 : Int32)]) (rest := [.ref (a_m 1)]) hcf (c_X7_field l dC dI cI cJ cQ fu    x1 (1 : Int32) v hv) (va_cwS 2 hts gX7_enough_X7_field rfl rfl rfl cd_X7_field ⟨(Nat.le_of_ble_eq_true rfl), (Nat.le_of_ble_eq_true rfl)⟩) (cq_R_S hK hP [] rfl) rfl rfl hl.1 rfl (lv_room (Nat.le_of_ble_eq_true rfl)) dX7_enough_57 ⟨Nat.le_refl _, Nat.le_refl _⟩) (fun u57 hd => ?_)
        refine lv_iload hx hb dX7_enough_60 (lv_at hl 5 rfl) ?_
        refine rx_iast (wM cI cJ a_m (muS s_m (Int32.toNatClampNeg u57) x5)) hx hb hK hP hD hS 1 0 rfl rfl hd (wM_uS ..) dX7_enough_62 (fun hd H locs hP hD hS => ?_)
        refine lv_aload_n hx hb dX7_enough_63 rfl (lv_at hl 0 rfl) ?_
        refine lv_iload_n hx hb dX7_enough_64 rfl (lv_at hl 1 rfl) ?_
        refine lv_iload_n hx hb dX7_enough_65 rfl (lv_at hl 2 rfl) ?_
        refine rx_upi1 hd hD hS hA (fun v hv => va_runV (As := [.int x1, .int x2]) (rest := []) hcf (c_X7_isNeverDry l dC dI cI cJ cQ fu a_m _  (muS s_m (Int32.toNatClampNeg u57) x5) x1 x2 v hv) (cwV 2 hts gX7_enough_X7_isNeverDry rfl rfl rfl cd_X7_isNeverDry ⟨(Nat.le_of_ble_eq_true rfl), (Nat.le_of_ble_eq_true rfl)⟩) (cq_U_V1 (q0 := 0) (ci := 6) hK hP hD rfl rfl) rfl rfl hl.1 rfl (lv_room (Nat.le_of_ble_eq_true rfl)) dX7_enough_66 ⟨Nat.le_refl _, Nat.le_refl _⟩) (fun u66 hd H locs hP hD hS => ?_)
        refine rx_if_eq hx hb 77 dX7_enough_69 rfl hd (fun hd => ?_) (fun hd => ?_)
        · refine lv_iconst (v := -1) hx hb dX7_enough_77 ki_m1 ?_
          refine lv_istore (lv' := [(4, .int (-1 : Int32)), (0, .ref (a_m 0)), (1, .int x1), (2, .int x2), (3, .int x3), (5, .int x5)]) hx hb dX7_enough_78 hl (Nat.le_of_ble_eq_true rfl) rfl (fun ls hl => ?_)
          refine rx_iinc (lv' := fun z => (5, .int z) :: [(4, .int (-1 : Int32)), (0, .ref (a_m 0)), (1, .int x1), (2, .int x2), (3, .int x3)]) hx hb (j := 5) dX7_enough_80 hl rfl ki_1 hd (Nat.le_of_ble_eq_true rfl) (fun _ => rfl) (fun x5_80 hd ls hl => ?_)
          refine lv_goto (tgt := 38) hx hb dX7_enough_83 rfl ?_
          exact k38 u66.2 (-1 : Int32) x5_80 hd _ _ _ hP hD hS (lv_sub hl [2, 3, 4, 5, 1, 0] rfl)
        refine lv_iload hx hb dX7_enough_72 (lv_at hl 5 rfl) ?_
        refine lv_goto (tgt := 78) hx hb dX7_enough_74 rfl ?_
        refine lv_istore (lv' := [(4, .int x5), (0, .ref (a_m 0)), (1, .int x1), (2, .int x2), (3, .int x3), (5, .int x5)]) hx hb dX7_enough_78 hl (Nat.le_of_ble_eq_true rfl) rfl (fun ls hl => ?_)
        refine rx_iinc (lv' := fun z => (5, .int z) :: [(4, .int x5), (0, .ref (a_m 0)), (1, .int x1), (2, .int x2), (3, .int x3)]) hx hb (j := 5) dX7_enough_80 hl rfl ki_1 hd (Nat.le_of_ble_eq_true rfl) (fun _ => rfl) (fun x5_80 hd ls hl => ?_)
        refine lv_goto (tgt := 38) hx hb dX7_enough_83 rfl ?_
        exact k38 u66.2 x5 x5_80 hd _ _ _ hP hD hS (lv_sub hl [2, 3, 4, 5, 1, 0] rfl)
    exact fun s_m x4 x5 => L fu s_m x4 x5
  refine lv_iload_n hx hb dX7_enough_0 rfl (lv_at hl 1 rfl) ?_
  refine rx_roi hd (fun v hv => W.runS (As := [.int x1]) (rest := []) hcf (c_X7_isFarm l dC dI cI cJ cQ fu    x1 v hv) (va_cwS 1 hts gX7_enough_X7_isFarm rfl rfl rfl cd_X7_isFarm ⟨(Nat.le_of_ble_eq_true rfl), (Nat.le_of_ble_eq_true rfl)⟩) (cq_R_S hK hP [] rfl) rfl rfl hl.1 rfl (lv_room (Nat.le_of_ble_eq_true rfl)) dX7_enough_1 ⟨Nat.le_refl _, Nat.le_refl _⟩) (fun u1 hd => ?_)
  refine rx_if_eq hx hb 14 dX7_enough_4 rfl hd (fun hd => ?_) (fun hd => ?_)
  · exact b14   s_m hd _ _ _ hP hD hS (lv_sub hl [0] rfl)
  refine lv_iload_n hx hb dX7_enough_7 rfl (lv_at hl 2 rfl) ?_
  refine rx_roi hd (fun v hv => W.runS (As := [.int x2]) (rest := []) hcf (c_X7_isSoon l dC dI cI cJ cQ fu    x2 v hv) (va_cwS 1 hts gX7_enough_X7_isSoon rfl rfl rfl cd_X7_isSoon ⟨(Nat.le_of_ble_eq_true rfl), (Nat.le_of_ble_eq_true rfl)⟩) (cq_R_S hK hP [] rfl) rfl rfl hl.1 rfl (lv_room (Nat.le_of_ble_eq_true rfl)) dX7_enough_8 ⟨Nat.le_refl _, Nat.le_refl _⟩) (fun u8 hd => ?_)
  refine rx_if_ne hx hb 21 dX7_enough_11 rfl hd (fun hd => ?_) (fun hd => ?_)
  · refine lv_aload_n hx hb dX7_enough_21 rfl (lv_at hl 0 rfl) ?_
    refine rx_get hx hb hts fiX7_enough_X7 hown hK hP 0 rfl rfl 0 (Nat.le_of_ble_eq_true rfl) fl_7 rfl rfl dX7_enough_22 ?_
    refine lv_iload_n hx hb dX7_enough_25 rfl (lv_at hl 1 rfl) ?_
    refine lv_iconst (v := 1) hx hb dX7_enough_26 ki_1 ?_
    refine rx_roi hd (fun v hv => W.runS (As := [.int x1, .int (1 : Int32)]) (rest := [.ref (a_m 1)]) hcf (c_X7_field l dC dI cI cJ cQ fu    x1 (1 : Int32) v hv) (va_cwS 2 hts gX7_enough_X7_field rfl rfl rfl cd_X7_field ⟨(Nat.le_of_ble_eq_true rfl), (Nat.le_of_ble_eq_true rfl)⟩) (cq_R_S hK hP [] rfl) rfl rfl hl.1 rfl (lv_room (Nat.le_of_ble_eq_true rfl)) dX7_enough_27 ⟨Nat.le_refl _, Nat.le_refl _⟩) (fun u27 hd => ?_)
    refine rx_iald hx hb hK hP 1 0 rfl rfl hd dX7_enough_30 (fun v30 hd => ?_)
    refine lv_istore_n (lv' := [(3, .int v30), (0, .ref (a_m 0)), (1, .int x1), (2, .int x2)]) hx hb dX7_enough_31 rfl hl (Nat.le_of_ble_eq_true rfl) rfl (fun ls hl => ?_)
    refine lv_iconst (v := -1) hx hb dX7_enough_32 ki_m1 ?_
    refine lv_istore (lv' := [(4, .int (-1 : Int32)), (3, .int v30), (0, .ref (a_m 0)), (1, .int x1), (2, .int x2)]) hx hb dX7_enough_33 hl (Nat.le_of_ble_eq_true rfl) rfl (fun ls hl => ?_)
    refine lv_iconst (v := 0) hx hb dX7_enough_35 ki_0 ?_
    refine lv_istore (lv' := [(5, .int (0 : Int32)), (4, .int (-1 : Int32)), (3, .int v30), (0, .ref (a_m 0)), (1, .int x1), (2, .int x2)]) hx hb dX7_enough_36 hl (Nat.le_of_ble_eq_true rfl) rfl (fun ls hl => ?_)
    exact b38   x1 x2 v30 s_m (-1 : Int32) (0 : Int32) hd _ _ _ hP hD hS (lv_sub hl [3, 4, 5, 2, 1, 0] rfl)
  exact b14   s_m hd _ _ _ hP hD hS (lv_sub hl [0] rfl)
theorem fiX7_worth_X7 : ∀ w ∈ wsX70, w ∈ wsX7_worth := mem_r _ [76, 77, 78, 79, 80, 81, 82, 83, 84, 85, 86, 87, 88, 89, 90, 91, 92, 93] rfl
set_option maxHeartbeats 8000000 in
set_option maxRecDepth 100000 in
theorem c_X7_worth (l : Launch) (dC : Nat → ClassId) (dI : Nat → Nat → Nat) (cI cJ cQ : ClassId) (fu : Nat) (a_m : Nat → Nat) (sz : Nat) (s_m : MS) (x1 : Int32) (x2 : Int32) (r : Int32 × MS) (hd : fX7_worth fu  s_m x1 x2 = some r) : mUi l yX7_worth wsX7_worth (gRm 8 181) [.ref (a_m 0), .int x1, .int x2] (dC, dI) vwCl (gty cI cJ cQ) (wM cI cJ a_m s_m) sz (fun u : MS => (wM cI cJ a_m u)) r := by
  refine Met.ofW (cc := cX7_worth) (maxL := 6) (ret := (some .int)) (by decide) rfl ?_
  intro p e s m args below meth c s₁ B hml hv
  obtain ⟨hav, hsz, hP, hK, hD0⟩ := hv
  subst hsz
  have hD := hD0.self (sz := s.heap.size)
  generalize hAe : va_A (wM cI cJ a_m s_m) s.heap.size = A at hD ⊢
  have hA : ∀ q : Nat, s.heap.size ≤ q → A q := fun q h => by rw [← hAe]; exact Or.inr h
  have hS : va_S A s.heap s.heap [] := va_S.rf
  have hx := B.exec
  have hb := B.bytes
  have hr := B.returns
  have hts := atoms_spec (ws := wsX7_worth) B.pre
  have hown : s.vm.findClass RX7 = some m.cls := findClass_of_methodNamed B.named
  have hlocks := B.notSynchronized
  have hcf : CallFix p m c cX7_worth 6 s args wsX7_worth RX7 := ⟨hx, hb, hml, hown, hts⟩
  have fl_7 := hts (.fieldLink RX7 7 "BucketGiftModel" "s" "[I") (List.mem_of_getElem? (i := 3) rfl)
  have fl_25 := hts (.fieldLink RX7 25 "BucketGiftModel" "sent" "[I") (List.mem_of_getElem? (i := 2) rfl)
  have kc_48 := hts (.constant RX7 48 (-1000000001)) (List.mem_of_getElem? (i := 1) rfl)
  have hg : entryFrame m args 6 = entryFrame m ([.ref (a_m 0), .int x1, .int x2] : List Value).toArray 6 := by rw [hav]
  rw [hg, lg_entry_eq]
  have hl := lv_entry ([.ref (a_m 0), .int x1, .int x2]) (n := 6) (Nat.le_of_ble_eq_true rfl)
  generalize (lg_sl ([.ref (a_m 0), .int x1, .int x2]) ++ List.replicate (6 - (lg_sl ([.ref (a_m 0), .int x1, .int x2])).length) Slot.unset).toArray = ls at hl ⊢
  have hl : lv_has ls 6 [(0, .ref (a_m 0)), (1, .int x1), (2, .int x2)] := hl
  clear hg
  unfold fX7_worth at hd
  have b15 : ∀ (s_m : MS), fX7_worth_b15 fu    s_m = some r → bk_U p l e (headSpec wsX7_worth (gRm 8 181)).room s m args below meth c (qUi below args s (dC, dI) vwCl (gty cI cJ cQ) A (fun u : MS => (wM cI cJ a_m u)) r) (dC, dI) vwCl A 6 (wM cI cJ a_m s_m) 15 [(0, .ref (a_m 0))] [] := by
    intro s_m hd
    intro H locs ls hP hD hS hl
    unfold fX7_worth_b15 at hd
    refine lv_aload_n hx hb dX7_worth_15 rfl (lv_at hl 0 rfl) ?_
    refine lv_ldc hx hb hown kc_48 dX7_worth_16 ?_
    refine rx_upi1 hd hD hS hA (fun v hv => va_runV (As := [.int (-1000000001 : Int32)]) (rest := []) hcf (c_X7_finds l dC dI cI cJ cQ fu a_m _  s_m (-1000000001 : Int32) v hv) (cwV 1 hts gX7_worth_X7_finds rfl rfl rfl cd_X7_finds ⟨(Nat.le_of_ble_eq_true rfl), (Nat.le_of_ble_eq_true rfl)⟩) (cq_U_V1 (q0 := 0) (ci := 6) hK hP hD rfl rfl) rfl rfl hl.1 rfl (lv_room (Nat.le_of_ble_eq_true rfl)) dX7_worth_18 ⟨Nat.le_refl _, Nat.le_refl _⟩) (fun u18 hd H locs hP hD hS => ?_)
    exact rx_retUi (u := u18.2) (w1 := (fun u : MS => (wM cI cJ a_m u))) hx hb hr hlocks hd hK hP hD hS dX7_worth_21
  have b104 : ∀ (x3 : Int32) (x4 : Int32) (s_m : MS) (x5 : Int32), fX7_worth_b104 fu    x3 x4 s_m x5 = some r → bk_U p l e (headSpec wsX7_worth (gRm 8 181)).room s m args below meth c (qUi below args s (dC, dI) vwCl (gty cI cJ cQ) A (fun u : MS => (wM cI cJ a_m u)) r) (dC, dI) vwCl A 6 (wM cI cJ a_m s_m) 104 [(0, .ref (a_m 0)), (3, .int x3), (4, .int x4), (5, .int x5)] [] := by
    intro x3 x4
    have L : ∀ (n : Nat) (s_m : MS) (x5 : Int32), g_lp (fun _ _ => none) (fX7_worth_b104B fu    x3 x4) n s_m x5 = some r → bk_U p l e (headSpec wsX7_worth (gRm 8 181)).room s m args below meth c (qUi below args s (dC, dI) vwCl (gty cI cJ cQ) A (fun u : MS => (wM cI cJ a_m u)) r) (dC, dI) vwCl A 6 (wM cI cJ a_m s_m) 104 [(0, .ref (a_m 0)), (3, .int x3), (4, .int x4), (5, .int x5)] [] := by
      intro n
      induction n with
      | zero => intro s_m x5 hd; exact absurd hd (by intro h; cases h)
      | succ n k104 =>
        intro s_m x5 hd
        intro H locs ls hP hD hS hl
        have hd : fX7_worth_b104B fu    x3 x4 (g_lp (fun _ _ => none) (fX7_worth_b104B fu    x3 x4) n) s_m x5 = some r := hd
        unfold fX7_worth_b104B at hd
        refine lv_iload hx hb dX7_worth_104 (lv_at hl 3 rfl) ?_
        refine lv_iconst (v := 4) hx hb dX7_worth_106 ki_4 ?_
        refine rx_icmp_ge hx hb 134 dX7_worth_107 rfl hd (fun hd => ?_) (fun hd => ?_)
        · refine lv_iload hx hb dX7_worth_134 (lv_at hl 2 rfl) ?_
          refine lv_iload_n hx hb dX7_worth_136 rfl (lv_at hl 1 rfl) ?_
          refine lv_isub hx hb dX7_worth_137 ?_
          exact rx_retUi (u := s_m) (w1 := (fun u : MS => (wM cI cJ a_m u))) hx hb hr hlocks hd hK hP hD hS dX7_worth_138
        refine lv_aload_n hx hb dX7_worth_110 rfl (lv_at hl 0 rfl) ?_
        refine rx_get hx hb hts fiX7_worth_X7 hown hK hP 0 rfl rfl 0 (Nat.le_of_ble_eq_true rfl) fl_7 rfl rfl dX7_worth_111 ?_
        refine lv_iload hx hb dX7_worth_114 (lv_at hl 3 rfl) ?_
        refine lv_iconst (v := 3) hx hb dX7_worth_116 ki_3 ?_
        refine rx_roi hd (fun v hv => W.runS (As := [.int x5, .int (3 : Int32)]) (rest := [.ref (a_m 1)]) hcf (c_X7_field l dC dI cI cJ cQ fu    x5 (3 : Int32) v hv) (va_cwS 2 hts gX7_worth_X7_field rfl rfl rfl cd_X7_field ⟨(Nat.le_of_ble_eq_true rfl), (Nat.le_of_ble_eq_true rfl)⟩) (cq_R_S hK hP [] rfl) rfl rfl hl.1 rfl (lv_room (Nat.le_of_ble_eq_true rfl)) dX7_worth_117 ⟨Nat.le_refl _, Nat.le_refl _⟩) (fun u117 hd => ?_)
        refine lv_aload_n hx hb dX7_worth_120 rfl (lv_at hl 0 rfl) ?_
        refine rx_get hx hb hts fiX7_worth_X7 hown hK hP 0 rfl rfl 7 (Nat.le_of_ble_eq_true rfl) fl_25 rfl rfl dX7_worth_121 ?_
        refine lv_iload hx hb dX7_worth_124 (lv_at hl 3 rfl) ?_
        refine rx_iald hx hb hK hP 6 0 rfl rfl hd dX7_worth_126 (fun v126 hd => ?_)
        refine rx_iast (wM cI cJ a_m (muS s_m (Int32.toNatClampNeg u117) v126)) hx hb hK hP hD hS 1 0 rfl rfl hd (wM_uS ..) dX7_worth_127 (fun hd H locs hP hD hS => ?_)
        refine rx_iinc (lv' := fun z => (5, .int z) :: [(0, .ref (a_m 0)), (3, .int x3), (4, .int x4)]) hx hb (j := 3) dX7_worth_128 hl rfl ki_1 hd (Nat.le_of_ble_eq_true rfl) (fun _ => rfl) (fun x5_128 hd ls hl => ?_)
        refine lv_goto (tgt := 104) hx hb dX7_worth_131 rfl ?_
        exact k104 (muS s_m (Int32.toNatClampNeg u117) v126) x5_128 hd _ _ _ hP hD hS (lv_sub hl [1, 2, 3, 0] rfl)
    exact fun s_m x5 => L fu s_m x5
  have b87 : ∀ (x1 : Int32) (x2 : Int32) (x3 : Int32), ∀ (K31 : MS → Int32 → Option (Int32 × MS)) (k31 : ∀ (s_m : MS) (x4 : Int32), K31 s_m x4 = some r → bk_U p l e (headSpec wsX7_worth (gRm 8 181)).room s m args below meth c (qUi below args s (dC, dI) vwCl (gty cI cJ cQ) A (fun u : MS => (wM cI cJ a_m u)) r) (dC, dI) vwCl A 6 (wM cI cJ a_m s_m) 31 [(0, .ref (a_m 0)), (1, .int x1), (2, .int x2), (3, .int x3), (4, .int x4)] []), ∀ (s_m : MS) (x4 : Int32) (y0 : Int32) (y1 : Int32), fX7_worth_b87 fu  K31 x1 x2 x3 s_m x4 y0 y1 = some r → bk_U p l e (headSpec wsX7_worth (gRm 8 181)).room s m args below meth c (qUi below args s (dC, dI) vwCl (gty cI cJ cQ) A (fun u : MS => (wM cI cJ a_m u)) r) (dC, dI) vwCl A 6 (wM cI cJ a_m s_m) 87 [(0, .ref (a_m 0)), (1, .int x1), (2, .int x2), (3, .int x3), (4, .int x4)] [.int y0, .int y1, .ref (a_m 1)] := by
    intro x1 x2 x3
    intro K31 k31
    intro s_m x4 y0 y1 hd
    intro H locs ls hP hD hS hl
    unfold fX7_worth_b87 at hd
    refine rx_iast (wM cI cJ a_m (muS s_m (Int32.toNatClampNeg y1) y0)) hx hb hK hP hD hS 1 0 rfl rfl hd (wM_uS ..) dX7_worth_87 (fun hd H locs hP hD hS => ?_)
    refine rx_iinc (lv' := fun z => (4, .int z) :: [(0, .ref (a_m 0)), (1, .int x1), (2, .int x2), (3, .int x3)]) hx hb (j := 4) dX7_worth_88 hl rfl ki_1 hd (Nat.le_of_ble_eq_true rfl) (fun _ => rfl) (fun x4_88 hd ls hl => ?_)
    refine lv_goto (tgt := 31) hx hb dX7_worth_91 rfl ?_
    exact k31 (muS s_m (Int32.toNatClampNeg y1) y0) x4_88 hd _ _ _ hP hD hS (lv_sub hl [1, 2, 3, 4, 0] rfl)
  have b31 : ∀ (x1 : Int32) (x2 : Int32) (x3 : Int32) (s_m : MS) (x4 : Int32), fX7_worth_b31 fu    x1 x2 x3 s_m x4 = some r → bk_U p l e (headSpec wsX7_worth (gRm 8 181)).room s m args below meth c (qUi below args s (dC, dI) vwCl (gty cI cJ cQ) A (fun u : MS => (wM cI cJ a_m u)) r) (dC, dI) vwCl A 6 (wM cI cJ a_m s_m) 31 [(0, .ref (a_m 0)), (1, .int x1), (2, .int x2), (3, .int x3), (4, .int x4)] [] := by
    intro x1 x2 x3
    have L : ∀ (n : Nat) (s_m : MS) (x4 : Int32), g_lp (fun _ _ => none) (fX7_worth_b31B fu    x1 x2 x3) n s_m x4 = some r → bk_U p l e (headSpec wsX7_worth (gRm 8 181)).room s m args below meth c (qUi below args s (dC, dI) vwCl (gty cI cJ cQ) A (fun u : MS => (wM cI cJ a_m u)) r) (dC, dI) vwCl A 6 (wM cI cJ a_m s_m) 31 [(0, .ref (a_m 0)), (1, .int x1), (2, .int x2), (3, .int x3), (4, .int x4)] [] := by
      intro n
      induction n with
      | zero => intro s_m x4 hd; exact absurd hd (by intro h; cases h)
      | succ n k31 =>
        intro s_m x4 hd
        intro H locs ls hP hD hS hl
        have hd : fX7_worth_b31B fu    x1 x2 x3 (g_lp (fun _ _ => none) (fX7_worth_b31B fu    x1 x2 x3) n) s_m x4 = some r := hd
        unfold fX7_worth_b31B at hd
        refine lv_iload hx hb dX7_worth_31 (lv_at hl 4 rfl) ?_
        refine lv_iconst (v := 4) hx hb dX7_worth_33 ki_4 ?_
        refine rx_icmp_ge hx hb 94 dX7_worth_34 rfl hd (fun hd => ?_) (fun hd => ?_)
        · refine lv_aload_n hx hb dX7_worth_94 rfl (lv_at hl 0 rfl) ?_
          refine lv_iload_n hx hb dX7_worth_95 rfl (lv_at hl 2 rfl) ?_
          refine rx_upi1 hd hD hS hA (fun v hv => va_runV (As := [.int x2]) (rest := []) hcf (c_X7_dryOn l dC dI cI cJ cQ fu a_m _  s_m x2 v hv) (cwV 1 hts gX7_worth_X7_dryOn rfl rfl rfl cd_X7_dryOn ⟨(Nat.le_of_ble_eq_true rfl), (Nat.le_of_ble_eq_true rfl)⟩) (cq_U_V1 (q0 := 0) (ci := 6) hK hP hD rfl rfl) rfl rfl hl.1 rfl (lv_room (Nat.le_of_ble_eq_true rfl)) dX7_worth_96 ⟨Nat.le_refl _, Nat.le_refl _⟩) (fun u96 hd H locs hP hD hS => ?_)
          refine lv_istore (lv' := [(4, .int u96.1), (0, .ref (a_m 0)), (1, .int x1), (2, .int x2), (3, .int x3)]) hx hb dX7_worth_99 hl (Nat.le_of_ble_eq_true rfl) rfl (fun ls hl => ?_)
          refine lv_iconst (v := 0) hx hb dX7_worth_101 ki_0 ?_
          refine lv_istore (lv' := [(5, .int (0 : Int32)), (4, .int u96.1), (0, .ref (a_m 0)), (1, .int x1), (2, .int x2), (3, .int x3)]) hx hb dX7_worth_102 hl (Nat.le_of_ble_eq_true rfl) rfl (fun ls hl => ?_)
          exact b104   x3 u96.1 u96.2 (0 : Int32) hd _ _ _ hP hD hS (lv_sub hl [2, 5, 1, 0] rfl)
        refine lv_aload_n hx hb dX7_worth_37 rfl (lv_at hl 0 rfl) ?_
        refine rx_get hx hb hts fiX7_worth_X7 hown hK hP 0 rfl rfl 7 (Nat.le_of_ble_eq_true rfl) fl_25 rfl rfl dX7_worth_38 ?_
        refine lv_iload hx hb dX7_worth_41 (lv_at hl 4 rfl) ?_
        refine lv_aload_n hx hb dX7_worth_43 rfl (lv_at hl 0 rfl) ?_
        refine rx_get hx hb hts fiX7_worth_X7 hown hK hP 0 rfl rfl 0 (Nat.le_of_ble_eq_true rfl) fl_7 rfl rfl dX7_worth_44 ?_
        refine lv_iload hx hb dX7_worth_47 (lv_at hl 4 rfl) ?_
        refine lv_iconst (v := 3) hx hb dX7_worth_49 ki_3 ?_
        refine rx_roi hd (fun v hv => W.runS (As := [.int x4, .int (3 : Int32)]) (rest := [.ref (a_m 1), .int x4, .ref (a_m 6)]) hcf (c_X7_field l dC dI cI cJ cQ fu    x4 (3 : Int32) v hv) (va_cwS 2 hts gX7_worth_X7_field rfl rfl rfl cd_X7_field ⟨(Nat.le_of_ble_eq_true rfl), (Nat.le_of_ble_eq_true rfl)⟩) (cq_R_S hK hP [] rfl) rfl rfl hl.1 rfl (lv_room (Nat.le_of_ble_eq_true rfl)) dX7_worth_50 ⟨Nat.le_refl _, Nat.le_refl _⟩) (fun u50 hd => ?_)
        refine rx_iald hx hb hK hP 1 0 rfl rfl hd dX7_worth_53 (fun v53 hd => ?_)
        refine rx_iast (wM cI cJ a_m (muSent s_m (Int32.toNatClampNeg x4) v53)) hx hb hK hP hD hS 6 0 rfl rfl hd (wM_uSent ..) dX7_worth_54 (fun hd H locs hP hD hS => ?_)
        refine lv_aload_n hx hb dX7_worth_55 rfl (lv_at hl 0 rfl) ?_
        refine rx_get hx hb hts fiX7_worth_X7 hown hK hP 0 rfl rfl 0 (Nat.le_of_ble_eq_true rfl) fl_7 rfl rfl dX7_worth_56 ?_
        refine lv_iload hx hb dX7_worth_59 (lv_at hl 4 rfl) ?_
        refine lv_iconst (v := 3) hx hb dX7_worth_61 ki_3 ?_
        refine rx_roi hd (fun v hv => W.runS (As := [.int x4, .int (3 : Int32)]) (rest := [.ref (a_m 1)]) hcf (c_X7_field l dC dI cI cJ cQ fu    x4 (3 : Int32) v hv) (va_cwS 2 hts gX7_worth_X7_field rfl rfl rfl cd_X7_field ⟨(Nat.le_of_ble_eq_true rfl), (Nat.le_of_ble_eq_true rfl)⟩) (cq_R_S hK hP [] rfl) rfl rfl hl.1 rfl (lv_room (Nat.le_of_ble_eq_true rfl)) dX7_worth_62 ⟨Nat.le_refl _, Nat.le_refl _⟩) (fun u62 hd => ?_)
        refine lv_aload_n hx hb dX7_worth_65 rfl (lv_at hl 0 rfl) ?_
        refine rx_get hx hb hts fiX7_worth_X7 hown hK hP 0 rfl rfl 7 (Nat.le_of_ble_eq_true rfl) fl_25 rfl rfl dX7_worth_66 ?_
        refine lv_iload hx hb dX7_worth_69 (lv_at hl 4 rfl) ?_
        refine rx_iald hx hb hK hP 6 0 rfl rfl hd dX7_worth_71 (fun v71 hd => ?_)
        refine lv_iload_n hx hb dX7_worth_72 rfl (lv_at hl 1 rfl) ?_
        refine rx_icmp_ne hx hb 80 dX7_worth_73 rfl hd (fun hd => ?_) (fun hd => ?_)
        · refine lv_aload_n hx hb dX7_worth_80 rfl (lv_at hl 0 rfl) ?_
          refine rx_get hx hb hts fiX7_worth_X7 hown hK hP 0 rfl rfl 7 (Nat.le_of_ble_eq_true rfl) fl_25 rfl rfl dX7_worth_81 ?_
          refine lv_iload hx hb dX7_worth_84 (lv_at hl 4 rfl) ?_
          refine rx_iald hx hb hK hP 6 0 rfl rfl hd dX7_worth_86 (fun v86 hd => ?_)
          exact b87 x1 x2 x3 _ k31 (muSent s_m (Int32.toNatClampNeg x4) v53) x4 v86 u62 hd _ _ _ hP hD hS (lv_sub hl [0, 1, 2, 3, 4] rfl)
        refine lv_iconst (v := -1) hx hb dX7_worth_76 ki_m1 ?_
        refine lv_goto (tgt := 87) hx hb dX7_worth_77 rfl ?_
        exact b87 x1 x2 x3 _ k31 (muSent s_m (Int32.toNatClampNeg x4) v53) x4 (-1 : Int32) u62 hd _ _ _ hP hD hS (lv_sub hl [0, 1, 2, 3, 4] rfl)
    exact fun s_m x4 => L fu s_m x4
  refine lv_aload_n hx hb dX7_worth_0 rfl (lv_at hl 0 rfl) ?_
  refine lv_iload_n hx hb dX7_worth_1 rfl (lv_at hl 1 rfl) ?_
  refine rx_roi hd (fun v hv => W.runV (As := [.int x1]) (rest := []) hcf (c_X7_isPerson l dC dI cI cJ cQ fu a_m  s_m x1 v hv) (cwV 1 hts gX7_worth_X7_isPerson rfl rfl rfl cd_X7_isPerson ⟨(Nat.le_of_ble_eq_true rfl), (Nat.le_of_ble_eq_true rfl)⟩) (cq_R_V1 (q0 := 0) (ci := 6) hK hP rfl rfl) rfl rfl hl.1 rfl (lv_room (Nat.le_of_ble_eq_true rfl)) dX7_worth_2 ⟨Nat.le_refl _, Nat.le_refl _⟩) (fun u2 hd => ?_)
  refine rx_if_eq hx hb 15 dX7_worth_5 rfl hd (fun hd => ?_) (fun hd => ?_)
  · exact b15   s_m hd _ _ _ hP hD hS (lv_sub hl [0] rfl)
  refine lv_iload_n hx hb dX7_worth_8 rfl (lv_at hl 2 rfl) ?_
  refine rx_roi hd (fun v hv => W.runS (As := [.int x2]) (rest := []) hcf (c_X7_isSoon l dC dI cI cJ cQ fu    x2 v hv) (va_cwS 1 hts gX7_worth_X7_isSoon rfl rfl rfl cd_X7_isSoon ⟨(Nat.le_of_ble_eq_true rfl), (Nat.le_of_ble_eq_true rfl)⟩) (cq_R_S hK hP [] rfl) rfl rfl hl.1 rfl (lv_room (Nat.le_of_ble_eq_true rfl)) dX7_worth_9 ⟨Nat.le_refl _, Nat.le_refl _⟩) (fun u9 hd => ?_)
  refine rx_if_ne hx hb 22 dX7_worth_12 rfl hd (fun hd => ?_) (fun hd => ?_)
  · refine lv_aload_n hx hb dX7_worth_22 rfl (lv_at hl 0 rfl) ?_
    refine lv_iload_n hx hb dX7_worth_23 rfl (lv_at hl 2 rfl) ?_
    refine rx_upi1 hd hD hS hA (fun v hv => va_runV (As := [.int x2]) (rest := []) hcf (c_X7_dryOn l dC dI cI cJ cQ fu a_m _  s_m x2 v hv) (cwV 1 hts gX7_worth_X7_dryOn rfl rfl rfl cd_X7_dryOn ⟨(Nat.le_of_ble_eq_true rfl), (Nat.le_of_ble_eq_true rfl)⟩) (cq_U_V1 (q0 := 0) (ci := 6) hK hP hD rfl rfl) rfl rfl hl.1 rfl (lv_room (Nat.le_of_ble_eq_true rfl)) dX7_worth_24 ⟨Nat.le_refl _, Nat.le_refl _⟩) (fun u24 hd H locs hP hD hS => ?_)
    refine lv_istore_n (lv' := [(3, .int u24.1), (0, .ref (a_m 0)), (1, .int x1), (2, .int x2)]) hx hb dX7_worth_27 rfl hl (Nat.le_of_ble_eq_true rfl) rfl (fun ls hl => ?_)
    refine lv_iconst (v := 0) hx hb dX7_worth_28 ki_0 ?_
    refine lv_istore (lv' := [(4, .int (0 : Int32)), (3, .int u24.1), (0, .ref (a_m 0)), (1, .int x1), (2, .int x2)]) hx hb dX7_worth_29 hl (Nat.le_of_ble_eq_true rfl) rfl (fun ls hl => ?_)
    exact b31   x1 x2 u24.1 u24.2 (0 : Int32) hd _ _ _ hP hD hS (lv_sub hl [2, 3, 4, 1, 0] rfl)
  exact b15   s_m hd _ _ _ hP hD hS (lv_sub hl [0] rfl)
theorem fiX7_did_X7 : ∀ w ∈ wsX70, w ∈ wsX7_did := mem_r _ [34, 35, 36, 37, 38, 39, 40, 41, 42, 43, 44, 45, 46, 47, 48, 49, 50, 51] rfl
set_option maxHeartbeats 8000000 in
set_option maxRecDepth 100000 in
theorem c_X7_did (l : Launch) (dC : Nat → ClassId) (dI : Nat → Nat → Nat) (cI cJ cQ : ClassId) (fu : Nat) (a_m : Nat → Nat) (sz : Nat) (s_m : MS) (x1 : Int32) (x2 : Int32) (r : Int32 × MS) (hd : fX7_did fu  s_m x1 x2 = some r) : mUi l yX7_did wsX7_did (gRm 4 91) [.ref (a_m 0), .int x1, .int x2] (dC, dI) vwCl (gty cI cJ cQ) (wM cI cJ a_m s_m) sz (fun u : MS => (wM cI cJ a_m u)) r := by
  refine Met.ofW (cc := cX7_did) (maxL := 6) (ret := (some .int)) (by decide) rfl ?_
  intro p e s m args below meth c s₁ B hml hv
  obtain ⟨hav, hsz, hP, hK, hD0⟩ := hv
  subst hsz
  have hD := hD0.self (sz := s.heap.size)
  generalize hAe : va_A (wM cI cJ a_m s_m) s.heap.size = A at hD ⊢
  have hA : ∀ q : Nat, s.heap.size ≤ q → A q := fun q h => by rw [← hAe]; exact Or.inr h
  have hS : va_S A s.heap s.heap [] := va_S.rf
  have hx := B.exec
  have hb := B.bytes
  have hr := B.returns
  have hts := atoms_spec (ws := wsX7_did) B.pre
  have hown : s.vm.findClass RX7 = some m.cls := findClass_of_methodNamed B.named
  have hlocks := B.notSynchronized
  have hcf : CallFix p m c cX7_did 6 s args wsX7_did RX7 := ⟨hx, hb, hml, hown, hts⟩
  have fl_7 := hts (.fieldLink RX7 7 "BucketGiftModel" "s" "[I") (List.mem_of_getElem? (i := 2) rfl)
  have kc_48 := hts (.constant RX7 48 (-1000000001)) (List.mem_of_getElem? (i := 1) rfl)
  have hg : entryFrame m args 6 = entryFrame m ([.ref (a_m 0), .int x1, .int x2] : List Value).toArray 6 := by rw [hav]
  rw [hg, lg_entry_eq]
  have hl := lv_entry ([.ref (a_m 0), .int x1, .int x2]) (n := 6) (Nat.le_of_ble_eq_true rfl)
  generalize (lg_sl ([.ref (a_m 0), .int x1, .int x2]) ++ List.replicate (6 - (lg_sl ([.ref (a_m 0), .int x1, .int x2])).length) Slot.unset).toArray = ls at hl ⊢
  have hl : lv_has ls 6 [(0, .ref (a_m 0)), (1, .int x1), (2, .int x2)] := hl
  clear hg
  unfold fX7_did at hd
  have b12 : ∀ (s_m : MS), fX7_did_b12 fu    s_m = some r → bk_U p l e (headSpec wsX7_did (gRm 4 91)).room s m args below meth c (qUi below args s (dC, dI) vwCl (gty cI cJ cQ) A (fun u : MS => (wM cI cJ a_m u)) r) (dC, dI) vwCl A 6 (wM cI cJ a_m s_m) 12 [(0, .ref (a_m 0))] [] := by
    intro s_m hd
    intro H locs ls hP hD hS hl
    unfold fX7_did_b12 at hd
    refine lv_aload_n hx hb dX7_did_12 rfl (lv_at hl 0 rfl) ?_
    refine lv_ldc hx hb hown kc_48 dX7_did_13 ?_
    refine rx_upi1 hd hD hS hA (fun v hv => va_runV (As := [.int (-1000000001 : Int32)]) (rest := []) hcf (c_X7_finds l dC dI cI cJ cQ fu a_m _  s_m (-1000000001 : Int32) v hv) (cwV 1 hts gX7_did_X7_finds rfl rfl rfl cd_X7_finds ⟨(Nat.le_of_ble_eq_true rfl), (Nat.le_of_ble_eq_true rfl)⟩) (cq_U_V1 (q0 := 0) (ci := 6) hK hP hD rfl rfl) rfl rfl hl.1 rfl (lv_room (Nat.le_of_ble_eq_true rfl)) dX7_did_15 ⟨Nat.le_refl _, Nat.le_refl _⟩) (fun u15 hd H locs hP hD hS => ?_)
    exact rx_retUi (u := u15.2) (w1 := (fun u : MS => (wM cI cJ a_m u))) hx hb hr hlocks hd hK hP hD hS dX7_did_18
  have b32 : ∀ (x1 : Int32) (x2 : Int32) (x3 : Int32) (s_m : MS) (x4 : Int32) (x5 : Int32), fX7_did_b32 fu    x1 x2 x3 s_m x4 x5 = some r → bk_U p l e (headSpec wsX7_did (gRm 4 91)).room s m args below meth c (qUi below args s (dC, dI) vwCl (gty cI cJ cQ) A (fun u : MS => (wM cI cJ a_m u)) r) (dC, dI) vwCl A 6 (wM cI cJ a_m s_m) 32 [(0, .ref (a_m 0)), (1, .int x1), (2, .int x2), (3, .int x3), (4, .int x4), (5, .int x5)] [] := by
    intro x1 x2 x3
    have L : ∀ (n : Nat) (s_m : MS) (x4 : Int32) (x5 : Int32), g_lp (fun _ _ _ => none) (fX7_did_b32B fu    x1 x2 x3) n s_m x4 x5 = some r → bk_U p l e (headSpec wsX7_did (gRm 4 91)).room s m args below meth c (qUi below args s (dC, dI) vwCl (gty cI cJ cQ) A (fun u : MS => (wM cI cJ a_m u)) r) (dC, dI) vwCl A 6 (wM cI cJ a_m s_m) 32 [(0, .ref (a_m 0)), (1, .int x1), (2, .int x2), (3, .int x3), (4, .int x4), (5, .int x5)] [] := by
      intro n
      induction n with
      | zero => intro s_m x4 x5 hd; exact absurd hd (by intro h; cases h)
      | succ n k32 =>
        intro s_m x4 x5 hd
        intro H locs ls hP hD hS hl
        have hd : fX7_did_b32B fu    x1 x2 x3 (g_lp (fun _ _ _ => none) (fX7_did_b32B fu    x1 x2 x3) n) s_m x4 x5 = some r := hd
        unfold fX7_did_b32B at hd
        refine lv_iload hx hb dX7_did_32 (lv_at hl 5 rfl) ?_
        refine lv_sipush (v := 256) hx hb dX7_did_34 ks_256 ?_
        refine rx_icmp_ge hx hb 77 dX7_did_37 rfl hd (fun hd => ?_) (fun hd => ?_)
        · refine lv_aload_n hx hb dX7_did_77 rfl (lv_at hl 0 rfl) ?_
          refine rx_get hx hb hts fiX7_did_X7 hown hK hP 0 rfl rfl 0 (Nat.le_of_ble_eq_true rfl) fl_7 rfl rfl dX7_did_78 ?_
          refine lv_iload_n hx hb dX7_did_81 rfl (lv_at hl 1 rfl) ?_
          refine lv_iconst (v := 1) hx hb dX7_did_82 ki_1 ?_
          refine rx_roi hd (fun v hv => W.runS (As := [.int x1, .int (1 : Int32)]) (rest := [.ref (a_m 1)]) hcf (c_X7_spot l dC dI cI cJ cQ fu    x1 (1 : Int32) v hv) (va_cwS 2 hts gX7_did_X7_spot rfl rfl rfl cd_X7_spot ⟨(Nat.le_of_ble_eq_true rfl), (Nat.le_of_ble_eq_true rfl)⟩) (cq_R_S hK hP [] rfl) rfl rfl hl.1 rfl (lv_room (Nat.le_of_ble_eq_true rfl)) dX7_did_83 ⟨Nat.le_refl _, Nat.le_refl _⟩) (fun u83 hd => ?_)
          refine lv_iload_n hx hb dX7_did_86 rfl (lv_at hl 3 rfl) ?_
          refine rx_iast (wM cI cJ a_m (muS s_m (Int32.toNatClampNeg u83) x3)) hx hb hK hP hD hS 1 0 rfl rfl hd (wM_uS ..) dX7_did_87 (fun hd H locs hP hD hS => ?_)
          refine lv_iload hx hb dX7_did_88 (lv_at hl 4 rfl) ?_
          exact rx_retUi (u := (muS s_m (Int32.toNatClampNeg u83) x3)) (w1 := (fun u : MS => (wM cI cJ a_m u))) hx hb hr hlocks hd hK hP hD hS dX7_did_90
        refine lv_aload_n hx hb dX7_did_40 rfl (lv_at hl 0 rfl) ?_
        refine rx_get hx hb hts fiX7_did_X7 hown hK hP 0 rfl rfl 0 (Nat.le_of_ble_eq_true rfl) fl_7 rfl rfl dX7_did_41 ?_
        refine lv_iload_n hx hb dX7_did_44 rfl (lv_at hl 1 rfl) ?_
        refine lv_iconst (v := 1) hx hb dX7_did_45 ki_1 ?_
        refine rx_roi hd (fun v hv => W.runS (As := [.int x1, .int (1 : Int32)]) (rest := [.ref (a_m 1)]) hcf (c_X7_spot l dC dI cI cJ cQ fu    x1 (1 : Int32) v hv) (va_cwS 2 hts gX7_did_X7_spot rfl rfl rfl cd_X7_spot ⟨(Nat.le_of_ble_eq_true rfl), (Nat.le_of_ble_eq_true rfl)⟩) (cq_R_S hK hP [] rfl) rfl rfl hl.1 rfl (lv_room (Nat.le_of_ble_eq_true rfl)) dX7_did_46 ⟨Nat.le_refl _, Nat.le_refl _⟩) (fun u46 hd => ?_)
        refine lv_iload hx hb dX7_did_49 (lv_at hl 5 rfl) ?_
        refine rx_iast (wM cI cJ a_m (muS s_m (Int32.toNatClampNeg u46) x5)) hx hb hK hP hD hS 1 0 rfl rfl hd (wM_uS ..) dX7_did_51 (fun hd H locs hP hD hS => ?_)
        refine lv_iload hx hb dX7_did_52 (lv_at hl 4 rfl) ?_
        refine lv_aload_n hx hb dX7_did_54 rfl (lv_at hl 0 rfl) ?_
        refine lv_iload_n hx hb dX7_did_55 rfl (lv_at hl 1 rfl) ?_
        refine rx_roi hd (fun v hv => W.runV (As := [.int x1]) (rest := [.int x4]) hcf (c_X7_gives l dC dI cI cJ cQ fu a_m  (muS s_m (Int32.toNatClampNeg u46) x5) x1 v hv) (cwV 1 hts gX7_did_X7_gives rfl rfl rfl cd_X7_gives ⟨(Nat.le_of_ble_eq_true rfl), (Nat.le_of_ble_eq_true rfl)⟩) (cq_R_V1 (q0 := 0) (ci := 6) hK hP rfl rfl) rfl rfl hl.1 rfl (lv_room (Nat.le_of_ble_eq_true rfl)) dX7_did_56 ⟨Nat.le_refl _, Nat.le_refl _⟩) (fun u56 hd => ?_)
        refine lv_iload_n hx hb dX7_did_59 rfl (lv_at hl 2 rfl) ?_
        refine rx_icmp_ne hx hb 67 dX7_did_60 rfl hd (fun hd => ?_) (fun hd => ?_)
        · refine lv_iconst (v := 0) hx hb dX7_did_67 ki_0 ?_
          refine lv_iadd hx hb dX7_did_68 ?_
          refine rx_topi hd (fun x4_69 hd => ?_)
          refine lv_istore (lv' := [(4, .int x4_69), (0, .ref (a_m 0)), (1, .int x1), (2, .int x2), (3, .int x3), (5, .int x5)]) hx hb dX7_did_69 hl (Nat.le_of_ble_eq_true rfl) rfl (fun ls hl => ?_)
          refine rx_iinc (lv' := fun z => (5, .int z) :: [(4, .int x4_69), (0, .ref (a_m 0)), (1, .int x1), (2, .int x2), (3, .int x3)]) hx hb (j := 5) dX7_did_71 hl rfl ki_1 hd (Nat.le_of_ble_eq_true rfl) (fun _ => rfl) (fun x5_71 hd ls hl => ?_)
          refine lv_goto (tgt := 32) hx hb dX7_did_74 rfl ?_
          exact k32 (muS s_m (Int32.toNatClampNeg u46) x5) x4_69 x5_71 hd _ _ _ hP hD hS (lv_sub hl [2, 3, 4, 5, 1, 0] rfl)
        refine lv_iconst (v := 1) hx hb dX7_did_63 ki_1 ?_
        refine lv_goto (tgt := 68) hx hb dX7_did_64 rfl ?_
        refine lv_iadd hx hb dX7_did_68 ?_
        refine rx_topi hd (fun x4_69 hd => ?_)
        refine lv_istore (lv' := [(4, .int x4_69), (0, .ref (a_m 0)), (1, .int x1), (2, .int x2), (3, .int x3), (5, .int x5)]) hx hb dX7_did_69 hl (Nat.le_of_ble_eq_true rfl) rfl (fun ls hl => ?_)
        refine rx_iinc (lv' := fun z => (5, .int z) :: [(4, .int x4_69), (0, .ref (a_m 0)), (1, .int x1), (2, .int x2), (3, .int x3)]) hx hb (j := 5) dX7_did_71 hl rfl ki_1 hd (Nat.le_of_ble_eq_true rfl) (fun _ => rfl) (fun x5_71 hd ls hl => ?_)
        refine lv_goto (tgt := 32) hx hb dX7_did_74 rfl ?_
        exact k32 (muS s_m (Int32.toNatClampNeg u46) x5) x4_69 x5_71 hd _ _ _ hP hD hS (lv_sub hl [2, 3, 4, 5, 1, 0] rfl)
    exact fun s_m x4 x5 => L fu s_m x4 x5
  refine lv_aload_n hx hb dX7_did_0 rfl (lv_at hl 0 rfl) ?_
  refine lv_iload_n hx hb dX7_did_1 rfl (lv_at hl 1 rfl) ?_
  refine rx_roi hd (fun v hv => W.runV (As := [.int x1]) (rest := []) hcf (c_X7_isPerson l dC dI cI cJ cQ fu a_m  s_m x1 v hv) (cwV 1 hts gX7_did_X7_isPerson rfl rfl rfl cd_X7_isPerson ⟨(Nat.le_of_ble_eq_true rfl), (Nat.le_of_ble_eq_true rfl)⟩) (cq_R_V1 (q0 := 0) (ci := 6) hK hP rfl rfl) rfl rfl hl.1 rfl (lv_room (Nat.le_of_ble_eq_true rfl)) dX7_did_2 ⟨Nat.le_refl _, Nat.le_refl _⟩) (fun u2 hd => ?_)
  refine rx_if_eq hx hb 12 dX7_did_5 rfl hd (fun hd => ?_) (fun hd => ?_)
  · exact b12   s_m hd _ _ _ hP hD hS (lv_sub hl [0] rfl)
  refine lv_iload_n hx hb dX7_did_8 rfl (lv_at hl 2 rfl) ?_
  refine rx_if_ge hx hb 19 dX7_did_9 rfl hd (fun hd => ?_) (fun hd => ?_)
  · refine lv_aload_n hx hb dX7_did_19 rfl (lv_at hl 0 rfl) ?_
    refine lv_iload_n hx hb dX7_did_20 rfl (lv_at hl 1 rfl) ?_
    refine lv_iconst (v := 1) hx hb dX7_did_21 ki_1 ?_
    refine rx_roi hd (fun v hv => W.runV (As := [.int x1, .int (1 : Int32)]) (rest := []) hcf (c_X7_its l dC dI cI cJ cQ fu a_m  s_m x1 (1 : Int32) v hv) (cwV 2 hts gX7_did_X7_its rfl rfl rfl cd_X7_its ⟨(Nat.le_of_ble_eq_true rfl), (Nat.le_of_ble_eq_true rfl)⟩) (cq_R_V1 (q0 := 0) (ci := 6) hK hP rfl rfl) rfl rfl hl.1 rfl (lv_room (Nat.le_of_ble_eq_true rfl)) dX7_did_22 ⟨Nat.le_refl _, Nat.le_refl _⟩) (fun u22 hd => ?_)
    refine lv_istore_n (lv' := [(3, .int u22), (0, .ref (a_m 0)), (1, .int x1), (2, .int x2)]) hx hb dX7_did_25 rfl hl (Nat.le_of_ble_eq_true rfl) rfl (fun ls hl => ?_)
    refine lv_iconst (v := 0) hx hb dX7_did_26 ki_0 ?_
    refine lv_istore (lv' := [(4, .int (0 : Int32)), (3, .int u22), (0, .ref (a_m 0)), (1, .int x1), (2, .int x2)]) hx hb dX7_did_27 hl (Nat.le_of_ble_eq_true rfl) rfl (fun ls hl => ?_)
    refine lv_iconst (v := 0) hx hb dX7_did_29 ki_0 ?_
    refine lv_istore (lv' := [(5, .int (0 : Int32)), (4, .int (0 : Int32)), (3, .int u22), (0, .ref (a_m 0)), (1, .int x1), (2, .int x2)]) hx hb dX7_did_30 hl (Nat.le_of_ble_eq_true rfl) rfl (fun ls hl => ?_)
    exact b32   x1 x2 u22 s_m (0 : Int32) (0 : Int32) hd _ _ _ hP hD hS (lv_sub hl [3, 4, 5, 2, 1, 0] rfl)
  exact b12   s_m hd _ _ _ hP hD hS (lv_sub hl [0] rfl)
theorem fiX7_feed_X7 : ∀ w ∈ wsX70, w ∈ wsX7_feed := mem_r _ [15, 16, 17, 18, 19, 20, 21, 22, 23, 24, 25, 26, 27, 28, 29, 30, 31, 32] rfl
set_option maxHeartbeats 8000000 in
set_option maxRecDepth 100000 in
theorem c_X7_feed (l : Launch) (dC : Nat → ClassId) (dI : Nat → Nat → Nat) (cI cJ cQ : ClassId) (fu : Nat) (a_m : Nat → Nat) (sz : Nat) (s_m : MS) (x1 : Int32) (x2 : Int32) (r : Int32 × MS) (hd : fX7_feed fu  s_m x1 x2 = some r) : mUi l yX7_feed wsX7_feed (gRm 1 25) [.ref (a_m 0), .int x1, .int x2] (dC, dI) vwCl (gty cI cJ cQ) (wM cI cJ a_m s_m) sz (fun u : MS => (wM cI cJ a_m u)) r := by
  refine Met.ofW (cc := cX7_feed) (maxL := 4) (ret := (some .int)) (by decide) rfl ?_
  intro p e s m args below meth c s₁ B hml hv
  obtain ⟨hav, hsz, hP, hK, hD0⟩ := hv
  subst hsz
  have hD := hD0.self (sz := s.heap.size)
  generalize hAe : va_A (wM cI cJ a_m s_m) s.heap.size = A at hD ⊢
  have hA : ∀ q : Nat, s.heap.size ≤ q → A q := fun q h => by rw [← hAe]; exact Or.inr h
  have hS : va_S A s.heap s.heap [] := va_S.rf
  have hx := B.exec
  have hb := B.bytes
  have hr := B.returns
  have hts := atoms_spec (ws := wsX7_feed) B.pre
  have hown : s.vm.findClass RX7 = some m.cls := findClass_of_methodNamed B.named
  have hlocks := B.notSynchronized
  have hcf : CallFix p m c cX7_feed 4 s args wsX7_feed RX7 := ⟨hx, hb, hml, hown, hts⟩
  have fl_168 := hts (.fieldLink RX7 168 "BucketGiftModel" "taped" "I") (List.mem_of_getElem? (i := 3) rfl)
  have fl_28 := hts (.fieldLink RX7 28 "BucketGiftModel" "tape" "[I") (List.mem_of_getElem? (i := 5) rfl)
  have kc_166 := hts (.constantLong RX7 166 (4)) (List.mem_of_getElem? (i := 1) rfl)
  have kc_89 := hts (.constant RX7 89 (-1000000002)) (List.mem_of_getElem? (i := 4) rfl)
  have kc_48 := hts (.constant RX7 48 (-1000000001)) (List.mem_of_getElem? (i := 2) rfl)
  have hg : entryFrame m args 4 = entryFrame m ([.ref (a_m 0), .int x1, .int x2] : List Value).toArray 4 := by rw [hav]
  rw [hg, lg_entry_eq]
  have hl := lv_entry ([.ref (a_m 0), .int x1, .int x2]) (n := 4) (Nat.le_of_ble_eq_true rfl)
  generalize (lg_sl ([.ref (a_m 0), .int x1, .int x2]) ++ List.replicate (4 - (lg_sl ([.ref (a_m 0), .int x1, .int x2])).length) Slot.unset).toArray = ls at hl ⊢
  have hl : lv_has ls 4 [(0, .ref (a_m 0)), (1, .int x1), (2, .int x2)] := hl
  clear hg
  unfold fX7_feed at hd
  have b41 : ∀ (x1 : Int32) (s_m : MS) (x3 : Int32), fX7_feed_b41 fu    x1 s_m x3 = some r → bk_U p l e (headSpec wsX7_feed (gRm 1 25)).room s m args below meth c (qUi below args s (dC, dI) vwCl (gty cI cJ cQ) A (fun u : MS => (wM cI cJ a_m u)) r) (dC, dI) vwCl A 4 (wM cI cJ a_m s_m) 41 [(0, .ref (a_m 0)), (1, .int x1), (3, .int x3)] [] := by
    intro x1
    have L : ∀ (n : Nat) (s_m : MS) (x3 : Int32), g_lp (fun _ _ => none) (fX7_feed_b41B fu    x1) n s_m x3 = some r → bk_U p l e (headSpec wsX7_feed (gRm 1 25)).room s m args below meth c (qUi below args s (dC, dI) vwCl (gty cI cJ cQ) A (fun u : MS => (wM cI cJ a_m u)) r) (dC, dI) vwCl A 4 (wM cI cJ a_m s_m) 41 [(0, .ref (a_m 0)), (1, .int x1), (3, .int x3)] [] := by
      intro n
      induction n with
      | zero => intro s_m x3 hd; exact absurd hd (by intro h; cases h)
      | succ n k41 =>
        intro s_m x3 hd
        intro H locs ls hP hD hS hl
        have hd : fX7_feed_b41B fu    x1 (g_lp (fun _ _ => none) (fX7_feed_b41B fu    x1) n) s_m x3 = some r := hd
        unfold fX7_feed_b41B at hd
        refine lv_iload_n hx hb dX7_feed_41 rfl (lv_at hl 2 rfl) ?_
        refine rx_if_lt hx hb 80 dX7_feed_42 rfl hd (fun hd => ?_) (fun hd => ?_)
        · refine lv_aload_n hx hb dX7_feed_80 rfl (lv_at hl 0 rfl) ?_
          refine rx_get hx hb hts fiX7_feed_X7 hown hK hP 0 rfl rfl 9 (Nat.le_of_ble_eq_true rfl) fl_168 rfl rfl dX7_feed_81 ?_
          exact rx_retUi (u := s_m) (w1 := (fun u : MS => (wM cI cJ a_m u))) hx hb hr hlocks hd hK hP hD hS dX7_feed_84
        refine lv_aload_n hx hb dX7_feed_45 rfl (lv_at hl 0 rfl) ?_
        refine rx_get hx hb hts fiX7_feed_X7 hown hK hP 0 rfl rfl 8 (Nat.le_of_ble_eq_true rfl) fl_28 rfl rfl dX7_feed_46 ?_
        refine lv_aload_n hx hb dX7_feed_49 rfl (lv_at hl 0 rfl) ?_
        refine rx_get hx hb hts fiX7_feed_X7 hown hK hP 0 rfl rfl 9 (Nat.le_of_ble_eq_true rfl) fl_168 rfl rfl dX7_feed_50 ?_
        refine lv_iload_n hx hb dX7_feed_53 rfl (lv_at hl 1 rfl) ?_
        refine lv_bipush (v := 8) hx hb dX7_feed_54 kb_8 ?_
        refine lv_iload_n hx hb dX7_feed_56 rfl (lv_at hl 2 rfl) ?_
        refine lv_imul hx hb dX7_feed_57 ?_
        refine lv_ishr hx hb dX7_feed_58 ?_
        refine lv_sipush (v := 255) hx hb dX7_feed_59 ks_255 ?_
        refine lv_iand hx hb dX7_feed_62 ?_
        refine rx_iast (wM cI cJ a_m (muTape s_m (Int32.toNatClampNeg (mgTaped s_m)) ((x1 >>> (((8 : Int32) * x3) &&& (31 : Int32))) &&& (255 : Int32)))) hx hb hK hP hD hS 7 0 rfl rfl hd (wM_uTape ..) dX7_feed_63 (fun hd H locs hP hD hS => ?_)
        refine lv_aload_n hx hb dX7_feed_64 rfl (lv_at hl 0 rfl) ?_
        refine lv_dup hx hb dX7_feed_65 rfl ?_
        refine rx_get hx hb hts fiX7_feed_X7 hown hK hP 0 rfl rfl 9 (Nat.le_of_ble_eq_true rfl) fl_168 rfl rfl dX7_feed_66 ?_
        refine lv_iconst (v := 1) hx hb dX7_feed_69 ki_1 ?_
        refine lv_iadd hx hb dX7_feed_70 ?_
        refine rx_puti (wM cI cJ a_m (msTaped (muTape s_m (Int32.toNatClampNeg (mgTaped s_m)) ((x1 >>> (((8 : Int32) * x3) &&& (31 : Int32))) &&& (255 : Int32))) ((mgTaped (muTape s_m (Int32.toNatClampNeg (mgTaped s_m)) ((x1 >>> (((8 : Int32) * x3) &&& (31 : Int32))) &&& (255 : Int32)))) + (1 : Int32)))) hx hb hts fiX7_feed_X7 tyX7 tyX7_ok nmX7 hown hK hP hD hS 0 rfl rfl 9 (Nat.le_of_ble_eq_true rfl) fl_168 rfl rfl rfl (Nat.le_of_ble_eq_true rfl) (wM_sTaped ..) dX7_feed_71 (fun H locs hP hD hS => ?_)
        refine rx_iinc (lv' := fun z => (3, .int z) :: [(0, .ref (a_m 0)), (1, .int x1)]) hx hb (j := 2) dX7_feed_74 hl rfl ki_m1 hd (Nat.le_of_ble_eq_true rfl) (fun _ => rfl) (fun x3_74 hd ls hl => ?_)
        refine lv_goto (tgt := 41) hx hb dX7_feed_77 rfl ?_
        exact k41 (msTaped (muTape s_m (Int32.toNatClampNeg (mgTaped s_m)) ((x1 >>> (((8 : Int32) * x3) &&& (31 : Int32))) &&& (255 : Int32))) ((mgTaped (muTape s_m (Int32.toNatClampNeg (mgTaped s_m)) ((x1 >>> (((8 : Int32) * x3) &&& (31 : Int32))) &&& (255 : Int32)))) + (1 : Int32))) x3_74 hd _ _ _ hP hD hS (lv_sub hl [1, 2, 0] rfl)
    exact fun s_m x3 => L fu s_m x3
  refine lv_iload_n hx hb dX7_feed_0 rfl (lv_at hl 2 rfl) ?_
  refine lv_i2l hx hb dX7_feed_1 rfl ?_
  refine lv_lconst (v := 1) hx hb dX7_feed_2 rfl ?_
  refine lv_ldc2 hx hb hown kc_166 dX7_feed_3 ?_
  refine rx_roi hd (fun v hv => W.runS (As := [.long (Int32.toInt64 x2), .long (1 : Int64), .long (4 : Int64)]) (rest := []) hcf (c_X7_in l dC dI cI cJ cQ fu    (Int32.toInt64 x2) (1 : Int64) (4 : Int64) v hv) (va_cwS 3 hts gX7_feed_X7_in rfl rfl rfl cd_X7_in ⟨(Nat.le_of_ble_eq_true rfl), (Nat.le_of_ble_eq_true rfl)⟩) (cq_R_S hK hP [] rfl) rfl rfl hl.1 rfl (lv_room (Nat.le_of_ble_eq_true rfl)) dX7_feed_6 ⟨Nat.le_refl _, Nat.le_refl _⟩) (fun u6 hd => ?_)
  refine rx_if_ne hx hb 19 dX7_feed_9 rfl hd (fun hd => ?_) (fun hd => ?_)
  · refine lv_aload_n hx hb dX7_feed_19 rfl (lv_at hl 0 rfl) ?_
    refine rx_get hx hb hts fiX7_feed_X7 hown hK hP 0 rfl rfl 9 (Nat.le_of_ble_eq_true rfl) fl_168 rfl rfl dX7_feed_20 ?_
    refine lv_iload_n hx hb dX7_feed_23 rfl (lv_at hl 2 rfl) ?_
    refine lv_iadd hx hb dX7_feed_24 ?_
    refine lv_bipush (v := 120) hx hb dX7_feed_25 kb_120 ?_
    refine rx_icmp_le hx hb 37 dX7_feed_27 rfl hd (fun hd => ?_) (fun hd => ?_)
    · refine lv_iload_n hx hb dX7_feed_37 rfl (lv_at hl 2 rfl) ?_
      refine lv_iconst (v := 1) hx hb dX7_feed_38 ki_1 ?_
      refine lv_isub hx hb dX7_feed_39 ?_
      refine rx_topi hd (fun x3_40 hd => ?_)
      refine lv_istore_n (lv' := [(3, .int x3_40), (0, .ref (a_m 0)), (1, .int x1), (2, .int x2)]) hx hb dX7_feed_40 rfl hl (Nat.le_of_ble_eq_true rfl) rfl (fun ls hl => ?_)
      exact b41   x1 s_m x3_40 hd _ _ _ hP hD hS (lv_sub hl [1, 2, 0] rfl)
    refine lv_aload_n hx hb dX7_feed_30 rfl (lv_at hl 0 rfl) ?_
    refine lv_ldc hx hb hown kc_89 dX7_feed_31 ?_
    refine rx_upi1 hd hD hS hA (fun v hv => va_runV (As := [.int (-1000000002 : Int32)]) (rest := []) hcf (c_X7_finds l dC dI cI cJ cQ fu a_m _  s_m (-1000000002 : Int32) v hv) (cwV 1 hts gX7_feed_X7_finds rfl rfl rfl cd_X7_finds ⟨(Nat.le_of_ble_eq_true rfl), (Nat.le_of_ble_eq_true rfl)⟩) (cq_U_V1 (q0 := 0) (ci := 6) hK hP hD rfl rfl) rfl rfl hl.1 rfl (lv_room (Nat.le_of_ble_eq_true rfl)) dX7_feed_33 ⟨Nat.le_refl _, Nat.le_refl _⟩) (fun u33 hd H locs hP hD hS => ?_)
    exact rx_retUi (u := u33.2) (w1 := (fun u : MS => (wM cI cJ a_m u))) hx hb hr hlocks hd hK hP hD hS dX7_feed_36
  refine lv_aload_n hx hb dX7_feed_12 rfl (lv_at hl 0 rfl) ?_
  refine lv_ldc hx hb hown kc_48 dX7_feed_13 ?_
  refine rx_upi1 hd hD hS hA (fun v hv => va_runV (As := [.int (-1000000001 : Int32)]) (rest := []) hcf (c_X7_finds l dC dI cI cJ cQ fu a_m _  s_m (-1000000001 : Int32) v hv) (cwV 1 hts gX7_feed_X7_finds rfl rfl rfl cd_X7_finds ⟨(Nat.le_of_ble_eq_true rfl), (Nat.le_of_ble_eq_true rfl)⟩) (cq_U_V1 (q0 := 0) (ci := 6) hK hP hD rfl rfl) rfl rfl hl.1 rfl (lv_room (Nat.le_of_ble_eq_true rfl)) dX7_feed_15 ⟨Nat.le_refl _, Nat.le_refl _⟩) (fun u15 hd H locs hP hD hS => ?_)
  exact rx_retUi (u := u15.2) (w1 := (fun u : MS => (wM cI cJ a_m u))) hx hb hr hlocks hd hK hP hD hS dX7_feed_18
theorem fiX7_wipe_X7 : ∀ w ∈ wsX70, w ∈ wsX7_wipe := mem_r _ [2, 3, 4, 5, 6, 7, 8, 9, 10, 11, 12, 13, 14, 15, 16, 17, 18, 19] rfl
set_option maxHeartbeats 8000000 in
set_option maxRecDepth 100000 in
theorem c_X7_wipe (l : Launch) (dC : Nat → ClassId) (dI : Nat → Nat → Nat) (cI cJ cQ : ClassId) (fu : Nat) (a_m : Nat → Nat) (sz : Nat) (s_m : MS)  (r : Int32 × MS) (hd : fX7_wipe fu  s_m  = some r) : mUi l yX7_wipe wsX7_wipe (gRm 0 0) [.ref (a_m 0)] (dC, dI) vwCl (gty cI cJ cQ) (wM cI cJ a_m s_m) sz (fun u : MS => (wM cI cJ a_m u)) r := by
  refine Met.ofW (cc := cX7_wipe) (maxL := 2) (ret := (some .int)) (by decide) rfl ?_
  intro p e s m args below meth c s₁ B hml hv
  obtain ⟨hav, hsz, hP, hK, hD0⟩ := hv
  subst hsz
  have hD := hD0.self (sz := s.heap.size)
  generalize hAe : va_A (wM cI cJ a_m s_m) s.heap.size = A at hD ⊢
  have hA : ∀ q : Nat, s.heap.size ≤ q → A q := fun q h => by rw [← hAe]; exact Or.inr h
  have hS : va_S A s.heap s.heap [] := va_S.rf
  have hx := B.exec
  have hb := B.bytes
  have hr := B.returns
  have hts := atoms_spec (ws := wsX7_wipe) B.pre
  have hown : s.vm.findClass RX7 = some m.cls := findClass_of_methodNamed B.named
  have hlocks := B.notSynchronized
  have hcf : CallFix p m c cX7_wipe 2 s args wsX7_wipe RX7 := ⟨hx, hb, hml, hown, hts⟩
  have fl_168 := hts (.fieldLink RX7 168 "BucketGiftModel" "taped" "I") (List.mem_of_getElem? (i := 1) rfl)
  have hg : entryFrame m args 2 = entryFrame m ([.ref (a_m 0)] : List Value).toArray 2 := by rw [hav]
  rw [hg, lg_entry_eq]
  have hl := lv_entry ([.ref (a_m 0)]) (n := 2) (Nat.le_of_ble_eq_true rfl)
  generalize (lg_sl ([.ref (a_m 0)]) ++ List.replicate (2 - (lg_sl ([.ref (a_m 0)])).length) Slot.unset).toArray = ls at hl ⊢
  have hl : lv_has ls 2 [(0, .ref (a_m 0))] := hl
  clear hg
  unfold fX7_wipe at hd
  refine lv_aload_n hx hb dX7_wipe_0 rfl (lv_at hl 0 rfl) ?_
  refine rx_get hx hb hts fiX7_wipe_X7 hown hK hP 0 rfl rfl 9 (Nat.le_of_ble_eq_true rfl) fl_168 rfl rfl dX7_wipe_1 ?_
  refine rx_topi hd (fun x1_4 hd => ?_)
  refine lv_istore_n (lv' := [(1, .int x1_4), (0, .ref (a_m 0))]) hx hb dX7_wipe_4 rfl hl (Nat.le_of_ble_eq_true rfl) rfl (fun ls hl => ?_)
  refine lv_aload_n hx hb dX7_wipe_5 rfl (lv_at hl 1 rfl) ?_
  refine lv_iconst (v := 0) hx hb dX7_wipe_6 ki_0 ?_
  refine rx_puti (wM cI cJ a_m (msTaped s_m (0 : Int32))) hx hb hts fiX7_wipe_X7 tyX7 tyX7_ok nmX7 hown hK hP hD hS 0 rfl rfl 9 (Nat.le_of_ble_eq_true rfl) fl_168 rfl rfl rfl (Nat.le_of_ble_eq_true rfl) (wM_sTaped ..) dX7_wipe_7 (fun H locs hP hD hS => ?_)
  refine lv_iload_n hx hb dX7_wipe_10 rfl (lv_at hl 0 rfl) ?_
  exact rx_retUi (u := (msTaped s_m (0 : Int32))) (w1 := (fun u : MS => (wM cI cJ a_m u))) hx hb hr hlocks hd hK hP hD hS dX7_wipe_11
theorem fiX7_byteAt_X7 : ∀ w ∈ wsX70, w ∈ wsX7_byteAt := mem_r _ [3, 4, 5, 6, 7, 8, 9, 10, 11, 12, 13, 14, 15, 16, 17, 18, 19, 20] rfl
set_option maxHeartbeats 8000000 in
set_option maxRecDepth 100000 in
theorem c_X7_byteAt (l : Launch) (dC : Nat → ClassId) (dI : Nat → Nat → Nat) (cI cJ cQ : ClassId) (fu : Nat) (a_m : Nat → Nat) (s_m : MS) (x1 : Int32) (r : Int32) (hd : fX7_byteAt fu  s_m x1 = some r) : mRi l yX7_byteAt wsX7_byteAt (gRm 0 0) [.ref (a_m 0), .int x1] (cq_R (dC, dI) vwCl (gty cI cJ cQ) (wM cI cJ a_m s_m)) r := by
  refine Met.ofW (cc := cX7_byteAt) (maxL := 2) (ret := (some .int)) (by decide) rfl ?_
  intro p e s m args below meth c s₁ B hml hv
  obtain ⟨hav, hP, hK⟩ := hv
  have hx := B.exec
  have hb := B.bytes
  have hr := B.returns
  have hts := atoms_spec (ws := wsX7_byteAt) B.pre
  have hown : s.vm.findClass RX7 = some m.cls := findClass_of_methodNamed B.named
  have hlocks := B.notSynchronized
  have hcf : CallFix p m c cX7_byteAt 2 s args wsX7_byteAt RX7 := ⟨hx, hb, hml, hown, hts⟩
  have fl_168 := hts (.fieldLink RX7 168 "BucketGiftModel" "taped" "I") (List.mem_of_getElem? (i := 1) rfl)
  have fl_28 := hts (.fieldLink RX7 28 "BucketGiftModel" "tape" "[I") (List.mem_of_getElem? (i := 2) rfl)
  have hg : entryFrame m args 2 = entryFrame m ([.ref (a_m 0), .int x1] : List Value).toArray 2 := by rw [hav]
  rw [hg, lg_entry_eq]
  have hl := lv_entry ([.ref (a_m 0), .int x1]) (n := 2) (Nat.le_of_ble_eq_true rfl)
  generalize (lg_sl ([.ref (a_m 0), .int x1]) ++ List.replicate (2 - (lg_sl ([.ref (a_m 0), .int x1])).length) Slot.unset).toArray = ls at hl ⊢
  have hl : lv_has ls 2 [(0, .ref (a_m 0)), (1, .int x1)] := hl
  clear hg
  unfold fX7_byteAt at hd
  refine lv_iload_n hx hb dX7_byteAt_0 rfl (lv_at hl 1 rfl) ?_
  refine lv_aload_n hx hb dX7_byteAt_1 rfl (lv_at hl 0 rfl) ?_
  refine rx_get hx hb hts fiX7_byteAt_X7 hown hK hP 0 rfl rfl 9 (Nat.le_of_ble_eq_true rfl) fl_168 rfl rfl dX7_byteAt_2 ?_
  refine rx_icmp_ge hx hb 17 dX7_byteAt_5 rfl hd (fun hd => ?_) (fun hd => ?_)
  · refine lv_iconst (v := -1) hx hb dX7_byteAt_17 ki_m1 ?_
    exact rx_retRi hx hb hr hlocks hd dX7_byteAt_18
  refine lv_aload_n hx hb dX7_byteAt_8 rfl (lv_at hl 0 rfl) ?_
  refine rx_get hx hb hts fiX7_byteAt_X7 hown hK hP 0 rfl rfl 8 (Nat.le_of_ble_eq_true rfl) fl_28 rfl rfl dX7_byteAt_9 ?_
  refine lv_iload_n hx hb dX7_byteAt_12 rfl (lv_at hl 1 rfl) ?_
  refine rx_iald hx hb hK hP 7 0 rfl rfl hd dX7_byteAt_13 (fun v13 hd => ?_)
  refine lv_goto (tgt := 18) hx hb dX7_byteAt_14 rfl ?_
  exact rx_retRi hx hb hr hlocks hd dX7_byteAt_18
set_option maxHeartbeats 8000000 in
set_option maxRecDepth 100000 in
theorem c_X7_isLetter (l : Launch) (dC : Nat → ClassId) (dI : Nat → Nat → Nat) (cI cJ cQ : ClassId) (fu : Nat)   (x0 : Int32) (r : Int32) (hd : fX7_isLetter fu   x0 = some r) : mRi l yX7_isLetter wsX7_isLetter (gRm 1 25) [.int x0] (cq_R (dC, dI) vwCl (gty cI cJ cQ) ([] : va_W)) r := by
  refine Met.ofW (cc := cX7_isLetter) (maxL := 1) (ret := (some .boolean)) (by decide) rfl ?_
  intro p e s m args below meth c s₁ B hml hv
  obtain ⟨hav, hP, hK⟩ := hv
  have hx := B.exec
  have hb := B.bytes
  have hr := B.returns
  have hts := atoms_spec (ws := wsX7_isLetter) B.pre
  have hown : s.vm.findClass RX7 = some m.cls := findClass_of_methodNamed B.named
  have hlocks := B.notSynchronized
  have hcf : CallFix p m c cX7_isLetter 1 s args wsX7_isLetter RX7 := ⟨hx, hb, hml, hown, hts⟩
  have kc_171 := hts (.constantLong RX7 171 (97)) (List.mem_of_getElem? (i := 1) rfl)
  have kc_173 := hts (.constantLong RX7 173 (122)) (List.mem_of_getElem? (i := 2) rfl)
  have hg : entryFrame m args 1 = entryFrame m ([.int x0] : List Value).toArray 1 := by rw [hav]
  rw [hg, lg_entry_eq]
  have hl := lv_entry ([.int x0]) (n := 1) (Nat.le_of_ble_eq_true rfl)
  generalize (lg_sl ([.int x0]) ++ List.replicate (1 - (lg_sl ([.int x0])).length) Slot.unset).toArray = ls at hl ⊢
  have hl : lv_has ls 1 [(0, .int x0)] := hl
  clear hg
  unfold fX7_isLetter at hd
  refine lv_iload_n hx hb dX7_isLetter_0 rfl (lv_at hl 0 rfl) ?_
  refine lv_i2l hx hb dX7_isLetter_1 rfl ?_
  refine lv_ldc2 hx hb hown kc_171 dX7_isLetter_2 ?_
  refine lv_ldc2 hx hb hown kc_173 dX7_isLetter_5 ?_
  refine rx_roi hd (fun v hv => W.runS (As := [.long (Int32.toInt64 x0), .long (97 : Int64), .long (122 : Int64)]) (rest := []) hcf (c_X7_in l dC dI cI cJ cQ fu    (Int32.toInt64 x0) (97 : Int64) (122 : Int64) v hv) (va_cwS 3 hts gX7_isLetter_X7_in rfl rfl rfl cd_X7_in ⟨(Nat.le_of_ble_eq_true rfl), (Nat.le_of_ble_eq_true rfl)⟩) (cq_R_S hK hP [] rfl) rfl rfl hl.1 rfl (lv_room (Nat.le_of_ble_eq_true rfl)) dX7_isLetter_8 ⟨Nat.le_refl _, Nat.le_refl _⟩) (fun u8 hd => ?_)
  exact rx_retRz hx hb hr hlocks hd dX7_isLetter_11
