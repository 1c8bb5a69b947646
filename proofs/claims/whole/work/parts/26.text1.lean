theorem fiX2_readDeeds_X1 : ∀ w ∈ wsX10, w ∈ wsX2_readDeeds := mem_r _ [21, 22, 23, 24, 25, 26, 27, 28, 29, 30, 31, 32] rfl
theorem fiX2_readDeeds_X2 : ∀ w ∈ wsX20, w ∈ wsX2_readDeeds := mem_r _ [20] rfl
set_option maxHeartbeats 8000000 in
set_option maxRecDepth 100000 in
theorem c_X2_readDeeds (l : Launch) (dC : Nat → ClassId) (dI : Nat → Nat → Nat) (cI cJ cQ : ClassId) (fu : Nat) (a_x a_z : Nat → Nat) (a_h : Nat → Nat) (sz : Nat) (s_z : TKS) (s_h : PS) (x2 : Int32) (r : Int32 × TKS × PS) (hd : fX2_readDeeds fu  s_z s_h x2 = some r) : mUi l yX2_readDeeds wsX2_readDeeds (gRm 2 42) [.ref (a_x 0), .ref (a_h 0), .int x2] (dC, dI) vwCl (gty cI cJ cQ) (wTX a_x a_z ++ (wTK cI cJ a_z s_z ++ (wP cI cJ a_h s_h))) sz (fun u : TKS × PS => (wTX a_x a_z ++ (wTK cI cJ a_z u.1 ++ (wP cI cJ a_h u.2)))) r := by
  refine Met.ofW (cc := cX2_readDeeds) (maxL := 5) (ret := (some .boolean)) (by decide) rfl ?_
  intro p e s m args below meth c s₁ B hml hv
  obtain ⟨hav, hsz, hP, hK, hD0⟩ := hv
  subst hsz
  have hD := hD0.self (sz := s.heap.size)
  generalize hAe : va_A (wTX a_x a_z ++ (wTK cI cJ a_z s_z ++ (wP cI cJ a_h s_h))) s.heap.size = A at hD ⊢
  have hA : ∀ q : Nat, s.heap.size ≤ q → A q := fun q h => by rw [← hAe]; exact Or.inr h
  have hS : va_S A s.heap s.heap [] := va_S.rf
  have hx := B.exec
  have hb := B.bytes
  have hr := B.returns
  have hts := atoms_spec (ws := wsX2_readDeeds) B.pre
  have hown : s.vm.findClass RX2 = some m.cls := findClass_of_methodNamed B.named
  have hlocks := B.notSynchronized
  have hcf : CallFix p m c cX2_readDeeds 5 s args wsX2_readDeeds RX2 := ⟨hx, hb, hml, hown, hts⟩
  have fl_10 := hts (.fieldLink RX2 10 "BucketGift$ParishText" "tokens" "LBucketGift$Tokens;") (List.mem_of_getElem? (i := 1) rfl)
  have fl_97 := hts (.fieldLink RX2 97 "BucketGift$Parish" "deeds" "[I") (List.mem_of_getElem? (i := 2) rfl)
  have hg : entryFrame m args 5 = entryFrame m ([.ref (a_x 0), .ref (a_h 0), .int x2] : List Value).toArray 5 := by rw [hav]
  rw [hg, lg_entry_eq]
  have hl := lv_entry ([.ref (a_x 0), .ref (a_h 0), .int x2]) (n := 5) (Nat.le_of_ble_eq_true rfl)
  generalize (lg_sl ([.ref (a_x 0), .ref (a_h 0), .int x2]) ++ List.replicate (5 - (lg_sl ([.ref (a_x 0), .ref (a_h 0), .int x2])).length) Slot.unset).toArray = ls at hl ⊢
  have hl : lv_has ls 5 [(0, .ref (a_x 0)), (1, .ref (a_h 0)), (2, .int x2)] := hl
  clear hg
  unfold fX2_readDeeds at hd
  have b24 : ∀ (x2 : Int32), ∀ (K2 : TKS → PS → Int32 → Option (Int32 × TKS × PS)) (k2 : ∀ (s_z : TKS) (s_h : PS) (x3 : Int32), K2 s_z s_h x3 = some r → bk_U p l e (headSpec wsX2_readDeeds (gRm 2 42)).room s m args below meth c (qUi below args s (dC, dI) vwCl (gty cI cJ cQ) A (fun u : TKS × PS => (wTX a_x a_z ++ (wTK cI cJ a_z u.1 ++ (wP cI cJ a_h u.2)))) r) (dC, dI) vwCl A 5 (wTX a_x a_z ++ (wTK cI cJ a_z s_z ++ (wP cI cJ a_h s_h))) 2 [(0, .ref (a_x 0)), (1, .ref (a_h 0)), (2, .int x2), (3, .int x3)] []), ∀ (s_z : TKS) (s_h : PS) (x3 : Int32), fX2_readDeeds_b24 fu  K2 x2 s_z s_h x3 = some r → bk_U p l e (headSpec wsX2_readDeeds (gRm 2 42)).room s m args below meth c (qUi below args s (dC, dI) vwCl (gty cI cJ cQ) A (fun u : TKS × PS => (wTX a_x a_z ++ (wTK cI cJ a_z u.1 ++ (wP cI cJ a_h u.2)))) r) (dC, dI) vwCl A 5 (wTX a_x a_z ++ (wTK cI cJ a_z s_z ++ (wP cI cJ a_h s_h))) 24 [(0, .ref (a_x 0)), (1, .ref (a_h 0)), (2, .int x2), (3, .int x3)] [] := by
    intro x2
    intro K2 k2
    intro s_z s_h x3 hd
    intro H locs ls hP hD hS hl
    unfold fX2_readDeeds_b24 at hd
    refine lv_aload_n hx hb dX2_readDeeds_24 rfl (lv_at hl 0 rfl) ?_
    refine rx_get hx hb hts fiX2_readDeeds_X2 hown hK hP 0 rfl rfl 0 (Nat.le_of_ble_eq_true rfl) fl_10 rfl rfl dX2_readDeeds_25 ?_
    refine lv_bipush (v := 7) hx hb dX2_readDeeds_28 kb_7 ?_
    refine rx_upi (fun u => (wTX a_x a_z ++ (wTK cI cJ a_z u ++ (wP cI cJ a_h s_h)))) hd hP hD hS hA ⟨[1, 2, 3, 4, 5, 6], [0, 7, 8, 9, 10, 11, 12, 13, 14, 15, 16], [0, 11, 12, 13, 14, 15, 16, 1, 2, 3, 4, 5, 6, 7, 8, 9, 10], wTX a_x a_z ++ (wP cI cJ a_h s_h), rfl, rfl, rfl, by decide, rfl, fun _ => rfl⟩ (fun v hv => va_runV (As := [.int (7 : Int32)]) (rest := []) hcf (c_X5_takeNumber l dC dI cI cJ cQ fu a_z _  s_z (7 : Int32) v hv) (cwV 1 hts gX2_readDeeds_X5_takeNumber rfl rfl rfl cd_X5_takeNumber ⟨(Nat.le_of_ble_eq_true rfl), (Nat.le_of_ble_eq_true rfl)⟩) (cq_U_V (q0 := 1) (ci := 4) hK hP hD [1, 2, 3, 4, 5, 6] rfl rfl rfl rfl) rfl rfl hl.1 rfl (lv_room (Nat.le_of_ble_eq_true rfl)) dX2_readDeeds_30 ⟨Nat.le_refl _, Nat.le_refl _⟩) (fun u30 hd H locs hP hD hS => ?_)
    refine lv_istore (lv' := [(4, .int u30.1), (0, .ref (a_x 0)), (1, .ref (a_h 0)), (2, .int x2), (3, .int x3)]) hx hb dX2_readDeeds_33 hl (Nat.le_of_ble_eq_true rfl) rfl (fun ls hl => ?_)
    refine lv_iload hx hb dX2_readDeeds_35 (lv_at hl 0 rfl) ?_
    refine rx_if_ge hx hb 42 dX2_readDeeds_37 rfl hd (fun hd => ?_) (fun hd => ?_)
    · refine lv_aload_n hx hb dX2_readDeeds_42 rfl (lv_at hl 2 rfl) ?_
      refine rx_get hx hb hts fiX2_readDeeds_X1 hown hK hP 7 rfl rfl 9 (Nat.le_of_ble_eq_true rfl) fl_97 rfl rfl dX2_readDeeds_43 ?_
      refine lv_iload_n hx hb dX2_readDeeds_46 rfl (lv_at hl 3 rfl) ?_
      refine lv_dup2_11 hx hb dX2_readDeeds_47 rfl rfl ?_
      refine rx_iald hx hb hK hP 14 0 rfl rfl hd dX2_readDeeds_48 (fun v48 hd => ?_)
      refine lv_iconst (v := 1) hx hb dX2_readDeeds_49 ki_1 ?_
      refine lv_iload hx hb dX2_readDeeds_50 (lv_at hl 0 rfl) ?_
      refine lv_ishl hx hb dX2_readDeeds_52 ?_
      refine lv_ior hx hb dX2_readDeeds_53 ?_
      refine rx_iast (wTX a_x a_z ++ (wTK cI cJ a_z u30.2 ++ (wP cI cJ a_h (puDeeds s_h (Int32.toNatClampNeg x2) (v48 ||| ((1 : Int32) <<< (u30.1 &&& (31 : Int32)))))))) hx hb hK hP hD hS 14 0 rfl rfl hd (g_setR (j := 13) rfl (g_setR (j := 7) rfl (wP_uDeeds ..))) dX2_readDeeds_54 (fun hd H locs hP hD hS => ?_)
      refine rx_iinc (lv' := fun z => (3, .int z) :: [(4, .int u30.1), (0, .ref (a_x 0)), (1, .ref (a_h 0)), (2, .int x2)]) hx hb (j := 4) dX2_readDeeds_55 hl rfl ki_1 hd (Nat.le_of_ble_eq_true rfl) (fun _ => rfl) (fun x3_55 hd ls hl => ?_)
      refine lv_goto (tgt := 2) hx hb dX2_readDeeds_58 rfl ?_
      exact k2 u30.2 (puDeeds s_h (Int32.toNatClampNeg x2) (v48 ||| ((1 : Int32) <<< (u30.1 &&& (31 : Int32))))) x3_55 hd _ _ _ hP hD hS (lv_sub hl [2, 3, 4, 0] rfl)
    refine lv_iconst (v := 0) hx hb dX2_readDeeds_40 ki_0 ?_
    exact rx_retUz (u := (u30.2, s_h)) (w1 := (fun u : TKS × PS => (wTX a_x a_z ++ (wTK cI cJ a_z u.1 ++ (wP cI cJ a_h u.2))))) hx hb hr hlocks hd hK hP hD hS dX2_readDeeds_41
  have b2 : ∀ (x2 : Int32) (s_z : TKS) (s_h : PS) (x3 : Int32), fX2_readDeeds_b2 fu    x2 s_z s_h x3 = some r → bk_U p l e (headSpec wsX2_readDeeds (gRm 2 42)).room s m args below meth c (qUi below args s (dC, dI) vwCl (gty cI cJ cQ) A (fun u : TKS × PS => (wTX a_x a_z ++ (wTK cI cJ a_z u.1 ++ (wP cI cJ a_h u.2)))) r) (dC, dI) vwCl A 5 (wTX a_x a_z ++ (wTK cI cJ a_z s_z ++ (wP cI cJ a_h s_h))) 2 [(0, .ref (a_x 0)), (1, .ref (a_h 0)), (2, .int x2), (3, .int x3)] [] := by
    intro x2
    have L : ∀ (n : Nat) (s_z : TKS) (s_h : PS) (x3 : Int32), g_lp (fun _ _ _ => none) (fX2_readDeeds_b2B fu    x2) n s_z s_h x3 = some r → bk_U p l e (headSpec wsX2_readDeeds (gRm 2 42)).room s m args below meth c (qUi below args s (dC, dI) vwCl (gty cI cJ cQ) A (fun u : TKS × PS => (wTX a_x a_z ++ (wTK cI cJ a_z u.1 ++ (wP cI cJ a_h u.2)))) r) (dC, dI) vwCl A 5 (wTX a_x a_z ++ (wTK cI cJ a_z s_z ++ (wP cI cJ a_h s_h))) 2 [(0, .ref (a_x 0)), (1, .ref (a_h 0)), (2, .int x2), (3, .int x3)] [] := by
      intro n
      induction n with
      | zero => intro s_z s_h x3 hd; exact absurd hd (by intro h; cases h)
      | succ n k2 =>
        intro s_z s_h x3 hd
        intro H locs ls hP hD hS hl
        have hd : fX2_readDeeds_b2B fu    x2 (g_lp (fun _ _ _ => none) (fX2_readDeeds_b2B fu    x2) n) s_z s_h x3 = some r := hd
        unfold fX2_readDeeds_b2B at hd
        refine lv_iload_n hx hb dX2_readDeeds_2 rfl (lv_at hl 3 rfl) ?_
        refine lv_iconst (v := 4) hx hb dX2_readDeeds_3 ki_4 ?_
        refine rx_icmp_ge hx hb 61 dX2_readDeeds_4 rfl hd (fun hd => ?_) (fun hd => ?_)
        · refine lv_iconst (v := 1) hx hb dX2_readDeeds_61 ki_1 ?_
          exact rx_retUz (u := (s_z, s_h)) (w1 := (fun u : TKS × PS => (wTX a_x a_z ++ (wTK cI cJ a_z u.1 ++ (wP cI cJ a_h u.2))))) hx hb hr hlocks hd hK hP hD hS dX2_readDeeds_62
        refine lv_iload_n hx hb dX2_readDeeds_7 rfl (lv_at hl 3 rfl) ?_
        refine rx_if_le hx hb 24 dX2_readDeeds_8 rfl hd (fun hd => ?_) (fun hd => ?_)
        · exact b24 x2 _ k2 s_z s_h x3 hd _ _ _ hP hD hS (lv_sub hl [0, 1, 2, 3] rfl)
        refine lv_aload_n hx hb dX2_readDeeds_11 rfl (lv_at hl 0 rfl) ?_
        refine rx_get hx hb hts fiX2_readDeeds_X2 hown hK hP 0 rfl rfl 0 (Nat.le_of_ble_eq_true rfl) fl_10 rfl rfl dX2_readDeeds_12 ?_
        refine lv_iconst (v := 2) hx hb dX2_readDeeds_15 ki_2 ?_
        refine rx_roi hd (fun v hv => W.runV (As := [.int (2 : Int32)]) (rest := []) hcf (c_X5_isAt l dC dI cI cJ cQ fu a_z  s_z (2 : Int32) v hv) (cwV 1 hts gX2_readDeeds_X5_isAt rfl rfl rfl cd_X5_isAt ⟨(Nat.le_of_ble_eq_true rfl), (Nat.le_of_ble_eq_true rfl)⟩) (cq_R_V (q0 := 1) (ci := 4) hK hP [1, 2, 3, 4, 5, 6] rfl rfl rfl) rfl rfl hl.1 rfl (lv_room (Nat.le_of_ble_eq_true rfl)) dX2_readDeeds_16 ⟨Nat.le_refl _, Nat.le_refl _⟩) (fun u16 hd => ?_)
        refine rx_if_ne hx hb 24 dX2_readDeeds_19 rfl hd (fun hd => ?_) (fun hd => ?_)
        · exact b24 x2 _ k2 s_z s_h x3 hd _ _ _ hP hD hS (lv_sub hl [0, 1, 2, 3] rfl)
        refine lv_iconst (v := 1) hx hb dX2_readDeeds_22 ki_1 ?_
        exact rx_retUz (u := (s_z, s_h)) (w1 := (fun u : TKS × PS => (wTX a_x a_z ++ (wTK cI cJ a_z u.1 ++ (wP cI cJ a_h u.2))))) hx hb hr hlocks hd hK hP hD hS dX2_readDeeds_23
    exact fun s_z s_h x3 => L fu s_z s_h x3
  refine lv_iconst (v := 0) hx hb dX2_readDeeds_0 ki_0 ?_
  refine lv_istore_n (lv' := [(3, .int (0 : Int32)), (0, .ref (a_x 0)), (1, .ref (a_h 0)), (2, .int x2)]) hx hb dX2_readDeeds_1 rfl hl (Nat.le_of_ble_eq_true rfl) rfl (fun ls hl => ?_)
  exact b2   x2 s_z s_h (0 : Int32) hd _ _ _ hP hD hS (lv_sub hl [1, 2, 3, 0] rfl)
theorem fiX2_readNumber_X2 : ∀ w ∈ wsX20, w ∈ wsX2_readNumber := mem_r _ [15] rfl
set_option maxHeartbeats 8000000 in
set_option maxRecDepth 100000 in
theorem c_X2_readNumber (l : Launch) (dC : Nat → ClassId) (dI : Nat → Nat → Nat) (cI cJ cQ : ClassId) (fu : Nat) (a_x a_z : Nat → Nat) (a_i n_i : Nat) (sz : Nat) (s_z : TKS) (s_i : (Nat → Int32)) (x2 : Int32) (x3 : Int32) (r : Int32 × TKS × (Nat → Int32)) (hd : fX2_readNumber fu n_i s_z s_i x2 x3 = some r) : mUi l yX2_readNumber wsX2_readNumber (gRm 2 42) [.ref (a_x 0), .ref a_i, .int x2, .int x3] (dC, dI) vwCl (gty cI cJ cQ) (wTX a_x a_z ++ (wTK cI cJ a_z s_z ++ (wI cI a_i n_i s_i))) sz (fun u : TKS × (Nat → Int32) => (wTX a_x a_z ++ (wTK cI cJ a_z u.1 ++ (wI cI a_i n_i u.2)))) r := by
  refine Met.ofW (cc := cX2_readNumber) (maxL := 5) (ret := (some .boolean)) (by decide) rfl ?_
  intro p e s m args below meth c s₁ B hml hv
  obtain ⟨hav, hsz, hP, hK, hD0⟩ := hv
  subst hsz
  have hD := hD0.self (sz := s.heap.size)
  generalize hAe : va_A (wTX a_x a_z ++ (wTK cI cJ a_z s_z ++ (wI cI a_i n_i s_i))) s.heap.size = A at hD ⊢
  have hA : ∀ q : Nat, s.heap.size ≤ q → A q := fun q h => by rw [← hAe]; exact Or.inr h
  have hS : va_S A s.heap s.heap [] := va_S.rf
  have hx := B.exec
  have hb := B.bytes
  have hr := B.returns
  have hts := atoms_spec (ws := wsX2_readNumber) B.pre
  have hown : s.vm.findClass RX2 = some m.cls := findClass_of_methodNamed B.named
  have hlocks := B.notSynchronized
  have hcf : CallFix p m c cX2_readNumber 5 s args wsX2_readNumber RX2 := ⟨hx, hb, hml, hown, hts⟩
  have fl_10 := hts (.fieldLink RX2 10 "BucketGift$ParishText" "tokens" "LBucketGift$Tokens;") (List.mem_of_getElem? (i := 1) rfl)
  have hg : entryFrame m args 5 = entryFrame m ([.ref (a_x 0), .ref a_i, .int x2, .int x3] : List Value).toArray 5 := by rw [hav]
  rw [hg, lg_entry_eq]
  have hl := lv_entry ([.ref (a_x 0), .ref a_i, .int x2, .int x3]) (n := 5) (Nat.le_of_ble_eq_true rfl)
  generalize (lg_sl ([.ref (a_x 0), .ref a_i, .int x2, .int x3]) ++ List.replicate (5 - (lg_sl ([.ref (a_x 0), .ref a_i, .int x2, .int x3])).length) Slot.unset).toArray = ls at hl ⊢
  have hl : lv_has ls 5 [(0, .ref (a_x 0)), (1, .ref a_i), (2, .int x2), (3, .int x3)] := hl
  clear hg
  unfold fX2_readNumber at hd
  refine lv_aload_n hx hb dX2_readNumber_0 rfl (lv_at hl 0 rfl) ?_
  refine rx_get hx hb hts fiX2_readNumber_X2 hown hK hP 0 rfl rfl 0 (Nat.le_of_ble_eq_true rfl) fl_10 rfl rfl dX2_readNumber_1 ?_
  refine lv_iload_n hx hb dX2_readNumber_4 rfl (lv_at hl 3 rfl) ?_
  refine rx_upi (fun u => (wTX a_x a_z ++ (wTK cI cJ a_z u ++ (wI cI a_i n_i s_i)))) hd hP hD hS hA ⟨[1, 2, 3, 4, 5, 6], [0, 7], [0, 2, 3, 4, 5, 6, 7, 1], wTX a_x a_z ++ (wI cI a_i n_i s_i), rfl, rfl, rfl, by decide, rfl, fun _ => rfl⟩ (fun v hv => va_runV (As := [.int x3]) (rest := []) hcf (c_X5_takeNumber l dC dI cI cJ cQ fu a_z _  s_z x3 v hv) (cwV 1 hts gX2_readNumber_X5_takeNumber rfl rfl rfl cd_X5_takeNumber ⟨(Nat.le_of_ble_eq_true rfl), (Nat.le_of_ble_eq_true rfl)⟩) (cq_U_V (q0 := 1) (ci := 4) hK hP hD [1, 2, 3, 4, 5, 6] rfl rfl rfl rfl) rfl rfl hl.1 rfl (lv_room (Nat.le_of_ble_eq_true rfl)) dX2_readNumber_5 ⟨Nat.le_refl _, Nat.le_refl _⟩) (fun u5 hd H locs hP hD hS => ?_)
  refine lv_istore (lv' := [(4, .int u5.1), (0, .ref (a_x 0)), (1, .ref a_i), (2, .int x2), (3, .int x3)]) hx hb dX2_readNumber_8 hl (Nat.le_of_ble_eq_true rfl) rfl (fun ls hl => ?_)
  refine lv_iload hx hb dX2_readNumber_10 (lv_at hl 0 rfl) ?_
  refine rx_if_ge hx hb 17 dX2_readNumber_12 rfl hd (fun hd => ?_) (fun hd => ?_)
  · refine lv_aload_n hx hb dX2_readNumber_17 rfl (lv_at hl 2 rfl) ?_
    refine lv_iload_n hx hb dX2_readNumber_18 rfl (lv_at hl 3 rfl) ?_
    refine lv_iload hx hb dX2_readNumber_19 (lv_at hl 0 rfl) ?_
    refine rx_iast (wTX a_x a_z ++ (wTK cI cJ a_z u5.2 ++ (wI cI a_i n_i (upd s_i (Int32.toNatClampNeg x2) u5.1)))) hx hb hK hP hD hS 7 0 rfl rfl hd (g_setR (j := 6) rfl (g_setR (j := 0) rfl rfl)) dX2_readNumber_21 (fun hd H locs hP hD hS => ?_)
    refine lv_iconst (v := 1) hx hb dX2_readNumber_22 ki_1 ?_
    exact rx_retUz (u := (u5.2, (upd s_i (Int32.toNatClampNeg x2) u5.1))) (w1 := (fun u : TKS × (Nat → Int32) => (wTX a_x a_z ++ (wTK cI cJ a_z u.1 ++ (wI cI a_i n_i u.2))))) hx hb hr hlocks hd hK hP hD hS dX2_readNumber_23
  refine lv_iconst (v := 0) hx hb dX2_readNumber_15 ki_0 ?_
  exact rx_retUz (u := (u5.2, s_i)) (w1 := (fun u : TKS × (Nat → Int32) => (wTX a_x a_z ++ (wTK cI cJ a_z u.1 ++ (wI cI a_i n_i u.2))))) hx hb hr hlocks hd hK hP hD hS dX2_readNumber_16
theorem fiX2_readPerson_X1 : ∀ w ∈ wsX10, w ∈ wsX2_readPerson := mem_r _ [103, 104, 105, 106, 107, 108, 109, 110, 111, 112, 113, 114] rfl
theorem fiX2_readPerson_X2 : ∀ w ∈ wsX20, w ∈ wsX2_readPerson := mem_r _ [102] rfl
set_option maxHeartbeats 8000000 in
set_option maxRecDepth 100000 in
theorem c_X2_readPerson (l : Launch) (dC : Nat → ClassId) (dI : Nat → Nat → Nat) (cI cJ cQ : ClassId) (fu : Nat) (gz : GZ) (a_x a_z : Nat → Nat) (a_h : Nat → Nat) (sz : Nat) (s_z : TKS) (s_h : PS) (x2 : Int32) (r : Int32 × TKS × PS) (hd : fX2_readPerson fu  s_z s_h x2 = some r) : mUiG l yX2_readPerson wsX2_readPerson (gRm 7 150) [.ref (a_x 0), .ref (a_h 0), .int x2] (dC, dI) vwCl (gty cI cJ cQ) (wTX a_x a_z ++ (wTK cI cJ a_z s_z ++ (wP cI cJ a_h s_h))) sz gz (fun u : TKS × PS => (wTX a_x a_z ++ (wTK cI cJ a_z u.1 ++ (wP cI cJ a_h u.2)))) r := by
  refine Met.ofW (cc := cX2_readPerson) (maxL := 4) (ret := (some .boolean)) (by decide) rfl ?_
  intro p e s m args below meth c s₁ B hml hv
  obtain ⟨hav, ⟨hsz, hP, hK, hD0⟩, hG⟩ := hv
  subst hsz
  have hD := hD0.self (sz := s.heap.size)
  generalize hAe : va_A (wTX a_x a_z ++ (wTK cI cJ a_z s_z ++ (wP cI cJ a_h s_h))) s.heap.size = A at hD hG ⊢
  have hA : ∀ q : Nat, s.heap.size ≤ q → A q := fun q h => by rw [← hAe]; exact Or.inr h
  have hS : va_S A s.heap s.heap [] := va_S.rf
  have hx := B.exec
  have hb := B.bytes
  have hr := B.returns
  have hts := atoms_spec (ws := wsX2_readPerson) B.pre
  have hown : s.vm.findClass RX2 = some m.cls := findClass_of_methodNamed B.named
  have hlocks := B.notSynchronized
  have hcf : CallFix p m c cX2_readPerson 4 s args wsX2_readPerson RX2 := ⟨hx, hb, hml, hown, hts⟩
  have fl_10 := hts (.fieldLink RX2 10 "BucketGift$ParishText" "tokens" "LBucketGift$Tokens;") (List.mem_of_getElem? (i := 1) rfl)
  have fl_90 := hts (.fieldLink RX2 90 "BucketGift$Parish" "steps" "[I") (List.mem_of_getElem? (i := 2) rfl)
  have fl_93 := hts (.fieldLink RX2 93 "BucketGift$Parish" "people" "I") (List.mem_of_getElem? (i := 3) rfl)
  have hg : entryFrame m args 4 = entryFrame m ([.ref (a_x 0), .ref (a_h 0), .int x2] : List Value).toArray 4 := by rw [hav]
  rw [hg, lg_entry_eq]
  have hl := lv_entry ([.ref (a_x 0), .ref (a_h 0), .int x2]) (n := 4) (Nat.le_of_ble_eq_true rfl)
  generalize (lg_sl ([.ref (a_x 0), .ref (a_h 0), .int x2]) ++ List.replicate (4 - (lg_sl ([.ref (a_x 0), .ref (a_h 0), .int x2])).length) Slot.unset).toArray = ls at hl ⊢
  have hl : lv_has ls 4 [(0, .ref (a_x 0)), (1, .ref (a_h 0)), (2, .int x2)] := hl
  clear hg
  unfold fX2_readPerson at hd
  have b42 : ∀ (s_z : TKS) (s_h : PS) (x3 : Int32), fX2_readPerson_b42 fu    s_z s_h x3 = some r → bk_U p l e (headSpec wsX2_readPerson (gRm 7 150)).room s m args below meth c (qUi below args s (dC, dI) vwCl (gty cI cJ cQ) A (fun u : TKS × PS => (wTX a_x a_z ++ (wTK cI cJ a_z u.1 ++ (wP cI cJ a_h u.2)))) r) (dC, dI) vwCl A 4 (wTX a_x a_z ++ (wTK cI cJ a_z s_z ++ (wP cI cJ a_h s_h))) 42 [(0, .ref (a_x 0)), (1, .ref (a_h 0)), (3, .int x3)] [] := by
    intro s_z s_h x3 hd
    intro H locs ls hP hD hS hl
    unfold fX2_readPerson_b42 at hd
    refine lv_aload_n hx hb dX2_readPerson_42 rfl (lv_at hl 0 rfl) ?_
    refine rx_get hx hb hts fiX2_readPerson_X2 hown hK hP 0 rfl rfl 0 (Nat.le_of_ble_eq_true rfl) fl_10 rfl rfl dX2_readPerson_43 ?_
    refine va_ldcS hx hb hown (hG.2.2.2.2.2.2.1 10 (by decide)) dX2_readPerson_46 ?_
    refine rx_upi (fun u => (wTX a_x a_z ++ (wTK cI cJ a_z u ++ (wP cI cJ a_h s_h)))) hd hP hD hS hA ⟨[1, 2, 3, 4, 5, 6], [0, 7, 8, 9, 10, 11, 12, 13, 14, 15, 16], [0, 11, 12, 13, 14, 15, 16, 1, 2, 3, 4, 5, 6, 7, 8, 9, 10], wTX a_x a_z ++ (wP cI cJ a_h s_h), rfl, rfl, rfl, by decide, rfl, fun _ => rfl⟩ (fun v hv => va_runV (As := [.ref (gz.2.2.1 10)]) (rest := []) hcf (c_X5_takesWord l dC dI cI cJ cQ fu gz a_z _ 10 s_z  v hv) (cwV 1 hts gX2_readPerson_X5_takesWord rfl rfl rfl cd_X5_takesWord ⟨(Nat.le_of_ble_eq_true rfl), (Nat.le_of_ble_eq_true rfl)⟩) (cq_UG_V (q0 := 1) (ci := 4) hG hS hA hK hP hD [1, 2, 3, 4, 5, 6] rfl rfl rfl rfl) rfl rfl hl.1 rfl (lv_room (Nat.le_of_ble_eq_true rfl)) dX2_readPerson_48 ⟨Nat.le_refl _, Nat.le_refl _⟩) (fun u48 hd H locs hP hD hS => ?_)
    refine rx_if_eq hx hb 72 dX2_readPerson_51 rfl hd (fun hd => ?_) (fun hd => ?_)
    · refine lv_iconst (v := 1) hx hb dX2_readPerson_72 ki_1 ?_
      refine lv_goto (tgt := 77) hx hb dX2_readPerson_73 rfl ?_
      exact rx_retUz (u := (u48.2, s_h)) (w1 := (fun u : TKS × PS => (wTX a_x a_z ++ (wTK cI cJ a_z u.1 ++ (wP cI cJ a_h u.2))))) hx hb hr hlocks hd hK hP hD hS dX2_readPerson_77
    refine lv_aload_n hx hb dX2_readPerson_54 rfl (lv_at hl 0 rfl) ?_
    refine lv_aload_n hx hb dX2_readPerson_55 rfl (lv_at hl 1 rfl) ?_
    refine rx_get hx hb hts fiX2_readPerson_X1 hown hK hP 7 rfl rfl 10 (Nat.le_of_ble_eq_true rfl) fl_90 rfl rfl dX2_readPerson_56 ?_
    refine lv_iload_n hx hb dX2_readPerson_59 rfl (lv_at hl 2 rfl) ?_
    refine lv_aload_n hx hb dX2_readPerson_60 rfl (lv_at hl 1 rfl) ?_
    refine rx_get hx hb hts fiX2_readPerson_X1 hown hK hP 7 rfl rfl 7 (Nat.le_of_ble_eq_true rfl) fl_93 rfl rfl dX2_readPerson_61 ?_
    refine lv_iconst (v := 1) hx hb dX2_readPerson_64 ki_1 ?_
    refine lv_isub hx hb dX2_readPerson_65 ?_
    refine rx_upi (fun u => (wTX a_x a_z ++ (wTK cI cJ a_z u.1 ++ (wP cI cJ a_h (psSteps s_h u.2))))) hd hP hD hS hA ⟨[0, 1, 2, 3, 4, 5, 6, 15], [7, 8, 9, 10, 11, 12, 13, 14, 16], [9, 10, 11, 12, 13, 14, 15, 0, 1, 2, 3, 4, 5, 6, 7, 16, 8], [((a_h 0), .inr (0, [.ref (a_h 1), .ref (a_h 2), .ref (a_h 3), .ref (a_h 4), .ref (a_h 5), .int (pgDay s_h), .int (pgDryFarms s_h), .int (pgPeople s_h), .ref (a_h 6), .ref (a_h 7), .ref (a_h 8), .ref (a_h 9)])), ((a_h 1), .inl (cI, 4, .inl (pgNeed s_h))), ((a_h 2), .inl (cI, 4, .inl (pgStore s_h))), ((a_h 3), .inl (cI, 4, .inl (pgThirst s_h))), ((a_h 4), .inl (cI, 4, .inl (pgSends s_h))), ((a_h 5), .inl (cI, 3, .inl (pgWater s_h))), ((a_h 6), .inl (cI, 8, .inl (pgKinds s_h))), ((a_h 7), .inl (cI, 8, .inl (pgDeeds s_h))), ((a_h 9), .inl (cI, 8, .inl (pgAsked s_h)))], rfl, rfl, rfl, by decide, rfl, fun _ => rfl⟩ (fun v hv => va_runV (As := [.ref (a_h 8), .int x3, .int ((pgPeople s_h) - (1 : Int32))]) (rest := []) hcf (c_X2_readNumber l dC dI cI cJ cQ fu a_x a_z (a_h 8) 8 _  u48.2 (pgSteps s_h) x3 ((pgPeople s_h) - (1 : Int32)) v hv) (cwV 3 hts gX2_readPerson_X2_readNumber rfl rfl rfl cd_X2_readNumber ⟨(Nat.le_of_ble_eq_true rfl), (Nat.le_of_ble_eq_true rfl)⟩) (cq_U_V (q0 := 0) (ci := 1) hK hP hD [0, 1, 2, 3, 4, 5, 6, 15] rfl rfl rfl rfl) rfl rfl hl.1 rfl (lv_room (Nat.le_of_ble_eq_true rfl)) dX2_readPerson_66 ⟨Nat.le_refl _, Nat.le_refl _⟩) (fun u66 hd H locs hP hD hS => ?_)
    refine rx_if_eq hx hb 76 dX2_readPerson_69 rfl hd (fun hd => ?_) (fun hd => ?_)
    · refine lv_iconst (v := 0) hx hb dX2_readPerson_76 ki_0 ?_
      exact rx_retUz (u := (u66.2.1, (psSteps s_h u66.2.2))) (w1 := (fun u : TKS × PS => (wTX a_x a_z ++ (wTK cI cJ a_z u.1 ++ (wP cI cJ a_h u.2))))) hx hb hr hlocks hd hK hP hD hS dX2_readPerson_77
    refine lv_iconst (v := 1) hx hb dX2_readPerson_72 ki_1 ?_
    refine lv_goto (tgt := 77) hx hb dX2_readPerson_73 rfl ?_
    exact rx_retUz (u := (u66.2.1, (psSteps s_h u66.2.2))) (w1 := (fun u : TKS × PS => (wTX a_x a_z ++ (wTK cI cJ a_z u.1 ++ (wP cI cJ a_h u.2))))) hx hb hr hlocks hd hK hP hD hS dX2_readPerson_77
  refine lv_aload_n hx hb dX2_readPerson_0 rfl (lv_at hl 1 rfl) ?_
  refine lv_iload_n hx hb dX2_readPerson_1 rfl (lv_at hl 2 rfl) ?_
  refine rx_upi (fun u => (wTX a_x a_z ++ (wTK cI cJ a_z s_z ++ (wP cI cJ a_h u)))) hd hP hD hS hA ⟨[7, 8, 9, 10, 11, 12, 13, 14, 15, 16], [0, 1, 2, 3, 4, 5, 6], [0, 1, 2, 3, 4, 5, 6, 7, 8, 9, 10, 11, 12, 13, 14, 15, 16], wTX a_x a_z ++ (wTK cI cJ a_z s_z), rfl, rfl, rfl, by decide, rfl, fun _ => rfl⟩ (fun v hv => va_runV (As := [.int x2]) (rest := []) hcf (c_X1_addPerson l dC dI cI cJ cQ fu a_h _  s_h x2 v hv) (cwV 1 hts gX2_readPerson_X1_addPerson rfl rfl rfl cd_X1_addPerson ⟨(Nat.le_of_ble_eq_true rfl), (Nat.le_of_ble_eq_true rfl)⟩) (cq_U_V (q0 := 7) (ci := 0) hK hP hD [7, 8, 9, 10, 11, 12, 13, 14, 15, 16] rfl rfl rfl rfl) rfl rfl hl.1 rfl (lv_room (Nat.le_of_ble_eq_true rfl)) dX2_readPerson_2 ⟨Nat.le_refl _, Nat.le_refl _⟩) (fun u2 hd H locs hP hD hS => ?_)
  refine lv_istore_n (lv' := [(3, .int u2.1), (0, .ref (a_x 0)), (1, .ref (a_h 0)), (2, .int x2)]) hx hb dX2_readPerson_5 rfl hl (Nat.le_of_ble_eq_true rfl) rfl (fun ls hl => ?_)
  refine lv_iload_n hx hb dX2_readPerson_6 rfl (lv_at hl 0 rfl) ?_
  refine rx_if_ge hx hb 12 dX2_readPerson_7 rfl hd (fun hd => ?_) (fun hd => ?_)
  · refine lv_aload_n hx hb dX2_readPerson_12 rfl (lv_at hl 1 rfl) ?_
    refine rx_get hx hb hts fiX2_readPerson_X2 hown hK hP 0 rfl rfl 0 (Nat.le_of_ble_eq_true rfl) fl_10 rfl rfl dX2_readPerson_13 ?_
    refine rx_upv (fun u => (wTX a_x a_z ++ (wTK cI cJ a_z u ++ (wP cI cJ a_h u2.2)))) hd hP hD hS hA ⟨[1, 2, 3, 4, 5, 6], [0, 7, 8, 9, 10, 11, 12, 13, 14, 15, 16], [0, 11, 12, 13, 14, 15, 16, 1, 2, 3, 4, 5, 6, 7, 8, 9, 10], wTX a_x a_z ++ (wP cI cJ a_h u2.2), rfl, rfl, rfl, by decide, rfl, fun _ => rfl⟩ (fun v hv => va_runV (As := []) (rest := []) hcf (c_X5_goOn l dC dI cI cJ cQ fu a_z _  s_z  v hv) (cwV 0 hts gX2_readPerson_X5_goOn rfl rfl rfl cd_X5_goOn ⟨(Nat.le_of_ble_eq_true rfl), (Nat.le_of_ble_eq_true rfl)⟩) (cq_U_V (q0 := 1) (ci := 4) hK hP hD [1, 2, 3, 4, 5, 6] rfl rfl rfl rfl) rfl rfl hl.1 rfl (lv_room (Nat.le_of_ble_eq_true rfl)) dX2_readPerson_16 ⟨Nat.le_refl _, Nat.le_refl _⟩) (fun u16 hd H locs hP hD hS => ?_)
    refine lv_aload_n hx hb dX2_readPerson_19 rfl (lv_at hl 1 rfl) ?_
    refine rx_get hx hb hts fiX2_readPerson_X2 hown hK hP 0 rfl rfl 0 (Nat.le_of_ble_eq_true rfl) fl_10 rfl rfl dX2_readPerson_20 ?_
    refine va_ldcS hx hb hown (hG.2.2.2.2.2.2.1 9 (by decide)) dX2_readPerson_23 ?_
    refine rx_upi (fun u => (wTX a_x a_z ++ (wTK cI cJ a_z u ++ (wP cI cJ a_h u2.2)))) hd hP hD hS hA ⟨[1, 2, 3, 4, 5, 6], [0, 7, 8, 9, 10, 11, 12, 13, 14, 15, 16], [0, 11, 12, 13, 14, 15, 16, 1, 2, 3, 4, 5, 6, 7, 8, 9, 10], wTX a_x a_z ++ (wP cI cJ a_h u2.2), rfl, rfl, rfl, by decide, rfl, fun _ => rfl⟩ (fun v hv => va_runV (As := [.ref (gz.2.2.1 9)]) (rest := []) hcf (c_X5_takesWord l dC dI cI cJ cQ fu gz a_z _ 9 u16  v hv) (cwV 1 hts gX2_readPerson_X5_takesWord rfl rfl rfl cd_X5_takesWord ⟨(Nat.le_of_ble_eq_true rfl), (Nat.le_of_ble_eq_true rfl)⟩) (cq_UG_V (q0 := 1) (ci := 4) hG hS hA hK hP hD [1, 2, 3, 4, 5, 6] rfl rfl rfl rfl) rfl rfl hl.1 rfl (lv_room (Nat.le_of_ble_eq_true rfl)) dX2_readPerson_25 ⟨Nat.le_refl _, Nat.le_refl _⟩) (fun u25 hd H locs hP hD hS => ?_)
    refine rx_if_eq hx hb 42 dX2_readPerson_28 rfl hd (fun hd => ?_) (fun hd => ?_)
    · exact b42   u25.2 u2.2 u2.1 hd _ _ _ hP hD hS (lv_sub hl [1, 2, 0] rfl)
    refine lv_aload_n hx hb dX2_readPerson_31 rfl (lv_at hl 1 rfl) ?_
    refine lv_aload_n hx hb dX2_readPerson_32 rfl (lv_at hl 2 rfl) ?_
    refine lv_iload_n hx hb dX2_readPerson_33 rfl (lv_at hl 0 rfl) ?_
    refine rx_upi1 hd hD hS hA (fun v hv => va_runV (As := [.ref (a_h 0), .int u2.1]) (rest := []) hcf (c_X2_readDeeds l dC dI cI cJ cQ fu a_x a_z a_h _  u25.2 u2.2 u2.1 v hv) (cwV 2 hts gX2_readPerson_X2_readDeeds rfl rfl rfl cd_X2_readDeeds ⟨(Nat.le_of_ble_eq_true rfl), (Nat.le_of_ble_eq_true rfl)⟩) (cq_U_V1 (q0 := 0) (ci := 1) hK hP hD rfl rfl) rfl rfl hl.1 rfl (lv_room (Nat.le_of_ble_eq_true rfl)) dX2_readPerson_34 ⟨Nat.le_refl _, Nat.le_refl _⟩) (fun u34 hd H locs hP hD hS => ?_)
    refine rx_if_ne hx hb 42 dX2_readPerson_37 rfl hd (fun hd => ?_) (fun hd => ?_)
    · exact b42   u34.2.1 u34.2.2 u2.1 hd _ _ _ hP hD hS (lv_sub hl [1, 2, 0] rfl)
    refine lv_iconst (v := 0) hx hb dX2_readPerson_40 ki_0 ?_
    exact rx_retUz (u := (u34.2.1, u34.2.2)) (w1 := (fun u : TKS × PS => (wTX a_x a_z ++ (wTK cI cJ a_z u.1 ++ (wP cI cJ a_h u.2))))) hx hb hr hlocks hd hK hP hD hS dX2_readPerson_41
  refine lv_iconst (v := 0) hx hb dX2_readPerson_10 ki_0 ?_
  exact rx_retUz (u := (s_z, u2.2)) (w1 := (fun u : TKS × PS => (wTX a_x a_z ++ (wTK cI cJ a_z u.1 ++ (wP cI cJ a_h u.2))))) hx hb hr hlocks hd hK hP hD hS dX2_readPerson_11
theorem fiX2_readFarm_X1 : ∀ w ∈ wsX10, w ∈ wsX2_readFarm := mem_r _ [85, 86, 87, 88, 89, 90, 91, 92, 93, 94, 95, 96] rfl
theorem fiX2_readFarm_X2 : ∀ w ∈ wsX20, w ∈ wsX2_readFarm := mem_r _ [84] rfl
set_option maxHeartbeats 8000000 in
set_option maxRecDepth 100000 in
theorem c_X2_readFarm (l : Launch) (dC : Nat → ClassId) (dI : Nat → Nat → Nat) (cI cJ cQ : ClassId) (fu : Nat) (gz : GZ) (a_x a_z : Nat → Nat) (a_h : Nat → Nat) (sz : Nat) (s_z : TKS) (s_h : PS)  (r : Int32 × TKS × PS) (hd : fX2_readFarm fu  s_z s_h  = some r) : mUiG l yX2_readFarm wsX2_readFarm (gRm 7 150) [.ref (a_x 0), .ref (a_h 0)] (dC, dI) vwCl (gty cI cJ cQ) (wTX a_x a_z ++ (wTK cI cJ a_z s_z ++ (wP cI cJ a_h s_h))) sz gz (fun u : TKS × PS => (wTX a_x a_z ++ (wTK cI cJ a_z u.1 ++ (wP cI cJ a_h u.2)))) r := by
  refine Met.ofW (cc := cX2_readFarm) (maxL := 3) (ret := (some .boolean)) (by decide) rfl ?_
  intro p e s m args below meth c s₁ B hml hv
  obtain ⟨hav, ⟨hsz, hP, hK, hD0⟩, hG⟩ := hv
  subst hsz
  have hD := hD0.self (sz := s.heap.size)
  generalize hAe : va_A (wTX a_x a_z ++ (wTK cI cJ a_z s_z ++ (wP cI cJ a_h s_h))) s.heap.size = A at hD hG ⊢
  have hA : ∀ q : Nat, s.heap.size ≤ q → A q := fun q h => by rw [← hAe]; exact Or.inr h
  have hS : va_S A s.heap s.heap [] := va_S.rf
  have hx := B.exec
  have hb := B.bytes
  have hr := B.returns
  have hts := atoms_spec (ws := wsX2_readFarm) B.pre
  have hown : s.vm.findClass RX2 = some m.cls := findClass_of_methodNamed B.named
  have hlocks := B.notSynchronized
  have hcf : CallFix p m c cX2_readFarm 3 s args wsX2_readFarm RX2 := ⟨hx, hb, hml, hown, hts⟩
  have fl_10 := hts (.fieldLink RX2 10 "BucketGift$ParishText" "tokens" "LBucketGift$Tokens;") (List.mem_of_getElem? (i := 1) rfl)
  have fl_111 := hts (.fieldLink RX2 111 "BucketGift$Parish" "sends" "[I") (List.mem_of_getElem? (i := 4) rfl)
  have fl_93 := hts (.fieldLink RX2 93 "BucketGift$Parish" "people" "I") (List.mem_of_getElem? (i := 5) rfl)
  have fl_106 := hts (.fieldLink RX2 106 "BucketGift$Parish" "store" "[I") (List.mem_of_getElem? (i := 3) rfl)
  have fl_102 := hts (.fieldLink RX2 102 "BucketGift$Parish" "need" "[I") (List.mem_of_getElem? (i := 2) rfl)
  have hg : entryFrame m args 3 = entryFrame m ([.ref (a_x 0), .ref (a_h 0)] : List Value).toArray 3 := by rw [hav]
  rw [hg, lg_entry_eq]
  have hl := lv_entry ([.ref (a_x 0), .ref (a_h 0)]) (n := 3) (Nat.le_of_ble_eq_true rfl)
  generalize (lg_sl ([.ref (a_x 0), .ref (a_h 0)]) ++ List.replicate (3 - (lg_sl ([.ref (a_x 0), .ref (a_h 0)])).length) Slot.unset).toArray = ls at hl ⊢
  have hl : lv_has ls 3 [(0, .ref (a_x 0)), (1, .ref (a_h 0))] := hl
  clear hg
  unfold fX2_readFarm at hd
  have b72 : ∀ (s_z : TKS) (s_h : PS) (x2 : Int32), fX2_readFarm_b72 fu    s_z s_h x2 = some r → bk_U p l e (headSpec wsX2_readFarm (gRm 7 150)).room s m args below meth c (qUi below args s (dC, dI) vwCl (gty cI cJ cQ) A (fun u : TKS × PS => (wTX a_x a_z ++ (wTK cI cJ a_z u.1 ++ (wP cI cJ a_h u.2)))) r) (dC, dI) vwCl A 3 (wTX a_x a_z ++ (wTK cI cJ a_z s_z ++ (wP cI cJ a_h s_h))) 72 [(0, .ref (a_x 0)), (1, .ref (a_h 0)), (2, .int x2)] [] := by
    intro s_z s_h x2 hd
    intro H locs ls hP hD hS hl
    unfold fX2_readFarm_b72 at hd
    refine lv_aload_n hx hb dX2_readFarm_72 rfl (lv_at hl 0 rfl) ?_
    refine rx_get hx hb hts fiX2_readFarm_X2 hown hK hP 0 rfl rfl 0 (Nat.le_of_ble_eq_true rfl) fl_10 rfl rfl dX2_readFarm_73 ?_
    refine va_ldcS hx hb hown (hG.2.2.2.2.2.2.1 13 (by decide)) dX2_readFarm_76 ?_
    refine rx_upi (fun u => (wTX a_x a_z ++ (wTK cI cJ a_z u ++ (wP cI cJ a_h s_h)))) hd hP hD hS hA ⟨[1, 2, 3, 4, 5, 6], [0, 7, 8, 9, 10, 11, 12, 13, 14, 15, 16], [0, 11, 12, 13, 14, 15, 16, 1, 2, 3, 4, 5, 6, 7, 8, 9, 10], wTX a_x a_z ++ (wP cI cJ a_h s_h), rfl, rfl, rfl, by decide, rfl, fun _ => rfl⟩ (fun v hv => va_runV (As := [.ref (gz.2.2.1 13)]) (rest := []) hcf (c_X5_takesWord l dC dI cI cJ cQ fu gz a_z _ 13 s_z  v hv) (cwV 1 hts gX2_readFarm_X5_takesWord rfl rfl rfl cd_X5_takesWord ⟨(Nat.le_of_ble_eq_true rfl), (Nat.le_of_ble_eq_true rfl)⟩) (cq_UG_V (q0 := 1) (ci := 4) hG hS hA hK hP hD [1, 2, 3, 4, 5, 6] rfl rfl rfl rfl) rfl rfl hl.1 rfl (lv_room (Nat.le_of_ble_eq_true rfl)) dX2_readFarm_78 ⟨Nat.le_refl _, Nat.le_refl _⟩) (fun u78 hd H locs hP hD hS => ?_)
    refine rx_if_eq hx hb 102 dX2_readFarm_81 rfl hd (fun hd => ?_) (fun hd => ?_)
    · refine lv_iconst (v := 1) hx hb dX2_readFarm_102 ki_1 ?_
      refine lv_goto (tgt := 107) hx hb dX2_readFarm_103 rfl ?_
      exact rx_retUz (u := (u78.2, s_h)) (w1 := (fun u : TKS × PS => (wTX a_x a_z ++ (wTK cI cJ a_z u.1 ++ (wP cI cJ a_h u.2))))) hx hb hr hlocks hd hK hP hD hS dX2_readFarm_107
    refine lv_aload_n hx hb dX2_readFarm_84 rfl (lv_at hl 0 rfl) ?_
    refine lv_aload_n hx hb dX2_readFarm_85 rfl (lv_at hl 1 rfl) ?_
    refine rx_get hx hb hts fiX2_readFarm_X1 hown hK hP 7 rfl rfl 3 (Nat.le_of_ble_eq_true rfl) fl_111 rfl rfl dX2_readFarm_86 ?_
    refine lv_iload_n hx hb dX2_readFarm_89 rfl (lv_at hl 2 rfl) ?_
    refine lv_aload_n hx hb dX2_readFarm_90 rfl (lv_at hl 1 rfl) ?_
    refine rx_get hx hb hts fiX2_readFarm_X1 hown hK hP 7 rfl rfl 7 (Nat.le_of_ble_eq_true rfl) fl_93 rfl rfl dX2_readFarm_91 ?_
    refine lv_iconst (v := 1) hx hb dX2_readFarm_94 ki_1 ?_
    refine lv_isub hx hb dX2_readFarm_95 ?_
    refine rx_upi (fun u => (wTX a_x a_z ++ (wTK cI cJ a_z u.1 ++ (wP cI cJ a_h (psSends s_h u.2))))) hd hP hD hS hA ⟨[0, 1, 2, 3, 4, 5, 6, 11], [7, 8, 9, 10, 12, 13, 14, 15, 16], [9, 10, 11, 12, 13, 14, 15, 0, 1, 2, 3, 16, 4, 5, 6, 7, 8], [((a_h 0), .inr (0, [.ref (a_h 1), .ref (a_h 2), .ref (a_h 3), .ref (a_h 4), .ref (a_h 5), .int (pgDay s_h), .int (pgDryFarms s_h), .int (pgPeople s_h), .ref (a_h 6), .ref (a_h 7), .ref (a_h 8), .ref (a_h 9)])), ((a_h 1), .inl (cI, 4, .inl (pgNeed s_h))), ((a_h 2), .inl (cI, 4, .inl (pgStore s_h))), ((a_h 3), .inl (cI, 4, .inl (pgThirst s_h))), ((a_h 5), .inl (cI, 3, .inl (pgWater s_h))), ((a_h 6), .inl (cI, 8, .inl (pgKinds s_h))), ((a_h 7), .inl (cI, 8, .inl (pgDeeds s_h))), ((a_h 8), .inl (cI, 8, .inl (pgSteps s_h))), ((a_h 9), .inl (cI, 8, .inl (pgAsked s_h)))], rfl, rfl, rfl, by decide, rfl, fun _ => rfl⟩ (fun v hv => va_runV (As := [.ref (a_h 4), .int x2, .int ((pgPeople s_h) - (1 : Int32))]) (rest := []) hcf (c_X2_readNumber l dC dI cI cJ cQ fu a_x a_z (a_h 4) 4 _  u78.2 (pgSends s_h) x2 ((pgPeople s_h) - (1 : Int32)) v hv) (cwV 3 hts gX2_readFarm_X2_readNumber rfl rfl rfl cd_X2_readNumber ⟨(Nat.le_of_ble_eq_true rfl), (Nat.le_of_ble_eq_true rfl)⟩) (cq_U_V (q0 := 0) (ci := 1) hK hP hD [0, 1, 2, 3, 4, 5, 6, 11] rfl rfl rfl rfl) rfl rfl hl.1 rfl (lv_room (Nat.le_of_ble_eq_true rfl)) dX2_readFarm_96 ⟨Nat.le_refl _, Nat.le_refl _⟩) (fun u96 hd H locs hP hD hS => ?_)
    refine rx_if_eq hx hb 106 dX2_readFarm_99 rfl hd (fun hd => ?_) (fun hd => ?_)
    · refine lv_iconst (v := 0) hx hb dX2_readFarm_106 ki_0 ?_
      exact rx_retUz (u := (u96.2.1, (psSends s_h u96.2.2))) (w1 := (fun u : TKS × PS => (wTX a_x a_z ++ (wTK cI cJ a_z u.1 ++ (wP cI cJ a_h u.2))))) hx hb hr hlocks hd hK hP hD hS dX2_readFarm_107
    refine lv_iconst (v := 1) hx hb dX2_readFarm_102 ki_1 ?_
    refine lv_goto (tgt := 107) hx hb dX2_readFarm_103 rfl ?_
    exact rx_retUz (u := (u96.2.1, (psSends s_h u96.2.2))) (w1 := (fun u : TKS × PS => (wTX a_x a_z ++ (wTK cI cJ a_z u.1 ++ (wP cI cJ a_h u.2))))) hx hb hr hlocks hd hK hP hD hS dX2_readFarm_107
  have b43 : ∀ (s_z : TKS) (s_h : PS) (x2 : Int32), fX2_readFarm_b43 fu    s_z s_h x2 = some r → bk_U p l e (headSpec wsX2_readFarm (gRm 7 150)).room s m args below meth c (qUi below args s (dC, dI) vwCl (gty cI cJ cQ) A (fun u : TKS × PS => (wTX a_x a_z ++ (wTK cI cJ a_z u.1 ++ (wP cI cJ a_h u.2)))) r) (dC, dI) vwCl A 3 (wTX a_x a_z ++ (wTK cI cJ a_z s_z ++ (wP cI cJ a_h s_h))) 43 [(0, .ref (a_x 0)), (1, .ref (a_h 0)), (2, .int x2)] [] := by
    intro s_z s_h x2 hd
    intro H locs ls hP hD hS hl
    unfold fX2_readFarm_b43 at hd
    refine lv_aload_n hx hb dX2_readFarm_43 rfl (lv_at hl 0 rfl) ?_
    refine rx_get hx hb hts fiX2_readFarm_X2 hown hK hP 0 rfl rfl 0 (Nat.le_of_ble_eq_true rfl) fl_10 rfl rfl dX2_readFarm_44 ?_
    refine va_ldcS hx hb hown (hG.2.2.2.2.2.2.1 12 (by decide)) dX2_readFarm_47 ?_
    refine rx_upi (fun u => (wTX a_x a_z ++ (wTK cI cJ a_z u ++ (wP cI cJ a_h s_h)))) hd hP hD hS hA ⟨[1, 2, 3, 4, 5, 6], [0, 7, 8, 9, 10, 11, 12, 13, 14, 15, 16], [0, 11, 12, 13, 14, 15, 16, 1, 2, 3, 4, 5, 6, 7, 8, 9, 10], wTX a_x a_z ++ (wP cI cJ a_h s_h), rfl, rfl, rfl, by decide, rfl, fun _ => rfl⟩ (fun v hv => va_runV (As := [.ref (gz.2.2.1 12)]) (rest := []) hcf (c_X5_takesWord l dC dI cI cJ cQ fu gz a_z _ 12 s_z  v hv) (cwV 1 hts gX2_readFarm_X5_takesWord rfl rfl rfl cd_X5_takesWord ⟨(Nat.le_of_ble_eq_true rfl), (Nat.le_of_ble_eq_true rfl)⟩) (cq_UG_V (q0 := 1) (ci := 4) hG hS hA hK hP hD [1, 2, 3, 4, 5, 6] rfl rfl rfl rfl) rfl rfl hl.1 rfl (lv_room (Nat.le_of_ble_eq_true rfl)) dX2_readFarm_49 ⟨Nat.le_refl _, Nat.le_refl _⟩) (fun u49 hd H locs hP hD hS => ?_)
    refine rx_if_eq hx hb 72 dX2_readFarm_52 rfl hd (fun hd => ?_) (fun hd => ?_)
    · exact b72   u49.2 s_h x2 hd _ _ _ hP hD hS (lv_sub hl [0, 1, 2] rfl)
    refine lv_aload_n hx hb dX2_readFarm_55 rfl (lv_at hl 0 rfl) ?_
    refine lv_aload_n hx hb dX2_readFarm_56 rfl (lv_at hl 1 rfl) ?_
    refine rx_get hx hb hts fiX2_readFarm_X1 hown hK hP 7 rfl rfl 1 (Nat.le_of_ble_eq_true rfl) fl_106 rfl rfl dX2_readFarm_57 ?_
    refine lv_iload_n hx hb dX2_readFarm_60 rfl (lv_at hl 2 rfl) ?_
    refine lv_sipush (v := 9999) hx hb dX2_readFarm_61 ks_9999 ?_
    refine rx_upi (fun u => (wTX a_x a_z ++ (wTK cI cJ a_z u.1 ++ (wP cI cJ a_h (psStore s_h u.2))))) hd hP hD hS hA ⟨[0, 1, 2, 3, 4, 5, 6, 9], [7, 8, 10, 11, 12, 13, 14, 15, 16], [9, 10, 11, 12, 13, 14, 15, 0, 1, 16, 2, 3, 4, 5, 6, 7, 8], [((a_h 0), .inr (0, [.ref (a_h 1), .ref (a_h 2), .ref (a_h 3), .ref (a_h 4), .ref (a_h 5), .int (pgDay s_h), .int (pgDryFarms s_h), .int (pgPeople s_h), .ref (a_h 6), .ref (a_h 7), .ref (a_h 8), .ref (a_h 9)])), ((a_h 1), .inl (cI, 4, .inl (pgNeed s_h))), ((a_h 3), .inl (cI, 4, .inl (pgThirst s_h))), ((a_h 4), .inl (cI, 4, .inl (pgSends s_h))), ((a_h 5), .inl (cI, 3, .inl (pgWater s_h))), ((a_h 6), .inl (cI, 8, .inl (pgKinds s_h))), ((a_h 7), .inl (cI, 8, .inl (pgDeeds s_h))), ((a_h 8), .inl (cI, 8, .inl (pgSteps s_h))), ((a_h 9), .inl (cI, 8, .inl (pgAsked s_h)))], rfl, rfl, rfl, by decide, rfl, fun _ => rfl⟩ (fun v hv => va_runV (As := [.ref (a_h 2), .int x2, .int (9999 : Int32)]) (rest := []) hcf (c_X2_readNumber l dC dI cI cJ cQ fu a_x a_z (a_h 2) 4 _  u49.2 (pgStore s_h) x2 (9999 : Int32) v hv) (cwV 3 hts gX2_readFarm_X2_readNumber rfl rfl rfl cd_X2_readNumber ⟨(Nat.le_of_ble_eq_true rfl), (Nat.le_of_ble_eq_true rfl)⟩) (cq_U_V (q0 := 0) (ci := 1) hK hP hD [0, 1, 2, 3, 4, 5, 6, 9] rfl rfl rfl rfl) rfl rfl hl.1 rfl (lv_room (Nat.le_of_ble_eq_true rfl)) dX2_readFarm_64 ⟨Nat.le_refl _, Nat.le_refl _⟩) (fun u64 hd H locs hP hD hS => ?_)
    refine rx_if_ne hx hb 72 dX2_readFarm_67 rfl hd (fun hd => ?_) (fun hd => ?_)
    · exact b72   u64.2.1 (psStore s_h u64.2.2) x2 hd _ _ _ hP hD hS (lv_sub hl [0, 1, 2] rfl)
    refine lv_iconst (v := 0) hx hb dX2_readFarm_70 ki_0 ?_
    exact rx_retUz (u := (u64.2.1, (psStore s_h u64.2.2))) (w1 := (fun u : TKS × PS => (wTX a_x a_z ++ (wTK cI cJ a_z u.1 ++ (wP cI cJ a_h u.2))))) hx hb hr hlocks hd hK hP hD hS dX2_readFarm_71
  refine lv_aload_n hx hb dX2_readFarm_0 rfl (lv_at hl 0 rfl) ?_
  refine rx_get hx hb hts fiX2_readFarm_X2 hown hK hP 0 rfl rfl 0 (Nat.le_of_ble_eq_true rfl) fl_10 rfl rfl dX2_readFarm_1 ?_
  refine lv_iconst (v := 3) hx hb dX2_readFarm_4 ki_3 ?_
  refine rx_upi (fun u => (wTX a_x a_z ++ (wTK cI cJ a_z u ++ (wP cI cJ a_h s_h)))) hd hP hD hS hA ⟨[1, 2, 3, 4, 5, 6], [0, 7, 8, 9, 10, 11, 12, 13, 14, 15, 16], [0, 11, 12, 13, 14, 15, 16, 1, 2, 3, 4, 5, 6, 7, 8, 9, 10], wTX a_x a_z ++ (wP cI cJ a_h s_h), rfl, rfl, rfl, by decide, rfl, fun _ => rfl⟩ (fun v hv => va_runV (As := [.int (3 : Int32)]) (rest := []) hcf (c_X5_takeNumber l dC dI cI cJ cQ fu a_z _  s_z (3 : Int32) v hv) (cwV 1 hts gX2_readFarm_X5_takeNumber rfl rfl rfl cd_X5_takeNumber ⟨(Nat.le_of_ble_eq_true rfl), (Nat.le_of_ble_eq_true rfl)⟩) (cq_U_V (q0 := 1) (ci := 4) hK hP hD [1, 2, 3, 4, 5, 6] rfl rfl rfl rfl) rfl rfl hl.1 rfl (lv_room (Nat.le_of_ble_eq_true rfl)) dX2_readFarm_5 ⟨Nat.le_refl _, Nat.le_refl _⟩) (fun u5 hd H locs hP hD hS => ?_)
  refine lv_istore_n (lv' := [(2, .int u5.1), (0, .ref (a_x 0)), (1, .ref (a_h 0))]) hx hb dX2_readFarm_8 rfl hl (Nat.le_of_ble_eq_true rfl) rfl (fun ls hl => ?_)
  refine lv_iload_n hx hb dX2_readFarm_9 rfl (lv_at hl 0 rfl) ?_
  refine rx_if_ge hx hb 15 dX2_readFarm_10 rfl hd (fun hd => ?_) (fun hd => ?_)
  · refine lv_aload_n hx hb dX2_readFarm_15 rfl (lv_at hl 1 rfl) ?_
    refine rx_get hx hb hts fiX2_readFarm_X2 hown hK hP 0 rfl rfl 0 (Nat.le_of_ble_eq_true rfl) fl_10 rfl rfl dX2_readFarm_16 ?_
    refine va_ldcS hx hb hown (hG.2.2.2.2.2.2.1 11 (by decide)) dX2_readFarm_19 ?_
    refine rx_upi (fun u => (wTX a_x a_z ++ (wTK cI cJ a_z u ++ (wP cI cJ a_h s_h)))) hd hP hD hS hA ⟨[1, 2, 3, 4, 5, 6], [0, 7, 8, 9, 10, 11, 12, 13, 14, 15, 16], [0, 11, 12, 13, 14, 15, 16, 1, 2, 3, 4, 5, 6, 7, 8, 9, 10], wTX a_x a_z ++ (wP cI cJ a_h s_h), rfl, rfl, rfl, by decide, rfl, fun _ => rfl⟩ (fun v hv => va_runV (As := [.ref (gz.2.2.1 11)]) (rest := []) hcf (c_X5_takesWord l dC dI cI cJ cQ fu gz a_z _ 11 u5.2  v hv) (cwV 1 hts gX2_readFarm_X5_takesWord rfl rfl rfl cd_X5_takesWord ⟨(Nat.le_of_ble_eq_true rfl), (Nat.le_of_ble_eq_true rfl)⟩) (cq_UG_V (q0 := 1) (ci := 4) hG hS hA hK hP hD [1, 2, 3, 4, 5, 6] rfl rfl rfl rfl) rfl rfl hl.1 rfl (lv_room (Nat.le_of_ble_eq_true rfl)) dX2_readFarm_21 ⟨Nat.le_refl _, Nat.le_refl _⟩) (fun u21 hd H locs hP hD hS => ?_)
    refine rx_if_eq hx hb 43 dX2_readFarm_24 rfl hd (fun hd => ?_) (fun hd => ?_)
    · exact b43   u21.2 s_h u5.1 hd _ _ _ hP hD hS (lv_sub hl [1, 2, 0] rfl)
    refine lv_aload_n hx hb dX2_readFarm_27 rfl (lv_at hl 1 rfl) ?_
    refine lv_aload_n hx hb dX2_readFarm_28 rfl (lv_at hl 2 rfl) ?_
    refine rx_get hx hb hts fiX2_readFarm_X1 hown hK hP 7 rfl rfl 0 (Nat.le_of_ble_eq_true rfl) fl_102 rfl rfl dX2_readFarm_29 ?_
    refine lv_iload_n hx hb dX2_readFarm_32 rfl (lv_at hl 0 rfl) ?_
    refine lv_bipush (v := 20) hx hb dX2_readFarm_33 kb_20 ?_
    refine rx_upi (fun u => (wTX a_x a_z ++ (wTK cI cJ a_z u.1 ++ (wP cI cJ a_h (psNeed s_h u.2))))) hd hP hD hS hA ⟨[0, 1, 2, 3, 4, 5, 6, 8], [7, 9, 10, 11, 12, 13, 14, 15, 16], [9, 10, 11, 12, 13, 14, 15, 0, 16, 1, 2, 3, 4, 5, 6, 7, 8], [((a_h 0), .inr (0, [.ref (a_h 1), .ref (a_h 2), .ref (a_h 3), .ref (a_h 4), .ref (a_h 5), .int (pgDay s_h), .int (pgDryFarms s_h), .int (pgPeople s_h), .ref (a_h 6), .ref (a_h 7), .ref (a_h 8), .ref (a_h 9)])), ((a_h 2), .inl (cI, 4, .inl (pgStore s_h))), ((a_h 3), .inl (cI, 4, .inl (pgThirst s_h))), ((a_h 4), .inl (cI, 4, .inl (pgSends s_h))), ((a_h 5), .inl (cI, 3, .inl (pgWater s_h))), ((a_h 6), .inl (cI, 8, .inl (pgKinds s_h))), ((a_h 7), .inl (cI, 8, .inl (pgDeeds s_h))), ((a_h 8), .inl (cI, 8, .inl (pgSteps s_h))), ((a_h 9), .inl (cI, 8, .inl (pgAsked s_h)))], rfl, rfl, rfl, by decide, rfl, fun _ => rfl⟩ (fun v hv => va_runV (As := [.ref (a_h 1), .int u5.1, .int (20 : Int32)]) (rest := []) hcf (c_X2_readNumber l dC dI cI cJ cQ fu a_x a_z (a_h 1) 4 _  u21.2 (pgNeed s_h) u5.1 (20 : Int32) v hv) (cwV 3 hts gX2_readFarm_X2_readNumber rfl rfl rfl cd_X2_readNumber ⟨(Nat.le_of_ble_eq_true rfl), (Nat.le_of_ble_eq_true rfl)⟩) (cq_U_V (q0 := 0) (ci := 1) hK hP hD [0, 1, 2, 3, 4, 5, 6, 8] rfl rfl rfl rfl) rfl rfl hl.1 rfl (lv_room (Nat.le_of_ble_eq_true rfl)) dX2_readFarm_35 ⟨Nat.le_refl _, Nat.le_refl _⟩) (fun u35 hd H locs hP hD hS => ?_)
    refine rx_if_ne hx hb 43 dX2_readFarm_38 rfl hd (fun hd => ?_) (fun hd => ?_)
    · exact b43   u35.2.1 (psNeed s_h u35.2.2) u5.1 hd _ _ _ hP hD hS (lv_sub hl [1, 2, 0] rfl)
    refine lv_iconst (v := 0) hx hb dX2_readFarm_41 ki_0 ?_
    exact rx_retUz (u := (u35.2.1, (psNeed s_h u35.2.2))) (w1 := (fun u : TKS × PS => (wTX a_x a_z ++ (wTK cI cJ a_z u.1 ++ (wP cI cJ a_h u.2))))) hx hb hr hlocks hd hK hP hD hS dX2_readFarm_42
  refine lv_iconst (v := 0) hx hb dX2_readFarm_13 ki_0 ?_
  exact rx_retUz (u := (u5.2, s_h)) (w1 := (fun u : TKS × PS => (wTX a_x a_z ++ (wTK cI cJ a_z u.1 ++ (wP cI cJ a_h u.2))))) hx hb hr hlocks hd hK hP hD hS dX2_readFarm_14
theorem fiX2_readItem_X1 : ∀ w ∈ wsX10, w ∈ wsX2_readItem := mem_r _ [121, 122, 123, 124, 125, 126, 127, 128, 129, 130, 131, 132] rfl
theorem fiX2_readItem_X2 : ∀ w ∈ wsX20, w ∈ wsX2_readItem := mem_r _ [120] rfl
set_option maxHeartbeats 8000000 in
set_option maxRecDepth 100000 in
theorem c_X2_readItem (l : Launch) (dC : Nat → ClassId) (dI : Nat → Nat → Nat) (cI cJ cQ : ClassId) (fu : Nat) (gz : GZ) (a_x a_z : Nat → Nat) (a_h : Nat → Nat) (sz : Nat) (s_z : TKS) (s_h : PS)  (r : Int32 × TKS × PS) (hd : fX2_readItem fu  s_z s_h  = some r) : mUiG l yX2_readItem wsX2_readItem (gRm 8 173) [.ref (a_x 0), .ref (a_h 0)] (dC, dI) vwCl (gty cI cJ cQ) (wTX a_x a_z ++ (wTK cI cJ a_z s_z ++ (wP cI cJ a_h s_h))) sz gz (fun u : TKS × PS => (wTX a_x a_z ++ (wTK cI cJ a_z u.1 ++ (wP cI cJ a_h u.2)))) r := by
  refine Met.ofW (cc := cX2_readItem) (maxL := 3) (ret := (some .boolean)) (by decide) rfl ?_
  intro p e s m args below meth c s₁ B hml hv
  obtain ⟨hav, ⟨hsz, hP, hK, hD0⟩, hG⟩ := hv
  subst hsz
  have hD := hD0.self (sz := s.heap.size)
  generalize hAe : va_A (wTX a_x a_z ++ (wTK cI cJ a_z s_z ++ (wP cI cJ a_h s_h))) s.heap.size = A at hD hG ⊢
  have hA : ∀ q : Nat, s.heap.size ≤ q → A q := fun q h => by rw [← hAe]; exact Or.inr h
  have hS : va_S A s.heap s.heap [] := va_S.rf
  have hx := B.exec
  have hb := B.bytes
  have hr := B.returns
  have hts := atoms_spec (ws := wsX2_readItem) B.pre
  have hown : s.vm.findClass RX2 = some m.cls := findClass_of_methodNamed B.named
  have hlocks := B.notSynchronized
  have hcf : CallFix p m c cX2_readItem 3 s args wsX2_readItem RX2 := ⟨hx, hb, hml, hown, hts⟩
  have fl_10 := hts (.fieldLink RX2 10 "BucketGift$ParishText" "tokens" "LBucketGift$Tokens;") (List.mem_of_getElem? (i := 1) rfl)
  have fl_61 := hts (.fieldLink RX2 61 "BucketGift$Parish" "water" "[I") (List.mem_of_getElem? (i := 2) rfl)
  have fl_67 := hts (.fieldLink RX2 67 "BucketGift$Parish" "MOST_WATER" "[I") (List.mem_of_getElem? (i := 3) rfl)
  have hg : entryFrame m args 3 = entryFrame m ([.ref (a_x 0), .ref (a_h 0)] : List Value).toArray 3 := by rw [hav]
  rw [hg, lg_entry_eq]
  have hl := lv_entry ([.ref (a_x 0), .ref (a_h 0)]) (n := 3) (Nat.le_of_ble_eq_true rfl)
  generalize (lg_sl ([.ref (a_x 0), .ref (a_h 0)]) ++ List.replicate (3 - (lg_sl ([.ref (a_x 0), .ref (a_h 0)])).length) Slot.unset).toArray = ls at hl ⊢
  have hl : lv_has ls 3 [(0, .ref (a_x 0)), (1, .ref (a_h 0))] := hl
  clear hg
  unfold fX2_readItem at hd
  have b2 : ∀ (s_z : TKS) (s_h : PS) (x2 : Int32), fX2_readItem_b2 fu     s_z s_h x2 = some r → bk_U p l e (headSpec wsX2_readItem (gRm 8 173)).room s m args below meth c (qUi below args s (dC, dI) vwCl (gty cI cJ cQ) A (fun u : TKS × PS => (wTX a_x a_z ++ (wTK cI cJ a_z u.1 ++ (wP cI cJ a_h u.2)))) r) (dC, dI) vwCl A 3 (wTX a_x a_z ++ (wTK cI cJ a_z s_z ++ (wP cI cJ a_h s_h))) 2 [(0, .ref (a_x 0)), (1, .ref (a_h 0)), (2, .int x2)] [] := by
    have L : ∀ (n : Nat) (s_z : TKS) (s_h : PS) (x2 : Int32), g_lp (fun _ _ _ => none) (fX2_readItem_b2B fu    ) n s_z s_h x2 = some r → bk_U p l e (headSpec wsX2_readItem (gRm 8 173)).room s m args below meth c (qUi below args s (dC, dI) vwCl (gty cI cJ cQ) A (fun u : TKS × PS => (wTX a_x a_z ++ (wTK cI cJ a_z u.1 ++ (wP cI cJ a_h u.2)))) r) (dC, dI) vwCl A 3 (wTX a_x a_z ++ (wTK cI cJ a_z s_z ++ (wP cI cJ a_h s_h))) 2 [(0, .ref (a_x 0)), (1, .ref (a_h 0)), (2, .int x2)] [] := by
      intro n
      induction n with
      | zero => intro s_z s_h x2 hd; exact absurd hd (by intro h; cases h)
      | succ n k2 =>
        intro s_z s_h x2 hd
        intro H locs ls hP hD hS hl
        have hd : fX2_readItem_b2B fu     (g_lp (fun _ _ _ => none) (fX2_readItem_b2B fu    ) n) s_z s_h x2 = some r := hd
        unfold fX2_readItem_b2B at hd
        refine lv_iload_n hx hb dX2_readItem_2 rfl (lv_at hl 2 rfl) ?_
        refine lv_bipush (v := 6) hx hb dX2_readItem_3 kb_6 ?_
        refine rx_icmp_ge hx hb 35 dX2_readItem_5 rfl hd (fun hd => ?_) (fun hd => ?_)
        · refine lv_aload_n hx hb dX2_readItem_35 rfl (lv_at hl 0 rfl) ?_
          refine rx_get hx hb hts fiX2_readItem_X2 hown hK hP 0 rfl rfl 0 (Nat.le_of_ble_eq_true rfl) fl_10 rfl rfl dX2_readItem_36 ?_
          refine va_ldcS hx hb hown (hG.2.2.2.2.2.2.1 6 (by decide)) dX2_readItem_39 ?_
          refine rx_upi (fun u => (wTX a_x a_z ++ (wTK cI cJ a_z u ++ (wP cI cJ a_h s_h)))) hd hP hD hS hA ⟨[1, 2, 3, 4, 5, 6], [0, 7, 8, 9, 10, 11, 12, 13, 14, 15, 16], [0, 11, 12, 13, 14, 15, 16, 1, 2, 3, 4, 5, 6, 7, 8, 9, 10], wTX a_x a_z ++ (wP cI cJ a_h s_h), rfl, rfl, rfl, by decide, rfl, fun _ => rfl⟩ (fun v hv => va_runV (As := [.ref (gz.2.2.1 6)]) (rest := []) hcf (c_X5_takesWord l dC dI cI cJ cQ fu gz a_z _ 6 s_z  v hv) (cwV 1 hts gX2_readItem_X5_takesWord rfl rfl rfl cd_X5_takesWord ⟨(Nat.le_of_ble_eq_true rfl), (Nat.le_of_ble_eq_true rfl)⟩) (cq_UG_V (q0 := 1) (ci := 4) hG hS hA hK hP hD [1, 2, 3, 4, 5, 6] rfl rfl rfl rfl) rfl rfl hl.1 rfl (lv_room (Nat.le_of_ble_eq_true rfl)) dX2_readItem_41 ⟨Nat.le_refl _, Nat.le_refl _⟩) (fun u41 hd H locs hP hD hS => ?_)
          refine rx_if_eq hx hb 53 dX2_readItem_44 rfl hd (fun hd => ?_) (fun hd => ?_)
          · refine lv_aload_n hx hb dX2_readItem_53 rfl (lv_at hl 0 rfl) ?_
            refine rx_get hx hb hts fiX2_readItem_X2 hown hK hP 0 rfl rfl 0 (Nat.le_of_ble_eq_true rfl) fl_10 rfl rfl dX2_readItem_54 ?_
            refine va_ldcS hx hb hown (hG.2.2.2.2.2.2.1 7 (by decide)) dX2_readItem_57 ?_
            refine rx_upi (fun u => (wTX a_x a_z ++ (wTK cI cJ a_z u ++ (wP cI cJ a_h s_h)))) hd hP hD hS hA ⟨[1, 2, 3, 4, 5, 6], [0, 7, 8, 9, 10, 11, 12, 13, 14, 15, 16], [0, 11, 12, 13, 14, 15, 16, 1, 2, 3, 4, 5, 6, 7, 8, 9, 10], wTX a_x a_z ++ (wP cI cJ a_h s_h), rfl, rfl, rfl, by decide, rfl, fun _ => rfl⟩ (fun v hv => va_runV (As := [.ref (gz.2.2.1 7)]) (rest := []) hcf (c_X5_takesWord l dC dI cI cJ cQ fu gz a_z _ 7 u41.2  v hv) (cwV 1 hts gX2_readItem_X5_takesWord rfl rfl rfl cd_X5_takesWord ⟨(Nat.le_of_ble_eq_true rfl), (Nat.le_of_ble_eq_true rfl)⟩) (cq_UG_V (q0 := 1) (ci := 4) hG hS hA hK hP hD [1, 2, 3, 4, 5, 6] rfl rfl rfl rfl) rfl rfl hl.1 rfl (lv_room (Nat.le_of_ble_eq_true rfl)) dX2_readItem_59 ⟨Nat.le_refl _, Nat.le_refl _⟩) (fun u59 hd H locs hP hD hS => ?_)
            refine rx_if_eq hx hb 80 dX2_readItem_62 rfl hd (fun hd => ?_) (fun hd => ?_)
            · refine lv_aload_n hx hb dX2_readItem_80 rfl (lv_at hl 0 rfl) ?_
              refine rx_get hx hb hts fiX2_readItem_X2 hown hK hP 0 rfl rfl 0 (Nat.le_of_ble_eq_true rfl) fl_10 rfl rfl dX2_readItem_81 ?_
              refine va_ldcS hx hb hown (hG.2.2.2.2.2.2.1 8 (by decide)) dX2_readItem_84 ?_
              refine rx_upi (fun u => (wTX a_x a_z ++ (wTK cI cJ a_z u ++ (wP cI cJ a_h s_h)))) hd hP hD hS hA ⟨[1, 2, 3, 4, 5, 6], [0, 7, 8, 9, 10, 11, 12, 13, 14, 15, 16], [0, 11, 12, 13, 14, 15, 16, 1, 2, 3, 4, 5, 6, 7, 8, 9, 10], wTX a_x a_z ++ (wP cI cJ a_h s_h), rfl, rfl, rfl, by decide, rfl, fun _ => rfl⟩ (fun v hv => va_runV (As := [.ref (gz.2.2.1 8)]) (rest := []) hcf (c_X5_takesWord l dC dI cI cJ cQ fu gz a_z _ 8 u59.2  v hv) (cwV 1 hts gX2_readItem_X5_takesWord rfl rfl rfl cd_X5_takesWord ⟨(Nat.le_of_ble_eq_true rfl), (Nat.le_of_ble_eq_true rfl)⟩) (cq_UG_V (q0 := 1) (ci := 4) hG hS hA hK hP hD [1, 2, 3, 4, 5, 6] rfl rfl rfl rfl) rfl rfl hl.1 rfl (lv_room (Nat.le_of_ble_eq_true rfl)) dX2_readItem_86 ⟨Nat.le_refl _, Nat.le_refl _⟩) (fun u86 hd H locs hP hD hS => ?_)
              refine rx_if_eq hx hb 107 dX2_readItem_89 rfl hd (fun hd => ?_) (fun hd => ?_)
              · refine lv_iconst (v := 0) hx hb dX2_readItem_107 ki_0 ?_
                exact rx_retUz (u := (u86.2, s_h)) (w1 := (fun u : TKS × PS => (wTX a_x a_z ++ (wTK cI cJ a_z u.1 ++ (wP cI cJ a_h u.2))))) hx hb hr hlocks hd hK hP hD hS dX2_readItem_108
              refine lv_aload_n hx hb dX2_readItem_92 rfl (lv_at hl 0 rfl) ?_
              refine lv_aload_n hx hb dX2_readItem_93 rfl (lv_at hl 1 rfl) ?_
              refine rx_get hx hb hts fiX2_readItem_X1 hown hK hP 7 rfl rfl 4 (Nat.le_of_ble_eq_true rfl) fl_61 rfl rfl dX2_readItem_94 ?_
              refine lv_iconst (v := 1) hx hb dX2_readItem_97 ki_1 ?_
              refine va_gets hx hb hG.1 hS hown fl_67 (fun _ h => h) dX2_readItem_98 ?_
              refine lv_iconst (v := 1) hx hb dX2_readItem_101 ki_1 ?_
              refine rx_tald (f := gMW) hx hb hG.2.1 hS hd dX2_readItem_102 (fun v102 hd => ?_)
              refine rx_upi (fun u => (wTX a_x a_z ++ (wTK cI cJ a_z u.1 ++ (wP cI cJ a_h (psWater s_h u.2))))) hd hP hD hS hA ⟨[0, 1, 2, 3, 4, 5, 6, 12], [7, 8, 9, 10, 11, 13, 14, 15, 16], [9, 10, 11, 12, 13, 14, 15, 0, 1, 2, 3, 4, 16, 5, 6, 7, 8], [((a_h 0), .inr (0, [.ref (a_h 1), .ref (a_h 2), .ref (a_h 3), .ref (a_h 4), .ref (a_h 5), .int (pgDay s_h), .int (pgDryFarms s_h), .int (pgPeople s_h), .ref (a_h 6), .ref (a_h 7), .ref (a_h 8), .ref (a_h 9)])), ((a_h 1), .inl (cI, 4, .inl (pgNeed s_h))), ((a_h 2), .inl (cI, 4, .inl (pgStore s_h))), ((a_h 3), .inl (cI, 4, .inl (pgThirst s_h))), ((a_h 4), .inl (cI, 4, .inl (pgSends s_h))), ((a_h 6), .inl (cI, 8, .inl (pgKinds s_h))), ((a_h 7), .inl (cI, 8, .inl (pgDeeds s_h))), ((a_h 8), .inl (cI, 8, .inl (pgSteps s_h))), ((a_h 9), .inl (cI, 8, .inl (pgAsked s_h)))], rfl, rfl, rfl, by decide, rfl, fun _ => rfl⟩ (fun v hv => va_runV (As := [.ref (a_h 5), .int (1 : Int32), .int v102]) (rest := []) hcf (c_X2_readNumber l dC dI cI cJ cQ fu a_x a_z (a_h 5) 3 _  u86.2 (pgWater s_h) (1 : Int32) v102 v hv) (cwV 3 hts gX2_readItem_X2_readNumber rfl rfl rfl cd_X2_readNumber ⟨(Nat.le_of_ble_eq_true rfl), (Nat.le_of_ble_eq_true rfl)⟩) (cq_U_V (q0 := 0) (ci := 1) hK hP hD [0, 1, 2, 3, 4, 5, 6, 12] rfl rfl rfl rfl) rfl rfl hl.1 rfl (lv_room (Nat.le_of_ble_eq_true rfl)) dX2_readItem_103 ⟨Nat.le_refl _, Nat.le_refl _⟩) (fun u103 hd H locs hP hD hS => ?_)
              exact rx_retUz (u := (u103.2.1, (psWater s_h u103.2.2))) (w1 := (fun u : TKS × PS => (wTX a_x a_z ++ (wTK cI cJ a_z u.1 ++ (wP cI cJ a_h u.2))))) hx hb hr hlocks hd hK hP hD hS dX2_readItem_106
            refine lv_aload_n hx hb dX2_readItem_65 rfl (lv_at hl 0 rfl) ?_
            refine lv_aload_n hx hb dX2_readItem_66 rfl (lv_at hl 1 rfl) ?_
            refine rx_get hx hb hts fiX2_readItem_X1 hown hK hP 7 rfl rfl 4 (Nat.le_of_ble_eq_true rfl) fl_61 rfl rfl dX2_readItem_67 ?_
            refine lv_iconst (v := 0) hx hb dX2_readItem_70 ki_0 ?_
            refine va_gets hx hb hG.1 hS hown fl_67 (fun _ h => h) dX2_readItem_71 ?_
            refine lv_iconst (v := 0) hx hb dX2_readItem_74 ki_0 ?_
            refine rx_tald (f := gMW) hx hb hG.2.1 hS hd dX2_readItem_75 (fun v75 hd => ?_)
            refine rx_upi (fun u => (wTX a_x a_z ++ (wTK cI cJ a_z u.1 ++ (wP cI cJ a_h (psWater s_h u.2))))) hd hP hD hS hA ⟨[0, 1, 2, 3, 4, 5, 6, 12], [7, 8, 9, 10, 11, 13, 14, 15, 16], [9, 10, 11, 12, 13, 14, 15, 0, 1, 2, 3, 4, 16, 5, 6, 7, 8], [((a_h 0), .inr (0, [.ref (a_h 1), .ref (a_h 2), .ref (a_h 3), .ref (a_h 4), .ref (a_h 5), .int (pgDay s_h), .int (pgDryFarms s_h), .int (pgPeople s_h), .ref (a_h 6), .ref (a_h 7), .ref (a_h 8), .ref (a_h 9)])), ((a_h 1), .inl (cI, 4, .inl (pgNeed s_h))), ((a_h 2), .inl (cI, 4, .inl (pgStore s_h))), ((a_h 3), .inl (cI, 4, .inl (pgThirst s_h))), ((a_h 4), .inl (cI, 4, .inl (pgSends s_h))), ((a_h 6), .inl (cI, 8, .inl (pgKinds s_h))), ((a_h 7), .inl (cI, 8, .inl (pgDeeds s_h))), ((a_h 8), .inl (cI, 8, .inl (pgSteps s_h))), ((a_h 9), .inl (cI, 8, .inl (pgAsked s_h)))], rfl, rfl, rfl, by decide, rfl, fun _ => rfl⟩ (fun v hv => va_runV (As := [.ref (a_h 5), .int (0 : Int32), .int v75]) (rest := []) hcf (c_X2_readNumber l dC dI cI cJ cQ fu a_x a_z (a_h 5) 3 _  u59.2 (pgWater s_h) (0 : Int32) v75 v hv) (cwV 3 hts gX2_readItem_X2_readNumber rfl rfl rfl cd_X2_readNumber ⟨(Nat.le_of_ble_eq_true rfl), (Nat.le_of_ble_eq_true rfl)⟩) (cq_U_V (q0 := 0) (ci := 1) hK hP hD [0, 1, 2, 3, 4, 5, 6, 12] rfl rfl rfl rfl) rfl rfl hl.1 rfl (lv_room (Nat.le_of_ble_eq_true rfl)) dX2_readItem_76 ⟨Nat.le_refl _, Nat.le_refl _⟩) (fun u76 hd H locs hP hD hS => ?_)
            exact rx_retUz (u := (u76.2.1, (psWater s_h u76.2.2))) (w1 := (fun u : TKS × PS => (wTX a_x a_z ++ (wTK cI cJ a_z u.1 ++ (wP cI cJ a_h u.2))))) hx hb hr hlocks hd hK hP hD hS dX2_readItem_79
          refine lv_aload_n hx hb dX2_readItem_47 rfl (lv_at hl 0 rfl) ?_
          refine lv_aload_n hx hb dX2_readItem_48 rfl (lv_at hl 1 rfl) ?_
          refine rx_upi1 hd hD hS hA (fun v hv => va_runV (As := [.ref (a_h 0)]) (rest := []) hcf (c_X2_readFarm l dC dI cI cJ cQ fu gz a_x a_z a_h _  u41.2 s_h  v hv) (cwV 1 hts gX2_readItem_X2_readFarm rfl rfl rfl cd_X2_readFarm ⟨(Nat.le_of_ble_eq_true rfl), (Nat.le_of_ble_eq_true rfl)⟩) (cq_UG_V1 (q0 := 0) (ci := 1) hG hS hA hK hP hD rfl rfl) rfl rfl hl.1 rfl (lv_room (Nat.le_of_ble_eq_true rfl)) dX2_readItem_49 ⟨Nat.le_refl _, Nat.le_refl _⟩) (fun u49 hd H locs hP hD hS => ?_)
          exact rx_retUz (u := (u49.2.1, u49.2.2)) (w1 := (fun u : TKS × PS => (wTX a_x a_z ++ (wTK cI cJ a_z u.1 ++ (wP cI cJ a_h u.2))))) hx hb hr hlocks hd hK hP hD hS dX2_readItem_52
        refine lv_aload_n hx hb dX2_readItem_8 rfl (lv_at hl 0 rfl) ?_
        refine rx_get hx hb hts fiX2_readItem_X2 hown hK hP 0 rfl rfl 0 (Nat.le_of_ble_eq_true rfl) fl_10 rfl rfl dX2_readItem_9 ?_
        refine lv_iload_n hx hb dX2_readItem_12 rfl (lv_at hl 2 rfl) ?_
        refine rx_ror hd (fun v hv => W.runS (As := [.int x2]) (rest := [.ref (a_z 0)]) hcf (c_X0_nameOf l dC dI cI cJ cQ fu gz    x2 v hv) (va_cwS 1 hts gX2_readItem_X0_nameOf rfl rfl rfl cd_X0_nameOf ⟨(Nat.le_of_ble_eq_true rfl), (Nat.le_of_ble_eq_true rfl)⟩) (cq_RG_S hG hS hK hP [] rfl) rfl rfl hl.1 rfl (lv_room (Nat.le_of_ble_eq_true rfl)) dX2_readItem_13 ⟨Nat.le_refl _, Nat.le_refl _⟩) (fun u13 hd => ?_)
        refine rx_roi hd (fun v hv => W.runV (As := [.ref (gz.2.2.1 u13)]) (rest := []) hcf (c_X5_isAtWord l dC dI cI cJ cQ fu gz a_z u13 s_z  v hv) (cwV 1 hts gX2_readItem_X5_isAtWord rfl rfl rfl cd_X5_isAtWord ⟨(Nat.le_of_ble_eq_true rfl), (Nat.le_of_ble_eq_true rfl)⟩) (cq_RG_V (q0 := 1) (ci := 4) hG hS hK hP [1, 2, 3, 4, 5, 6] rfl rfl rfl) rfl rfl hl.1 rfl (lv_room (Nat.le_of_ble_eq_true rfl)) dX2_readItem_16 ⟨Nat.le_refl _, Nat.le_refl _⟩) (fun u16 hd => ?_)
        refine rx_if_eq hx hb 29 dX2_readItem_19 rfl hd (fun hd => ?_) (fun hd => ?_)
        · refine rx_iinc (lv' := fun z => (2, .int z) :: [(0, .ref (a_x 0)), (1, .ref (a_h 0))]) hx hb (j := 2) dX2_readItem_29 hl rfl ki_1 hd (Nat.le_of_ble_eq_true rfl) (fun _ => rfl) (fun x2_29 hd ls hl => ?_)
          refine lv_goto (tgt := 2) hx hb dX2_readItem_32 rfl ?_
          exact k2 s_z s_h x2_29 hd _ _ _ hP hD hS (lv_sub hl [1, 2, 0] rfl)
        refine lv_aload_n hx hb dX2_readItem_22 rfl (lv_at hl 0 rfl) ?_
        refine lv_aload_n hx hb dX2_readItem_23 rfl (lv_at hl 1 rfl) ?_
        refine lv_iload_n hx hb dX2_readItem_24 rfl (lv_at hl 2 rfl) ?_
        refine rx_upi1 hd hD hS hA (fun v hv => va_runV (As := [.ref (a_h 0), .int x2]) (rest := []) hcf (c_X2_readPerson l dC dI cI cJ cQ fu gz a_x a_z a_h _  s_z s_h x2 v hv) (cwV 2 hts gX2_readItem_X2_readPerson rfl rfl rfl cd_X2_readPerson ⟨(Nat.le_of_ble_eq_true rfl), (Nat.le_of_ble_eq_true rfl)⟩) (cq_UG_V1 (q0 := 0) (ci := 1) hG hS hA hK hP hD rfl rfl) rfl rfl hl.1 rfl (lv_room (Nat.le_of_ble_eq_true rfl)) dX2_readItem_25 ⟨Nat.le_refl _, Nat.le_refl _⟩) (fun u25 hd H locs hP hD hS => ?_)
        exact rx_retUz (u := (u25.2.1, u25.2.2)) (w1 := (fun u : TKS × PS => (wTX a_x a_z ++ (wTK cI cJ a_z u.1 ++ (wP cI cJ a_h u.2))))) hx hb hr hlocks hd hK hP hD hS dX2_readItem_28
    exact fun s_z s_h x2 => L fu s_z s_h x2
  refine lv_iconst (v := 0) hx hb dX2_readItem_0 ki_0 ?_
  refine lv_istore_n (lv' := [(2, .int (0 : Int32)), (0, .ref (a_x 0)), (1, .ref (a_h 0))]) hx hb dX2_readItem_1 rfl hl (Nat.le_of_ble_eq_true rfl) rfl (fun ls hl => ?_)
  exact b2   s_z s_h (0 : Int32) hd _ _ _ hP hD hS (lv_sub hl [1, 2, 0] rfl)
theorem fiX2_readInto_X2 : ∀ w ∈ wsX20, w ∈ wsX2_readInto := mem_r _ [153] rfl
set_option maxHeartbeats 8000000 in
set_option maxRecDepth 100000 in
theorem c_X2_readInto (l : Launch) (dC : Nat → ClassId) (dI : Nat → Nat → Nat) (cI cJ cQ : ClassId) (fu : Nat) (gz : GZ) (a_x a_z : Nat → Nat) (a_h : Nat → Nat) (a_p : Nat → Nat) (sz : Nat) (s_z : TKS) (s_h : PS) (s_p : TPS)  (r : Int32 × TKS × PS) (hd : fX2_readInto fu  s_z s_h s_p  = some r) : mUiG l yX2_readInto wsX2_readInto (gRm 9 195) [.ref (a_x 0), .ref (a_h 0), .ref (a_p 0)] (dC, dI) vwCl (gty cI cJ cQ) (wTX a_x a_z ++ (wTK cI cJ a_z s_z ++ (wP cI cJ a_h s_h ++ (wTP cI cJ a_p s_p)))) sz gz (fun u : TKS × PS => (wTX a_x a_z ++ (wTK cI cJ a_z u.1 ++ (wP cI cJ a_h u.2 ++ (wTP cI cJ a_p s_p))))) r := by
  refine Met.ofW (cc := cX2_readInto) (maxL := 4) (ret := (some .int)) (by decide) rfl ?_
  intro p e s m args below meth c s₁ B hml hv
  obtain ⟨hav, ⟨hsz, hP, hK, hD0⟩, hG⟩ := hv
  subst hsz
  have hD := hD0.self (sz := s.heap.size)
  generalize hAe : va_A (wTX a_x a_z ++ (wTK cI cJ a_z s_z ++ (wP cI cJ a_h s_h ++ (wTP cI cJ a_p s_p)))) s.heap.size = A at hD hG ⊢
  have hA : ∀ q : Nat, s.heap.size ≤ q → A q := fun q h => by rw [← hAe]; exact Or.inr h
  have hS : va_S A s.heap s.heap [] := va_S.rf
  have hx := B.exec
  have hb := B.bytes
  have hr := B.returns
  have hts := atoms_spec (ws := wsX2_readInto) B.pre
  have hown : s.vm.findClass RX2 = some m.cls := findClass_of_methodNamed B.named
  have hlocks := B.notSynchronized
  have hcf : CallFix p m c cX2_readInto 4 s args wsX2_readInto RX2 := ⟨hx, hb, hml, hown, hts⟩
  have fl_10 := hts (.fieldLink RX2 10 "BucketGift$ParishText" "tokens" "LBucketGift$Tokens;") (List.mem_of_getElem? (i := 1) rfl)
  have hg : entryFrame m args 4 = entryFrame m ([.ref (a_x 0), .ref (a_h 0), .ref (a_p 0)] : List Value).toArray 4 := by rw [hav]
  rw [hg, lg_entry_eq]
  have hl := lv_entry ([.ref (a_x 0), .ref (a_h 0), .ref (a_p 0)]) (n := 4) (Nat.le_of_ble_eq_true rfl)
  generalize (lg_sl ([.ref (a_x 0), .ref (a_h 0), .ref (a_p 0)]) ++ List.replicate (4 - (lg_sl ([.ref (a_x 0), .ref (a_h 0), .ref (a_p 0)])).length) Slot.unset).toArray = ls at hl ⊢
  have hl : lv_has ls 4 [(0, .ref (a_x 0)), (1, .ref (a_h 0)), (2, .ref (a_p 0))] := hl
  clear hg
  unfold fX2_readInto at hd
  have b64 : ∀ (s_z : TKS) (s_h : PS), fX2_readInto_b64 fu s_p   s_z s_h = some r → bk_U p l e (headSpec wsX2_readInto (gRm 9 195)).room s m args below meth c (qUi below args s (dC, dI) vwCl (gty cI cJ cQ) A (fun u : TKS × PS => (wTX a_x a_z ++ (wTK cI cJ a_z u.1 ++ (wP cI cJ a_h u.2 ++ (wTP cI cJ a_p s_p))))) r) (dC, dI) vwCl A 4 (wTX a_x a_z ++ (wTK cI cJ a_z s_z ++ (wP cI cJ a_h s_h ++ (wTP cI cJ a_p s_p)))) 64 [(0, .ref (a_x 0))] [] := by
    intro s_z s_h hd
    intro H locs ls hP hD hS hl
    unfold fX2_readInto_b64 at hd
    refine lv_iconst (v := -1) hx hb dX2_readInto_64 ki_m1 ?_
    refine lv_aload_n hx hb dX2_readInto_65 rfl (lv_at hl 0 rfl) ?_
    refine rx_get hx hb hts fiX2_readInto_X2 hown hK hP 0 rfl rfl 0 (Nat.le_of_ble_eq_true rfl) fl_10 rfl rfl dX2_readInto_66 ?_
    refine rx_roi hd (fun v hv => W.runV (As := []) (rest := [.int (-1 : Int32)]) hcf (c_X5_place l dC dI cI cJ cQ fu a_z  s_z  v hv) (cwV 0 hts gX2_readInto_X5_place rfl rfl rfl cd_X5_place ⟨(Nat.le_of_ble_eq_true rfl), (Nat.le_of_ble_eq_true rfl)⟩) (cq_R_V (q0 := 1) (ci := 4) hK hP [1, 2, 3, 4, 5, 6] rfl rfl rfl) rfl rfl hl.1 rfl (lv_room (Nat.le_of_ble_eq_true rfl)) dX2_readInto_69 ⟨Nat.le_refl _, Nat.le_refl _⟩) (fun u69 hd => ?_)
    refine lv_isub hx hb dX2_readInto_72 ?_
    exact rx_retUi (u := (s_z, s_h)) (w1 := (fun u : TKS × PS => (wTX a_x a_z ++ (wTK cI cJ a_z u.1 ++ (wP cI cJ a_h u.2 ++ (wTP cI cJ a_p s_p)))))) hx hb hr hlocks hd hK hP hD hS dX2_readInto_73
  have b10 : ∀ (s_z : TKS) (s_h : PS) (x3 : Int32), fX2_readInto_b10 fu s_p    s_z s_h x3 = some r → bk_U p l e (headSpec wsX2_readInto (gRm 9 195)).room s m args below meth c (qUi below args s (dC, dI) vwCl (gty cI cJ cQ) A (fun u : TKS × PS => (wTX a_x a_z ++ (wTK cI cJ a_z u.1 ++ (wP cI cJ a_h u.2 ++ (wTP cI cJ a_p s_p))))) r) (dC, dI) vwCl A 4 (wTX a_x a_z ++ (wTK cI cJ a_z s_z ++ (wP cI cJ a_h s_h ++ (wTP cI cJ a_p s_p)))) 10 [(0, .ref (a_x 0)), (1, .ref (a_h 0)), (3, .int x3)] [] := by
    have L : ∀ (n : Nat) (s_z : TKS) (s_h : PS) (x3 : Int32), g_lp (fun _ _ _ => none) (fX2_readInto_b10B fu s_p   ) n s_z s_h x3 = some r → bk_U p l e (headSpec wsX2_readInto (gRm 9 195)).room s m args below meth c (qUi below args s (dC, dI) vwCl (gty cI cJ cQ) A (fun u : TKS × PS => (wTX a_x a_z ++ (wTK cI cJ a_z u.1 ++ (wP cI cJ a_h u.2 ++ (wTP cI cJ a_p s_p))))) r) (dC, dI) vwCl A 4 (wTX a_x a_z ++ (wTK cI cJ a_z s_z ++ (wP cI cJ a_h s_h ++ (wTP cI cJ a_p s_p)))) 10 [(0, .ref (a_x 0)), (1, .ref (a_h 0)), (3, .int x3)] [] := by
      intro n
      induction n with
      | zero => intro s_z s_h x3 hd; exact absurd hd (by intro h; cases h)
      | succ n k10 =>
        intro s_z s_h x3 hd
        intro H locs ls hP hD hS hl
        have hd : fX2_readInto_b10B fu s_p    (g_lp (fun _ _ _ => none) (fX2_readInto_b10B fu s_p   ) n) s_z s_h x3 = some r := hd
        unfold fX2_readInto_b10B at hd
        refine lv_iload_n hx hb dX2_readInto_10 rfl (lv_at hl 2 rfl) ?_
        refine lv_bipush (v := 120) hx hb dX2_readInto_11 kb_120 ?_
        refine rx_icmp_gt hx hb 64 dX2_readInto_13 rfl hd (fun hd => ?_) (fun hd => ?_)
        · exact b64   s_z s_h hd _ _ _ hP hD hS (lv_sub hl [0] rfl)
        refine lv_aload_n hx hb dX2_readInto_16 rfl (lv_at hl 0 rfl) ?_
        refine lv_aload_n hx hb dX2_readInto_17 rfl (lv_at hl 1 rfl) ?_
        refine rx_upi (fun u => (wTX a_x a_z ++ (wTK cI cJ a_z u.1 ++ (wP cI cJ a_h u.2 ++ (wTP cI cJ a_p s_p))))) hd hP hD hS hA ⟨[0, 1, 2, 3, 4, 5, 6, 7, 8, 9, 10, 11, 12, 13, 14, 15, 16], [17, 18], [2, 3, 4, 5, 6, 7, 8, 9, 10, 11, 12, 13, 14, 15, 16, 17, 18, 0, 1], wTP cI cJ a_p s_p, rfl, rfl, rfl, by decide, rfl, fun _ => rfl⟩ (fun v hv => va_runV (As := [.ref (a_h 0)]) (rest := []) hcf (c_X2_readItem l dC dI cI cJ cQ fu gz a_x a_z a_h _  s_z s_h  v hv) (cwV 1 hts gX2_readInto_X2_readItem rfl rfl rfl cd_X2_readItem ⟨(Nat.le_of_ble_eq_true rfl), (Nat.le_of_ble_eq_true rfl)⟩) (cq_UG_V (q0 := 0) (ci := 1) hG hS hA hK hP hD [0, 1, 2, 3, 4, 5, 6, 7, 8, 9, 10, 11, 12, 13, 14, 15, 16] rfl rfl rfl rfl) rfl rfl hl.1 rfl (lv_room (Nat.le_of_ble_eq_true rfl)) dX2_readInto_18 ⟨Nat.le_refl _, Nat.le_refl _⟩) (fun u18 hd H locs hP hD hS => ?_)
        refine rx_if_eq hx hb 64 dX2_readInto_21 rfl hd (fun hd => ?_) (fun hd => ?_)
        · exact b64   u18.2.1 u18.2.2 hd _ _ _ hP hD hS (lv_sub hl [0] rfl)
        refine lv_aload_n hx hb dX2_readInto_24 rfl (lv_at hl 0 rfl) ?_
        refine rx_get hx hb hts fiX2_readInto_X2 hown hK hP 0 rfl rfl 0 (Nat.le_of_ble_eq_true rfl) fl_10 rfl rfl dX2_readInto_25 ?_
        refine lv_iconst (v := 5) hx hb dX2_readInto_28 ki_5 ?_
        refine rx_roi hd (fun v hv => W.runV (As := [.int (5 : Int32)]) (rest := []) hcf (c_X5_isAt l dC dI cI cJ cQ fu a_z  u18.2.1 (5 : Int32) v hv) (cwV 1 hts gX2_readInto_X5_isAt rfl rfl rfl cd_X5_isAt ⟨(Nat.le_of_ble_eq_true rfl), (Nat.le_of_ble_eq_true rfl)⟩) (cq_R_V (q0 := 1) (ci := 4) hK hP [1, 2, 3, 4, 5, 6] rfl rfl rfl) rfl rfl hl.1 rfl (lv_room (Nat.le_of_ble_eq_true rfl)) dX2_readInto_29 ⟨Nat.le_refl _, Nat.le_refl _⟩) (fun u29 hd => ?_)
        refine rx_if_eq hx hb 37 dX2_readInto_32 rfl hd (fun hd => ?_) (fun hd => ?_)
        · refine lv_aload_n hx hb dX2_readInto_37 rfl (lv_at hl 0 rfl) ?_
          refine rx_get hx hb hts fiX2_readInto_X2 hown hK hP 0 rfl rfl 0 (Nat.le_of_ble_eq_true rfl) fl_10 rfl rfl dX2_readInto_38 ?_
          refine lv_iconst (v := 3) hx hb dX2_readInto_41 ki_3 ?_
          refine rx_roi hd (fun v hv => W.runV (As := [.int (3 : Int32)]) (rest := []) hcf (c_X5_isAt l dC dI cI cJ cQ fu a_z  u18.2.1 (3 : Int32) v hv) (cwV 1 hts gX2_readInto_X5_isAt rfl rfl rfl cd_X5_isAt ⟨(Nat.le_of_ble_eq_true rfl), (Nat.le_of_ble_eq_true rfl)⟩) (cq_R_V (q0 := 1) (ci := 4) hK hP [1, 2, 3, 4, 5, 6] rfl rfl rfl) rfl rfl hl.1 rfl (lv_room (Nat.le_of_ble_eq_true rfl)) dX2_readInto_42 ⟨Nat.le_refl _, Nat.le_refl _⟩) (fun u42 hd => ?_)
          refine rx_if_ne hx hb 51 dX2_readInto_45 rfl hd (fun hd => ?_) (fun hd => ?_)
          · refine lv_aload_n hx hb dX2_readInto_51 rfl (lv_at hl 0 rfl) ?_
            refine rx_get hx hb hts fiX2_readInto_X2 hown hK hP 0 rfl rfl 0 (Nat.le_of_ble_eq_true rfl) fl_10 rfl rfl dX2_readInto_52 ?_
            refine rx_upv (fun u => (wTX a_x a_z ++ (wTK cI cJ a_z u ++ (wP cI cJ a_h u18.2.2 ++ (wTP cI cJ a_p s_p))))) hd hP hD hS hA ⟨[1, 2, 3, 4, 5, 6], [0, 7, 8, 9, 10, 11, 12, 13, 14, 15, 16, 17, 18], [0, 13, 14, 15, 16, 17, 18, 1, 2, 3, 4, 5, 6, 7, 8, 9, 10, 11, 12], wTX a_x a_z ++ (wP cI cJ a_h u18.2.2 ++ (wTP cI cJ a_p s_p)), rfl, rfl, rfl, by decide, rfl, fun _ => rfl⟩ (fun v hv => va_runV (As := []) (rest := []) hcf (c_X5_goOn l dC dI cI cJ cQ fu a_z _  u18.2.1  v hv) (cwV 0 hts gX2_readInto_X5_goOn rfl rfl rfl cd_X5_goOn ⟨(Nat.le_of_ble_eq_true rfl), (Nat.le_of_ble_eq_true rfl)⟩) (cq_U_V (q0 := 1) (ci := 4) hK hP hD [1, 2, 3, 4, 5, 6] rfl rfl rfl rfl) rfl rfl hl.1 rfl (lv_room (Nat.le_of_ble_eq_true rfl)) dX2_readInto_55 ⟨Nat.le_refl _, Nat.le_refl _⟩) (fun u55 hd H locs hP hD hS => ?_)
            refine rx_iinc (lv' := fun z => (3, .int z) :: [(0, .ref (a_x 0)), (1, .ref (a_h 0))]) hx hb (j := 2) dX2_readInto_58 hl rfl ki_1 hd (Nat.le_of_ble_eq_true rfl) (fun _ => rfl) (fun x3_58 hd ls hl => ?_)
            refine lv_goto (tgt := 10) hx hb dX2_readInto_61 rfl ?_
            exact k10 u55 u18.2.2 x3_58 hd _ _ _ hP hD hS (lv_sub hl [1, 2, 0] rfl)
          refine lv_goto (tgt := 64) hx hb dX2_readInto_48 rfl ?_
          exact b64   u18.2.1 u18.2.2 hd _ _ _ hP hD hS (lv_sub hl [0] rfl)
        refine lv_iload_n hx hb dX2_readInto_35 rfl (lv_at hl 2 rfl) ?_
        exact rx_retUi (u := (u18.2.1, u18.2.2)) (w1 := (fun u : TKS × PS => (wTX a_x a_z ++ (wTK cI cJ a_z u.1 ++ (wP cI cJ a_h u.2 ++ (wTP cI cJ a_p s_p)))))) hx hb hr hlocks hd hK hP hD hS dX2_readInto_36
    exact fun s_z s_h x3 => L fu s_z s_h x3
  refine lv_aload_n hx hb dX2_readInto_0 rfl (lv_at hl 0 rfl) ?_
  refine rx_get hx hb hts fiX2_readInto_X2 hown hK hP 0 rfl rfl 0 (Nat.le_of_ble_eq_true rfl) fl_10 rfl rfl dX2_readInto_1 ?_
  refine lv_aload_n hx hb dX2_readInto_4 rfl (lv_at hl 2 rfl) ?_
  refine rx_upv (fun u => (wTX a_x a_z ++ (wTK cI cJ a_z u ++ (wP cI cJ a_h s_h ++ (wTP cI cJ a_p s_p))))) hd hP hD hS hA ⟨[1, 2, 3, 4, 5, 6, 17, 18], [0, 7, 8, 9, 10, 11, 12, 13, 14, 15, 16], [0, 11, 12, 13, 14, 15, 16, 1, 2, 3, 4, 5, 6, 7, 8, 9, 10, 17, 18], wTX a_x a_z ++ (wP cI cJ a_h s_h), rfl, rfl, rfl, by decide, rfl, fun _ => rfl⟩ (fun v hv => va_runV (As := [.ref (a_p 0)]) (rest := []) hcf (c_X5_scan l dC dI cI cJ cQ fu a_z a_p _  s_z s_p  v hv) (cwV 1 hts gX2_readInto_X5_scan rfl rfl rfl cd_X5_scan ⟨(Nat.le_of_ble_eq_true rfl), (Nat.le_of_ble_eq_true rfl)⟩) (cq_U_V (q0 := 1) (ci := 4) hK hP hD [1, 2, 3, 4, 5, 6, 17, 18] rfl rfl rfl rfl) rfl rfl hl.1 rfl (lv_room (Nat.le_of_ble_eq_true rfl)) dX2_readInto_5 ⟨Nat.le_refl _, Nat.le_refl _⟩) (fun u5 hd H locs hP hD hS => ?_)
  refine lv_iconst (v := 1) hx hb dX2_readInto_8 ki_1 ?_
  refine lv_istore_n (lv' := [(3, .int (1 : Int32)), (0, .ref (a_x 0)), (1, .ref (a_h 0)), (2, .ref (a_p 0))]) hx hb dX2_readInto_9 rfl hl (Nat.le_of_ble_eq_true rfl) rfl (fun ls hl => ?_)
  exact b10   u5 s_h (1 : Int32) hd _ _ _ hP hD hS (lv_sub hl [1, 2, 0] rfl)
