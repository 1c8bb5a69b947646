theorem fiX6_trialGoesBy_X1 : ∀ w ∈ wsX10, w ∈ wsX6_trialGoesBy := mem_r _ [68, 69, 70, 71, 72, 73, 74, 75, 76, 77, 78, 79] rfl
theorem fiX6_trialGoesBy_X3 : ∀ w ∈ wsX30, w ∈ wsX6_trialGoesBy := mem_r _ [57, 58, 59] rfl
theorem fiX6_trialGoesBy_X6 : ∀ w ∈ wsX60, w ∈ wsX6_trialGoesBy := mem_r _ [60, 61, 62, 63, 64, 65, 66, 67] rfl
set_option maxHeartbeats 8000000 in
set_option maxRecDepth 100000 in
theorem c_X6_trialGoesBy (l : Launch) (dC : Nat → ClassId) (dI : Nat → Nat → Nat) (cI cJ cQ : ClassId) (fu : Nat) (a_g a_h a_q a_k a_p a_x a_s : Nat → Nat) (a_1 : Nat → Nat) (sz : Nat) (s_g : Int32) (s_q : PS) (s_1 : S1S) (x2 : Int32) (r : Int32 × PS) (hd : fX6_trialGoesBy fu  s_g s_q s_1 x2 = some r) : mUi l yX6_trialGoesBy wsX6_trialGoesBy (gRm 5 113) [.ref (a_g 0), .ref (a_1 0), .int x2] (dC, dI) vwCl (gty cI cJ cQ) (wGO a_g a_h a_q a_k a_p a_x a_s s_g ++ (wP cI cJ a_q s_q ++ (wS1 cI cJ a_1 s_1))) sz (fun u : PS => (wGO a_g a_h a_q a_k a_p a_x a_s s_g ++ (wP cI cJ a_q u ++ (wS1 cI cJ a_1 s_1)))) r := by
  refine Met.ofW (cc := cX6_trialGoesBy) (maxL := 4) (ret := (some .boolean)) (by decide) rfl ?_
  intro p e s m args below meth c s₁ B hml hv
  obtain ⟨hav, hsz, hP, hK, hD0⟩ := hv
  subst hsz
  have hD := hD0.self (sz := s.heap.size)
  generalize hAe : va_A (wGO a_g a_h a_q a_k a_p a_x a_s s_g ++ (wP cI cJ a_q s_q ++ (wS1 cI cJ a_1 s_1))) s.heap.size = A at hD ⊢
  have hA : ∀ q : Nat, s.heap.size ≤ q → A q := fun q h => by rw [← hAe]; exact Or.inr h
  have hS : va_S A s.heap s.heap [] := va_S.rf
  have hx := B.exec
  have hb := B.bytes
  have hr := B.returns
  have hts := atoms_spec (ws := wsX6_trialGoesBy) B.pre
  have hown : s.vm.findClass RX6 = some m.cls := findClass_of_methodNamed B.named
  have hlocks := B.notSynchronized
  have hcf : CallFix p m c cX6_trialGoesBy 4 s args wsX6_trialGoesBy RX6 := ⟨hx, hb, hml, hown, hts⟩
  have fl_206 := hts (.fieldLink RX6 206 "BucketGift$Sheet" "size" "I") (List.mem_of_getElem? (i := 1) rfl)
  have fl_213 := hts (.fieldLink RX6 213 "BucketGift$Sheet" "numbers" "[J") (List.mem_of_getElem? (i := 2) rfl)
  have fl_20 := hts (.fieldLink RX6 20 "BucketGift" "trial" "LBucketGift$Parish;") (List.mem_of_getElem? (i := 3) rfl)
  have fl_133 := hts (.fieldLink RX6 133 "BucketGift$Parish" "store" "[I") (List.mem_of_getElem? (i := 4) rfl)
  have hg : entryFrame m args 4 = entryFrame m ([.ref (a_g 0), .ref (a_1 0), .int x2] : List Value).toArray 4 := by rw [hav]
  rw [hg, lg_entry_eq]
  have hl := lv_entry ([.ref (a_g 0), .ref (a_1 0), .int x2]) (n := 4) (Nat.le_of_ble_eq_true rfl)
  generalize (lg_sl ([.ref (a_g 0), .ref (a_1 0), .int x2]) ++ List.replicate (4 - (lg_sl ([.ref (a_g 0), .ref (a_1 0), .int x2])).length) Slot.unset).toArray = ls at hl ⊢
  have hl : lv_has ls 4 [(0, .ref (a_g 0)), (1, .ref (a_1 0)), (2, .int x2)] := hl
  clear hg
  unfold fX6_trialGoesBy at hd
  have b2 : ∀ (x2 : Int32) (s_q : PS) (x3 : Int32), fX6_trialGoesBy_b2 fu s_g s_1   x2 s_q x3 = some r → bk_U p l e (headSpec wsX6_trialGoesBy (gRm 5 113)).room s m args below meth c (qUi below args s (dC, dI) vwCl (gty cI cJ cQ) A (fun u : PS => (wGO a_g a_h a_q a_k a_p a_x a_s s_g ++ (wP cI cJ a_q u ++ (wS1 cI cJ a_1 s_1)))) r) (dC, dI) vwCl A 4 (wGO a_g a_h a_q a_k a_p a_x a_s s_g ++ (wP cI cJ a_q s_q ++ (wS1 cI cJ a_1 s_1))) 2 [(0, .ref (a_g 0)), (1, .ref (a_1 0)), (2, .int x2), (3, .int x3)] [] := by
    intro x2
    have L : ∀ (n : Nat) (s_q : PS) (x3 : Int32), g_lp (fun _ _ => none) (fX6_trialGoesBy_b2B fu s_g s_1   x2) n s_q x3 = some r → bk_U p l e (headSpec wsX6_trialGoesBy (gRm 5 113)).room s m args below meth c (qUi below args s (dC, dI) vwCl (gty cI cJ cQ) A (fun u : PS => (wGO a_g a_h a_q a_k a_p a_x a_s s_g ++ (wP cI cJ a_q u ++ (wS1 cI cJ a_1 s_1)))) r) (dC, dI) vwCl A 4 (wGO a_g a_h a_q a_k a_p a_x a_s s_g ++ (wP cI cJ a_q s_q ++ (wS1 cI cJ a_1 s_1))) 2 [(0, .ref (a_g 0)), (1, .ref (a_1 0)), (2, .int x2), (3, .int x3)] [] := by
      intro n
      induction n with
      | zero => intro s_q x3 hd; exact absurd hd (by intro h; cases h)
      | succ n k2 =>
        intro s_q x3 hd
        intro H locs ls hP hD hS hl
        have hd : fX6_trialGoesBy_b2B fu s_g s_1   x2 (g_lp (fun _ _ => none) (fX6_trialGoesBy_b2B fu s_g s_1   x2) n) s_q x3 = some r := hd
        unfold fX6_trialGoesBy_b2B at hd
        refine lv_iload_n hx hb dX6_trialGoesBy_2 rfl (lv_at hl 3 rfl) ?_
        refine lv_aload_n hx hb dX6_trialGoesBy_3 rfl (lv_at hl 1 rfl) ?_
        refine rx_get hx hb hts fiX6_trialGoesBy_X3 hown hK hP 11 rfl rfl 1 (Nat.le_of_ble_eq_true rfl) fl_206 rfl rfl dX6_trialGoesBy_4 ?_
        refine rx_icmp_ge hx hb 45 dX6_trialGoesBy_7 rfl hd (fun hd => ?_) (fun hd => ?_)
        · refine lv_iconst (v := 1) hx hb dX6_trialGoesBy_45 ki_1 ?_
          exact rx_retUz (u := s_q) (w1 := (fun u : PS => (wGO a_g a_h a_q a_k a_p a_x a_s s_g ++ (wP cI cJ a_q u ++ (wS1 cI cJ a_1 s_1))))) hx hb hr hlocks hd hK hP hD hS dX6_trialGoesBy_46
        refine lv_aload_n hx hb dX6_trialGoesBy_10 rfl (lv_at hl 1 rfl) ?_
        refine rx_get hx hb hts fiX6_trialGoesBy_X3 hown hK hP 11 rfl rfl 2 (Nat.le_of_ble_eq_true rfl) fl_213 rfl rfl dX6_trialGoesBy_11 ?_
        refine lv_iload_n hx hb dX6_trialGoesBy_14 rfl (lv_at hl 3 rfl) ?_
        refine rx_lald hx hb hK hP 12 1 rfl rfl hd dX6_trialGoesBy_15 (fun v15 hd => ?_)
        refine lv_aload_n hx hb dX6_trialGoesBy_16 rfl (lv_at hl 0 rfl) ?_
        refine rx_get hx hb hts fiX6_trialGoesBy_X6 hown hK hP 0 rfl rfl 2 (Nat.le_of_ble_eq_true rfl) fl_20 rfl rfl dX6_trialGoesBy_17 ?_
        refine rx_get hx hb hts fiX6_trialGoesBy_X1 hown hK hP 1 rfl rfl 1 (Nat.le_of_ble_eq_true rfl) fl_133 rfl rfl dX6_trialGoesBy_20 ?_
        refine lv_iload_n hx hb dX6_trialGoesBy_23 rfl (lv_at hl 2 rfl) ?_
        refine rx_iald hx hb hK hP 3 0 rfl rfl hd dX6_trialGoesBy_24 (fun v24 hd => ?_)
        refine lv_i2l hx hb dX6_trialGoesBy_25 rfl ?_
        refine W.lcmp hx hb dX6_trialGoesBy_26 ?_
        refine rx_if_eq hx hb 32 dX6_trialGoesBy_27 rfl hd (fun hd => ?_) (fun hd => ?_)
        · refine lv_aload_n hx hb dX6_trialGoesBy_32 rfl (lv_at hl 0 rfl) ?_
          refine rx_get hx hb hts fiX6_trialGoesBy_X6 hown hK hP 0 rfl rfl 2 (Nat.le_of_ble_eq_true rfl) fl_20 rfl rfl dX6_trialGoesBy_33 ?_
          refine rx_upv (fun u => (wGO a_g a_h a_q a_k a_p a_x a_s s_g ++ (wP cI cJ a_q u ++ (wS1 cI cJ a_1 s_1)))) hd hP hD hS hA ⟨[1, 2, 3, 4, 5, 6, 7, 8, 9, 10], [0, 11, 12], [0, 3, 4, 5, 6, 7, 8, 9, 10, 11, 12, 1, 2], wGO a_g a_h a_q a_k a_p a_x a_s s_g ++ (wS1 cI cJ a_1 s_1), rfl, rfl, rfl, by decide, rfl, fun _ => rfl⟩ (fun v hv => va_runV (As := []) (rest := []) hcf (c_X1_passDay l dC dI cI cJ cQ fu a_q _  s_q  v hv) (cwV 0 hts gX6_trialGoesBy_X1_passDay rfl rfl rfl cd_X1_passDay ⟨(Nat.le_of_ble_eq_true rfl), (Nat.le_of_ble_eq_true rfl)⟩) (cq_U_V (q0 := 1) (ci := 0) hK hP hD [1, 2, 3, 4, 5, 6, 7, 8, 9, 10] rfl rfl rfl rfl) rfl rfl hl.1 rfl (lv_room (Nat.le_of_ble_eq_true rfl)) dX6_trialGoesBy_36 ⟨Nat.le_refl _, Nat.le_refl _⟩) (fun u36 hd H locs hP hD hS => ?_)
          refine rx_iinc (lv' := fun z => (3, .int z) :: [(0, .ref (a_g 0)), (1, .ref (a_1 0)), (2, .int x2)]) hx hb (j := 3) dX6_trialGoesBy_39 hl rfl ki_1 hd (Nat.le_of_ble_eq_true rfl) (fun _ => rfl) (fun x3_39 hd ls hl => ?_)
          refine lv_goto (tgt := 2) hx hb dX6_trialGoesBy_42 rfl ?_
          exact k2 u36 x3_39 hd _ _ _ hP hD hS (lv_sub hl [1, 2, 3, 0] rfl)
        refine lv_iconst (v := 0) hx hb dX6_trialGoesBy_30 ki_0 ?_
        exact rx_retUz (u := s_q) (w1 := (fun u : PS => (wGO a_g a_h a_q a_k a_p a_x a_s s_g ++ (wP cI cJ a_q u ++ (wS1 cI cJ a_1 s_1))))) hx hb hr hlocks hd hK hP hD hS dX6_trialGoesBy_31
    exact fun s_q x3 => L fu s_q x3
  refine lv_iconst (v := 0) hx hb dX6_trialGoesBy_0 ki_0 ?_
  refine lv_istore_n (lv' := [(3, .int (0 : Int32)), (0, .ref (a_g 0)), (1, .ref (a_1 0)), (2, .int x2)]) hx hb dX6_trialGoesBy_1 rfl hl (Nat.le_of_ble_eq_true rfl) rfl (fun ls hl => ?_)
  exact b2   x2 s_q (0 : Int32) hd _ _ _ hP hD hS (lv_sub hl [1, 2, 3, 0] rfl)
theorem fiX6_read_X1 : ∀ w ∈ wsX10, w ∈ wsX6_read := mem_r _ [103, 104, 105, 106, 107, 108, 109, 110, 111, 112, 113, 114] rfl
theorem fiX6_read_X6 : ∀ w ∈ wsX60, w ∈ wsX6_read := mem_r _ [95, 96, 97, 98, 99, 100, 101, 102] rfl
set_option maxHeartbeats 8000000 in
set_option maxRecDepth 100000 in
theorem c_X6_read (l : Launch) (dC : Nat → ClassId) (dI : Nat → Nat → Nat) (cI cJ cQ : ClassId) (fu : Nat) (a_g a_h a_q a_k a_p a_x a_s : Nat → Nat) (sz : Nat) (s_g : Int32) (s_o : (Nat → Int32)) (s_h : PS) (s_q : PS) (s_s : SHS) (x1 : Int32) (x2 : Int32) (r : Int32 × (Nat → Int32) × PS) (hd : fX6_read fu  s_g s_o s_h s_q s_s x1 x2 = some r) : mUi l yX6_read wsX6_read (gRm 6 136) [.ref (a_g 0), .int x1, .int x2] (dC, dI) vwCl (gty cI cJ cQ) (wGO a_g a_h a_q a_k a_p a_x a_s s_g ++ (wGT cI a_g s_o ++ (wP cI cJ a_h s_h ++ (wP cI cJ a_q s_q ++ (wSH cJ cQ a_s s_s))))) sz (fun u : (Nat → Int32) × PS => (wGO a_g a_h a_q a_k a_p a_x a_s s_g ++ (wGT cI a_g u.1 ++ (wP cI cJ a_h s_h ++ (wP cI cJ a_q u.2 ++ (wSH cJ cQ a_s s_s)))))) r := by
  refine Met.ofW (cc := cX6_read) (maxL := 5) (ret := (some .int)) (by decide) rfl ?_
  intro p e s m args below meth c s₁ B hml hv
  obtain ⟨hav, hsz, hP, hK, hD0⟩ := hv
  subst hsz
  have hD := hD0.self (sz := s.heap.size)
  generalize hAe : va_A (wGO a_g a_h a_q a_k a_p a_x a_s s_g ++ (wGT cI a_g s_o ++ (wP cI cJ a_h s_h ++ (wP cI cJ a_q s_q ++ (wSH cJ cQ a_s s_s))))) s.heap.size = A at hD ⊢
  have hA : ∀ q : Nat, s.heap.size ≤ q → A q := fun q h => by rw [← hAe]; exact Or.inr h
  have hS : va_S A s.heap s.heap [] := va_S.rf
  have hx := B.exec
  have hb := B.bytes
  have hr := B.returns
  have hts := atoms_spec (ws := wsX6_read) B.pre
  have hown : s.vm.findClass RX6 = some m.cls := findClass_of_methodNamed B.named
  have hlocks := B.notSynchronized
  have hcf : CallFix p m c cX6_read 5 s args wsX6_read RX6 := ⟨hx, hb, hml, hown, hts⟩
  have fl_46 := hts (.fieldLink RX6 46 "BucketGift" "sheets" "[LBucketGift$Sheet;") (List.mem_of_getElem? (i := 1) rfl)
  have fl_16 := hts (.fieldLink RX6 16 "BucketGift" "here" "LBucketGift$Parish;") (List.mem_of_getElem? (i := 2) rfl)
  have fl_84 := hts (.fieldLink RX6 84 "BucketGift$Parish" "people" "I") (List.mem_of_getElem? (i := 3) rfl)
  have fl_20 := hts (.fieldLink RX6 20 "BucketGift" "trial" "LBucketGift$Parish;") (List.mem_of_getElem? (i := 4) rfl)
  have fl_147 := hts (.fieldLink RX6 147 "BucketGift$Parish" "sends" "[I") (List.mem_of_getElem? (i := 5) rfl)
  have hg : entryFrame m args 5 = entryFrame m ([.ref (a_g 0), .int x1, .int x2] : List Value).toArray 5 := by rw [hav]
  rw [hg, lg_entry_eq]
  have hl := lv_entry ([.ref (a_g 0), .int x1, .int x2]) (n := 5) (Nat.le_of_ble_eq_true rfl)
  generalize (lg_sl ([.ref (a_g 0), .int x1, .int x2]) ++ List.replicate (5 - (lg_sl ([.ref (a_g 0), .int x1, .int x2])).length) Slot.unset).toArray = ls at hl ⊢
  have hl : lv_has ls 5 [(0, .ref (a_g 0)), (1, .int x1), (2, .int x2)] := hl
  clear hg
  unfold fX6_read at hd
  have b49 : ∀ (x1 : Int32) (x2 : Int32) (s_o : (Nat → Int32)) (s_q : PS) (x3 : Int32) (x4 : Int32), fX6_read_b49 fu s_g s_h s_s   x1 x2 s_o s_q x3 x4 = some r → bk_U p l e (headSpec wsX6_read (gRm 6 136)).room s m args below meth c (qUi below args s (dC, dI) vwCl (gty cI cJ cQ) A (fun u : (Nat → Int32) × PS => (wGO a_g a_h a_q a_k a_p a_x a_s s_g ++ (wGT cI a_g u.1 ++ (wP cI cJ a_h s_h ++ (wP cI cJ a_q u.2 ++ (wSH cJ cQ a_s s_s)))))) r) (dC, dI) vwCl A 5 (wGO a_g a_h a_q a_k a_p a_x a_s s_g ++ (wGT cI a_g s_o ++ (wP cI cJ a_h s_h ++ (wP cI cJ a_q s_q ++ (wSH cJ cQ a_s s_s))))) 49 [(0, .ref (a_g 0)), (1, .int x1), (2, .int x2), (3, .int x3), (4, .int x4)] [] := by
    intro x1 x2
    have L : ∀ (n : Nat) (s_o : (Nat → Int32)) (s_q : PS) (x3 : Int32) (x4 : Int32), g_lp (fun _ _ _ _ => none) (fX6_read_b49B fu s_g s_h s_s   x1 x2) n s_o s_q x3 x4 = some r → bk_U p l e (headSpec wsX6_read (gRm 6 136)).room s m args below meth c (qUi below args s (dC, dI) vwCl (gty cI cJ cQ) A (fun u : (Nat → Int32) × PS => (wGO a_g a_h a_q a_k a_p a_x a_s s_g ++ (wGT cI a_g u.1 ++ (wP cI cJ a_h s_h ++ (wP cI cJ a_q u.2 ++ (wSH cJ cQ a_s s_s)))))) r) (dC, dI) vwCl A 5 (wGO a_g a_h a_q a_k a_p a_x a_s s_g ++ (wGT cI a_g s_o ++ (wP cI cJ a_h s_h ++ (wP cI cJ a_q s_q ++ (wSH cJ cQ a_s s_s))))) 49 [(0, .ref (a_g 0)), (1, .int x1), (2, .int x2), (3, .int x3), (4, .int x4)] [] := by
      intro n
      induction n with
      | zero => intro s_o s_q x3 x4 hd; exact absurd hd (by intro h; cases h)
      | succ n k49 =>
        intro s_o s_q x3 x4 hd
        intro H locs ls hP hD hS hl
        have hd : fX6_read_b49B fu s_g s_h s_s   x1 x2 (g_lp (fun _ _ _ _ => none) (fX6_read_b49B fu s_g s_h s_s   x1 x2) n) s_o s_q x3 x4 = some r := hd
        unfold fX6_read_b49B at hd
        refine lv_iload hx hb dX6_read_49 (lv_at hl 4 rfl) ?_
        refine lv_aload_n hx hb dX6_read_51 rfl (lv_at hl 0 rfl) ?_
        refine rx_get hx hb hts fiX6_read_X6 hown hK hP 0 rfl rfl 1 (Nat.le_of_ble_eq_true rfl) fl_16 rfl rfl dX6_read_52 ?_
        refine rx_get hx hb hts fiX6_read_X1 hown hK hP 2 rfl rfl 7 (Nat.le_of_ble_eq_true rfl) fl_84 rfl rfl dX6_read_55 ?_
        refine rx_icmp_ge hx hb 106 dX6_read_58 rfl hd (fun hd => ?_) (fun hd => ?_)
        · refine lv_iload_n hx hb dX6_read_106 rfl (lv_at hl 3 rfl) ?_
          exact rx_retUi (u := (s_o, s_q)) (w1 := (fun u : (Nat → Int32) × PS => (wGO a_g a_h a_q a_k a_p a_x a_s s_g ++ (wGT cI a_g u.1 ++ (wP cI cJ a_h s_h ++ (wP cI cJ a_q u.2 ++ (wSH cJ cQ a_s s_s))))))) hx hb hr hlocks hd hK hP hD hS dX6_read_107
        refine lv_aload_n hx hb dX6_read_61 rfl (lv_at hl 0 rfl) ?_
        refine rx_get hx hb hts fiX6_read_X6 hown hK hP 0 rfl rfl 2 (Nat.le_of_ble_eq_true rfl) fl_20 rfl rfl dX6_read_62 ?_
        refine lv_aload_n hx hb dX6_read_65 rfl (lv_at hl 0 rfl) ?_
        refine rx_get hx hb hts fiX6_read_X6 hown hK hP 0 rfl rfl 1 (Nat.le_of_ble_eq_true rfl) fl_16 rfl rfl dX6_read_66 ?_
        refine rx_upv (fun u => (wGO a_g a_h a_q a_k a_p a_x a_s s_g ++ (wGT cI a_g s_o ++ (wP cI cJ a_h s_h ++ (wP cI cJ a_q u ++ (wSH cJ cQ a_s s_s)))))) hd hP hD hS hA ⟨[12, 13, 14, 15, 16, 17, 18, 19, 20, 21, 2, 3, 4, 5, 6, 7, 8, 9, 10, 11], [0, 1, 22, 23, 24, 25, 26, 27, 28, 29, 30], [0, 1, 21, 22, 23, 24, 25, 26, 27, 28, 29, 30, 11, 12, 13, 14, 15, 16, 17, 18, 19, 20, 2, 3, 4, 5, 6, 7, 8, 9, 10], wGO a_g a_h a_q a_k a_p a_x a_s s_g ++ (wGT cI a_g s_o ++ (wSH cJ cQ a_s s_s)), rfl, rfl, rfl, by decide, rfl, fun _ => rfl⟩ (fun v hv => va_runV (As := [.ref (a_h 0)]) (rest := []) hcf (c_X1_become l dC dI cI cJ cQ fu a_q a_h _  s_q s_h  v hv) (cwV 1 hts gX6_read_X1_become rfl rfl rfl cd_X1_become ⟨(Nat.le_of_ble_eq_true rfl), (Nat.le_of_ble_eq_true rfl)⟩) (cq_U_V (q0 := 12) (ci := 0) hK hP hD [12, 13, 14, 15, 16, 17, 18, 19, 20, 21, 2, 3, 4, 5, 6, 7, 8, 9, 10, 11] rfl rfl rfl rfl) rfl rfl hl.1 rfl (lv_room (Nat.le_of_ble_eq_true rfl)) dX6_read_69 ⟨Nat.le_refl _, Nat.le_refl _⟩) (fun u69 hd H locs hP hD hS => ?_)
        refine lv_aload_n hx hb dX6_read_72 rfl (lv_at hl 0 rfl) ?_
        refine rx_get hx hb hts fiX6_read_X6 hown hK hP 0 rfl rfl 2 (Nat.le_of_ble_eq_true rfl) fl_20 rfl rfl dX6_read_73 ?_
        refine rx_get hx hb hts fiX6_read_X1 hown hK hP 12 rfl rfl 3 (Nat.le_of_ble_eq_true rfl) fl_147 rfl rfl dX6_read_76 ?_
        refine lv_iload_n hx hb dX6_read_79 rfl (lv_at hl 2 rfl) ?_
        refine lv_iload hx hb dX6_read_80 (lv_at hl 4 rfl) ?_
        refine rx_iast (wGO a_g a_h a_q a_k a_p a_x a_s s_g ++ (wGT cI a_g s_o ++ (wP cI cJ a_h s_h ++ (wP cI cJ a_q (puSends u69 (Int32.toNatClampNeg x2) x4) ++ (wSH cJ cQ a_s s_s))))) hx hb hK hP hD hS 16 0 rfl rfl hd (g_setR (j := 15) rfl (g_setR (j := 14) rfl (g_setR (j := 4) rfl (g_setL (Nat.le_of_ble_eq_true rfl) (wP_uSends ..))))) dX6_read_82 (fun hd H locs hP hD hS => ?_)
        refine lv_aload_n hx hb dX6_read_83 rfl (lv_at hl 0 rfl) ?_
        refine lv_aload_n hx hb dX6_read_84 rfl (lv_at hl 0 rfl) ?_
        refine rx_get hx hb hts fiX6_read_X6 hown hK hP 0 rfl rfl 7 (Nat.le_of_ble_eq_true rfl) fl_46 rfl rfl dX6_read_85 ?_
        refine lv_iload_n hx hb dX6_read_88 rfl (lv_at hl 1 rfl) ?_
        refine rx_aald (b := a_s) hx hb hK hP 22 2 rfl rfl hd dX6_read_89 (fun k89 hk89 hd => ?_)
        refine lv_iload_n hx hb dX6_read_90 rfl (lv_at hl 2 rfl) ?_
        refine rx_upi (fun u => (wGO a_g a_h a_q a_k a_p a_x a_s s_g ++ (wGT cI a_g s_o ++ (wP cI cJ a_h s_h ++ (wP cI cJ a_q u ++ (wSH cJ cQ a_s s_s)))))) hd hP hD hS hA (g_four (P := fun k => cq_J (S := PS) (wGO a_g a_h a_q a_k a_p a_x a_s s_g ++ (wGT cI a_g s_o ++ (wP cI cJ a_h s_h ++ (wP cI cJ a_q (puSends u69 (Int32.toNatClampNeg x2) x4) ++ (wSH cJ cQ a_s s_s))))) (wGO a_g a_h a_q a_k a_p a_x a_s s_g ++ (wP cI cJ a_q (puSends u69 (Int32.toNatClampNeg x2) x4) ++ (wS1 cI cJ (fun j => a_s (1 + 4 * j + k)) (sGet s_s k)))) (fun u => (wGO a_g a_h a_q a_k a_p a_x a_s s_g ++ (wP cI cJ a_q u ++ (wS1 cI cJ (fun j => a_s (1 + 4 * j + k)) (sGet s_s k))))) (fun u => (wGO a_g a_h a_q a_k a_p a_x a_s s_g ++ (wGT cI a_g s_o ++ (wP cI cJ a_h s_h ++ (wP cI cJ a_q u ++ (wSH cJ cQ a_s s_s))))))) ⟨[0, 12, 13, 14, 15, 16, 17, 18, 19, 20, 21, 23, 27], [1, 2, 3, 4, 5, 6, 7, 8, 9, 10, 11, 22, 24, 25, 26, 28, 29, 30], [18, 0, 1, 2, 3, 4, 5, 6, 7, 8, 9, 10, 19, 20, 21, 22, 23, 24, 25, 26, 27, 28, 11, 29, 12, 13, 14, 30, 15, 16, 17], wGT cI a_g s_o ++ (wP cI cJ a_h s_h ++ ([(a_s 0, .inl (cQ, 4, .inr (.inr (.inr (.inr (fun k => some (a_s (1 + k)))))))), (a_s 2, .inr (2, [.int (sgBits s_s 1), .int (sgSize s_s 1), .ref (a_s 6)])), (a_s 3, .inr (2, [.int (sgBits s_s 2), .int (sgSize s_s 2), .ref (a_s 7)])), (a_s 4, .inr (2, [.int (sgBits s_s 3), .int (sgSize s_s 3), .ref (a_s 8)])), (a_s 6, .inl (cJ, 40, .inr (.inl (sgNumbers s_s 1)))), (a_s 7, .inl (cJ, 40, .inr (.inl (sgNumbers s_s 2)))), (a_s 8, .inl (cJ, 40, .inr (.inl (sgNumbers s_s 3))))])), rfl, rfl, rfl, by decide, rfl, fun _ => rfl⟩ ⟨[0, 12, 13, 14, 15, 16, 17, 18, 19, 20, 21, 24, 28], [1, 2, 3, 4, 5, 6, 7, 8, 9, 10, 11, 22, 23, 25, 26, 27, 29, 30], [18, 0, 1, 2, 3, 4, 5, 6, 7, 8, 9, 10, 19, 20, 21, 22, 23, 24, 25, 26, 27, 28, 11, 12, 29, 13, 14, 15, 30, 16, 17], wGT cI a_g s_o ++ (wP cI cJ a_h s_h ++ ([(a_s 0, .inl (cQ, 4, .inr (.inr (.inr (.inr (fun k => some (a_s (1 + k)))))))), (a_s 1, .inr (2, [.int (sgBits s_s 0), .int (sgSize s_s 0), .ref (a_s 5)])), (a_s 3, .inr (2, [.int (sgBits s_s 2), .int (sgSize s_s 2), .ref (a_s 7)])), (a_s 4, .inr (2, [.int (sgBits s_s 3), .int (sgSize s_s 3), .ref (a_s 8)])), (a_s 5, .inl (cJ, 40, .inr (.inl (sgNumbers s_s 0)))), (a_s 7, .inl (cJ, 40, .inr (.inl (sgNumbers s_s 2)))), (a_s 8, .inl (cJ, 40, .inr (.inl (sgNumbers s_s 3))))])), rfl, rfl, rfl, by decide, rfl, fun _ => rfl⟩ ⟨[0, 12, 13, 14, 15, 16, 17, 18, 19, 20, 21, 25, 29], [1, 2, 3, 4, 5, 6, 7, 8, 9, 10, 11, 22, 23, 24, 26, 27, 28, 30], [18, 0, 1, 2, 3, 4, 5, 6, 7, 8, 9, 10, 19, 20, 21, 22, 23, 24, 25, 26, 27, 28, 11, 12, 13, 29, 14, 15, 16, 30, 17], wGT cI a_g s_o ++ (wP cI cJ a_h s_h ++ ([(a_s 0, .inl (cQ, 4, .inr (.inr (.inr (.inr (fun k => some (a_s (1 + k)))))))), (a_s 1, .inr (2, [.int (sgBits s_s 0), .int (sgSize s_s 0), .ref (a_s 5)])), (a_s 2, .inr (2, [.int (sgBits s_s 1), .int (sgSize s_s 1), .ref (a_s 6)])), (a_s 4, .inr (2, [.int (sgBits s_s 3), .int (sgSize s_s 3), .ref (a_s 8)])), (a_s 5, .inl (cJ, 40, .inr (.inl (sgNumbers s_s 0)))), (a_s 6, .inl (cJ, 40, .inr (.inl (sgNumbers s_s 1)))), (a_s 8, .inl (cJ, 40, .inr (.inl (sgNumbers s_s 3))))])), rfl, rfl, rfl, by decide, rfl, fun _ => rfl⟩ ⟨[0, 12, 13, 14, 15, 16, 17, 18, 19, 20, 21, 26, 30], [1, 2, 3, 4, 5, 6, 7, 8, 9, 10, 11, 22, 23, 24, 25, 27, 28, 29], [18, 0, 1, 2, 3, 4, 5, 6, 7, 8, 9, 10, 19, 20, 21, 22, 23, 24, 25, 26, 27, 28, 11, 12, 13, 14, 29, 15, 16, 17, 30], wGT cI a_g s_o ++ (wP cI cJ a_h s_h ++ ([(a_s 0, .inl (cQ, 4, .inr (.inr (.inr (.inr (fun k => some (a_s (1 + k)))))))), (a_s 1, .inr (2, [.int (sgBits s_s 0), .int (sgSize s_s 0), .ref (a_s 5)])), (a_s 2, .inr (2, [.int (sgBits s_s 1), .int (sgSize s_s 1), .ref (a_s 6)])), (a_s 3, .inr (2, [.int (sgBits s_s 2), .int (sgSize s_s 2), .ref (a_s 7)])), (a_s 5, .inl (cJ, 40, .inr (.inl (sgNumbers s_s 0)))), (a_s 6, .inl (cJ, 40, .inr (.inl (sgNumbers s_s 1)))), (a_s 7, .inl (cJ, 40, .inr (.inl (sgNumbers s_s 2))))])), rfl, rfl, rfl, by decide, rfl, fun _ => rfl⟩ k89 hk89) (fun v hv => va_runV (As := [.ref (a_s (1 + k89)), .int x2]) (rest := []) hcf (c_X6_trialGoesBy l dC dI cI cJ cQ fu a_g a_h a_q a_k a_p a_x a_s (fun j => a_s (1 + 4 * j + k89)) _  s_g (puSends u69 (Int32.toNatClampNeg x2) x4) (sGet s_s k89) x2 v hv) (cwV 2 hts gX6_read_X6_trialGoesBy rfl rfl rfl cd_X6_trialGoesBy ⟨(Nat.le_of_ble_eq_true rfl), (Nat.le_of_ble_eq_true rfl)⟩) (cq_U_V (q0 := 0) (ci := 5) hK hP hD [0, 12, 13, 14, 15, 16, 17, 18, 19, 20, 21, (1 + (1 + (10 + (10 + (1 + k89))))), (1 + (1 + (10 + (10 + (5 + k89)))))] (g_four (P := fun k => va_nd [0, 12, 13, 14, 15, 16, 17, 18, 19, 20, 21, (1 + (1 + (10 + (10 + (1 + k))))), (1 + (1 + (10 + (10 + (5 + k)))))] = true) rfl rfl rfl rfl k89 hk89) (g_four (P := fun k => [0, 12, 13, 14, 15, 16, 17, 18, 19, 20, 21, (1 + (1 + (10 + (10 + (1 + k))))), (1 + (1 + (10 + (10 + (5 + k)))))].map (fun i => (wGO a_g a_h a_q a_k a_p a_x a_s s_g ++ (wGT cI a_g s_o ++ (wP cI cJ a_h s_h ++ (wP cI cJ a_q (puSends u69 (Int32.toNatClampNeg x2) x4) ++ (wSH cJ cQ a_s s_s)))))[i]?) = (wGO a_g a_h a_q a_k a_p a_x a_s s_g ++ (wP cI cJ a_q (puSends u69 (Int32.toNatClampNeg x2) x4) ++ (wS1 cI cJ (fun j => a_s (1 + 4 * j + k)) (sGet s_s k)))).map some) rfl rfl rfl rfl k89 hk89) rfl rfl) rfl rfl hl.1 rfl (lv_room (Nat.le_of_ble_eq_true rfl)) dX6_read_91 ⟨Nat.le_refl _, Nat.le_refl _⟩) (fun u91 hd H locs hP hD hS => ?_)
        refine rx_if_eq hx hb 100 dX6_read_94 rfl hd (fun hd => ?_) (fun hd => ?_)
        · refine rx_iinc (lv' := fun z => (4, .int z) :: [(0, .ref (a_g 0)), (1, .int x1), (2, .int x2), (3, .int x3)]) hx hb (j := 4) dX6_read_100 hl rfl ki_1 hd (Nat.le_of_ble_eq_true rfl) (fun _ => rfl) (fun x4_100 hd ls hl => ?_)
          refine lv_goto (tgt := 49) hx hb dX6_read_103 rfl ?_
          exact k49 s_o u91.2 x3 x4_100 hd _ _ _ hP hD hS (lv_sub hl [1, 2, 3, 4, 0] rfl)
        refine rx_iinc (lv' := fun z => (3, .int z) :: [(0, .ref (a_g 0)), (1, .int x1), (2, .int x2), (4, .int x4)]) hx hb (j := 3) dX6_read_97 hl rfl ki_1 hd (Nat.le_of_ble_eq_true rfl) (fun _ => rfl) (fun x3_97 hd ls hl => ?_)
        refine rx_iinc (lv' := fun z => (4, .int z) :: [(3, .int x3_97), (0, .ref (a_g 0)), (1, .int x1), (2, .int x2)]) hx hb (j := 4) dX6_read_100 hl rfl ki_1 hd (Nat.le_of_ble_eq_true rfl) (fun _ => rfl) (fun x4_100 hd ls hl => ?_)
        refine lv_goto (tgt := 49) hx hb dX6_read_103 rfl ?_
        exact k49 s_o u91.2 x3_97 x4_100 hd _ _ _ hP hD hS (lv_sub hl [2, 3, 4, 1, 0] rfl)
    exact fun s_o s_q x3 x4 => L fu s_o s_q x3 x4
  refine lv_iload_n hx hb dX6_read_0 rfl (lv_at hl 1 rfl) ?_
  refine rx_roi hd (fun v hv => W.runS (As := [.int x1]) (rest := []) hcf (c_X6_isSheet l dC dI cI cJ cQ fu    x1 v hv) (va_cwS 1 hts gX6_read_X6_isSheet rfl rfl rfl cd_X6_isSheet ⟨(Nat.le_of_ble_eq_true rfl), (Nat.le_of_ble_eq_true rfl)⟩) (cq_R_S hK hP [] rfl) rfl rfl hl.1 rfl (lv_room (Nat.le_of_ble_eq_true rfl)) dX6_read_1 ⟨Nat.le_refl _, Nat.le_refl _⟩) (fun u1 hd => ?_)
  refine rx_if_ne hx hb 13 dX6_read_4 rfl hd (fun hd => ?_) (fun hd => ?_)
  · refine lv_aload_n hx hb dX6_read_13 rfl (lv_at hl 0 rfl) ?_
    refine rx_get hx hb hts fiX6_read_X6 hown hK hP 0 rfl rfl 7 (Nat.le_of_ble_eq_true rfl) fl_46 rfl rfl dX6_read_14 ?_
    refine lv_iload_n hx hb dX6_read_17 rfl (lv_at hl 1 rfl) ?_
    refine rx_aald (b := a_s) hx hb hK hP 22 2 rfl rfl hd dX6_read_18 (fun k18 hk18 hd => ?_)
    refine rx_roi hd (fun v hv => W.runV (As := []) (rest := []) hcf (c_X3_isMissing l dC dI cI cJ cQ fu (fun j => a_s (1 + 4 * j + k18))  (sGet s_s k18)  v hv) (cwV 0 hts gX6_read_X3_isMissing rfl rfl rfl cd_X3_isMissing ⟨(Nat.le_of_ble_eq_true rfl), (Nat.le_of_ble_eq_true rfl)⟩) (cq_R_V (q0 := (1 + (1 + (10 + (10 + (1 + k18)))))) (ci := 2) hK hP [(1 + (1 + (10 + (10 + (1 + k18))))), (1 + (1 + (10 + (10 + (5 + k18)))))] (g_four (P := fun k => [(1 + (1 + (10 + (10 + (1 + k))))), (1 + (1 + (10 + (10 + (5 + k)))))].map (fun i => (wGO a_g a_h a_q a_k a_p a_x a_s s_g ++ (wGT cI a_g s_o ++ (wP cI cJ a_h s_h ++ (wP cI cJ a_q s_q ++ (wSH cJ cQ a_s s_s)))))[i]?) = (wS1 cI cJ (fun j => a_s (1 + 4 * j + k)) (sGet s_s k)).map some) rfl rfl rfl rfl k18 hk18) rfl (g_four (P := fun k => (wGO a_g a_h a_q a_k a_p a_x a_s s_g ++ (wGT cI a_g s_o ++ (wP cI cJ a_h s_h ++ (wP cI cJ a_q s_q ++ (wSH cJ cQ a_s s_s)))))[(1 + (1 + (10 + (10 + (1 + k)))))]? = some (a_s (1 + k), .inr (2, [.int (sgBits s_s k), .int (sgSize s_s k), .ref (a_s (5 + k))]))) rfl rfl rfl rfl k18 hk18)) rfl rfl hl.1 rfl (lv_room (Nat.le_of_ble_eq_true rfl)) dX6_read_19 ⟨Nat.le_refl _, Nat.le_refl _⟩) (fun u19 hd => ?_)
    refine rx_if_eq hx hb 31 dX6_read_22 rfl hd (fun hd => ?_) (fun hd => ?_)
    · refine lv_iload_n hx hb dX6_read_31 rfl (lv_at hl 2 rfl) ?_
      refine rx_roi hd (fun v hv => W.runS (As := [.int x2]) (rest := []) hcf (c_X6_isFarm l dC dI cI cJ cQ fu    x2 v hv) (va_cwS 1 hts gX6_read_X6_isFarm rfl rfl rfl cd_X6_isFarm ⟨(Nat.le_of_ble_eq_true rfl), (Nat.le_of_ble_eq_true rfl)⟩) (cq_R_S hK hP [] rfl) rfl rfl hl.1 rfl (lv_room (Nat.le_of_ble_eq_true rfl)) dX6_read_32 ⟨Nat.le_refl _, Nat.le_refl _⟩) (fun u32 hd => ?_)
      refine rx_if_ne hx hb 44 dX6_read_35 rfl hd (fun hd => ?_) (fun hd => ?_)
      · refine lv_iconst (v := 0) hx hb dX6_read_44 ki_0 ?_
        refine lv_istore_n (lv' := [(3, .int (0 : Int32)), (0, .ref (a_g 0)), (1, .int x1), (2, .int x2)]) hx hb dX6_read_45 rfl hl (Nat.le_of_ble_eq_true rfl) rfl (fun ls hl => ?_)
        refine lv_iconst (v := 0) hx hb dX6_read_46 ki_0 ?_
        refine lv_istore (lv' := [(4, .int (0 : Int32)), (3, .int (0 : Int32)), (0, .ref (a_g 0)), (1, .int x1), (2, .int x2)]) hx hb dX6_read_47 hl (Nat.le_of_ble_eq_true rfl) rfl (fun ls hl => ?_)
        exact b49   x1 x2 s_o s_q (0 : Int32) (0 : Int32) hd _ _ _ hP hD hS (lv_sub hl [2, 3, 4, 1, 0] rfl)
      refine lv_aload_n hx hb dX6_read_38 rfl (lv_at hl 0 rfl) ?_
      refine lv_iconst (v := 0) hx hb dX6_read_39 ki_0 ?_
      refine rx_upi (fun u => (wGO a_g a_h a_q a_k a_p a_x a_s s_g ++ (wGT cI a_g u ++ (wP cI cJ a_h s_h ++ (wP cI cJ a_q s_q ++ (wSH cJ cQ a_s s_s)))))) hd hP hD hS hA ⟨[0, 1], [2, 3, 4, 5, 6, 7, 8, 9, 10, 11, 12, 13, 14, 15, 16, 17, 18, 19, 20, 21, 22, 23, 24, 25, 26, 27, 28, 29, 30], [29, 30, 0, 1, 2, 3, 4, 5, 6, 7, 8, 9, 10, 11, 12, 13, 14, 15, 16, 17, 18, 19, 20, 21, 22, 23, 24, 25, 26, 27, 28], wP cI cJ a_h s_h ++ (wP cI cJ a_q s_q ++ (wSH cJ cQ a_s s_s)), rfl, rfl, rfl, by decide, rfl, fun _ => rfl⟩ (fun v hv => va_runV (As := [.int (0 : Int32)]) (rest := []) hcf (c_X6_finding l dC dI cI cJ cQ fu a_g a_h a_q a_k a_p a_x a_s _  s_g s_o (0 : Int32) v hv) (cwV 1 hts gX6_read_X6_finding rfl rfl rfl cd_X6_finding ⟨(Nat.le_of_ble_eq_true rfl), (Nat.le_of_ble_eq_true rfl)⟩) (cq_U_V (q0 := 0) (ci := 5) hK hP hD [0, 1] rfl rfl rfl rfl) rfl rfl hl.1 rfl (lv_room (Nat.le_of_ble_eq_true rfl)) dX6_read_40 ⟨Nat.le_refl _, Nat.le_refl _⟩) (fun u40 hd H locs hP hD hS => ?_)
      exact rx_retUi (u := (u40.2, s_q)) (w1 := (fun u : (Nat → Int32) × PS => (wGO a_g a_h a_q a_k a_p a_x a_s s_g ++ (wGT cI a_g u.1 ++ (wP cI cJ a_h s_h ++ (wP cI cJ a_q u.2 ++ (wSH cJ cQ a_s s_s))))))) hx hb hr hlocks hd hK hP hD hS dX6_read_43
    refine lv_aload_n hx hb dX6_read_25 rfl (lv_at hl 0 rfl) ?_
    refine lv_iconst (v := 5) hx hb dX6_read_26 ki_5 ?_
    refine rx_upi (fun u => (wGO a_g a_h a_q a_k a_p a_x a_s s_g ++ (wGT cI a_g u ++ (wP cI cJ a_h s_h ++ (wP cI cJ a_q s_q ++ (wSH cJ cQ a_s s_s)))))) hd hP hD hS hA ⟨[0, 1], [2, 3, 4, 5, 6, 7, 8, 9, 10, 11, 12, 13, 14, 15, 16, 17, 18, 19, 20, 21, 22, 23, 24, 25, 26, 27, 28, 29, 30], [29, 30, 0, 1, 2, 3, 4, 5, 6, 7, 8, 9, 10, 11, 12, 13, 14, 15, 16, 17, 18, 19, 20, 21, 22, 23, 24, 25, 26, 27, 28], wP cI cJ a_h s_h ++ (wP cI cJ a_q s_q ++ (wSH cJ cQ a_s s_s)), rfl, rfl, rfl, by decide, rfl, fun _ => rfl⟩ (fun v hv => va_runV (As := [.int (5 : Int32)]) (rest := []) hcf (c_X6_finding l dC dI cI cJ cQ fu a_g a_h a_q a_k a_p a_x a_s _  s_g s_o (5 : Int32) v hv) (cwV 1 hts gX6_read_X6_finding rfl rfl rfl cd_X6_finding ⟨(Nat.le_of_ble_eq_true rfl), (Nat.le_of_ble_eq_true rfl)⟩) (cq_U_V (q0 := 0) (ci := 5) hK hP hD [0, 1] rfl rfl rfl rfl) rfl rfl hl.1 rfl (lv_room (Nat.le_of_ble_eq_true rfl)) dX6_read_27 ⟨Nat.le_refl _, Nat.le_refl _⟩) (fun u27 hd H locs hP hD hS => ?_)
    exact rx_retUi (u := (u27.2, s_q)) (w1 := (fun u : (Nat → Int32) × PS => (wGO a_g a_h a_q a_k a_p a_x a_s s_g ++ (wGT cI a_g u.1 ++ (wP cI cJ a_h s_h ++ (wP cI cJ a_q u.2 ++ (wSH cJ cQ a_s s_s))))))) hx hb hr hlocks hd hK hP hD hS dX6_read_30
  refine lv_aload_n hx hb dX6_read_7 rfl (lv_at hl 0 rfl) ?_
  refine lv_iconst (v := 0) hx hb dX6_read_8 ki_0 ?_
  refine rx_upi (fun u => (wGO a_g a_h a_q a_k a_p a_x a_s s_g ++ (wGT cI a_g u ++ (wP cI cJ a_h s_h ++ (wP cI cJ a_q s_q ++ (wSH cJ cQ a_s s_s)))))) hd hP hD hS hA ⟨[0, 1], [2, 3, 4, 5, 6, 7, 8, 9, 10, 11, 12, 13, 14, 15, 16, 17, 18, 19, 20, 21, 22, 23, 24, 25, 26, 27, 28, 29, 30], [29, 30, 0, 1, 2, 3, 4, 5, 6, 7, 8, 9, 10, 11, 12, 13, 14, 15, 16, 17, 18, 19, 20, 21, 22, 23, 24, 25, 26, 27, 28], wP cI cJ a_h s_h ++ (wP cI cJ a_q s_q ++ (wSH cJ cQ a_s s_s)), rfl, rfl, rfl, by decide, rfl, fun _ => rfl⟩ (fun v hv => va_runV (As := [.int (0 : Int32)]) (rest := []) hcf (c_X6_finding l dC dI cI cJ cQ fu a_g a_h a_q a_k a_p a_x a_s _  s_g s_o (0 : Int32) v hv) (cwV 1 hts gX6_read_X6_finding rfl rfl rfl cd_X6_finding ⟨(Nat.le_of_ble_eq_true rfl), (Nat.le_of_ble_eq_true rfl)⟩) (cq_U_V (q0 := 0) (ci := 5) hK hP hD [0, 1] rfl rfl rfl rfl) rfl rfl hl.1 rfl (lv_room (Nat.le_of_ble_eq_true rfl)) dX6_read_9 ⟨Nat.le_refl _, Nat.le_refl _⟩) (fun u9 hd H locs hP hD hS => ?_)
  exact rx_retUi (u := (u9.2, s_q)) (w1 := (fun u : (Nat → Int32) × PS => (wGO a_g a_h a_q a_k a_p a_x a_s s_g ++ (wGT cI a_g u.1 ++ (wP cI cJ a_h s_h ++ (wP cI cJ a_q u.2 ++ (wSH cJ cQ a_s s_s))))))) hx hb hr hlocks hd hK hP hD hS dX6_read_12
theorem fiX6_image_X6 : ∀ w ∈ wsX60, w ∈ wsX6_image := mem_r _ [25, 26, 27, 28, 29, 30, 31, 32] rfl
set_option maxHeartbeats 8000000 in
set_option maxRecDepth 100000 in
theorem c_X6_image (l : Launch) (dC : Nat → ClassId) (dI : Nat → Nat → Nat) (cI cJ cQ : ClassId) (fu : Nat) (a_g a_h a_q a_k a_p a_x a_s : Nat → Nat) (sz : Nat) (s_g : Int32) (s_h : PS) (s_k : PS)  (r : Int32 × Int32 × PS) (hd : fX6_image fu  s_g s_h s_k  = some r) : mUi l yX6_image wsX6_image (gRm 2 61) [.ref (a_g 0)] (dC, dI) vwCl (gty cI cJ cQ) (wGO a_g a_h a_q a_k a_p a_x a_s s_g ++ (wP cI cJ a_h s_h ++ (wP cI cJ a_k s_k))) sz (fun u : Int32 × PS => (wGO a_g a_h a_q a_k a_p a_x a_s u.1 ++ (wP cI cJ a_h s_h ++ (wP cI cJ a_k u.2)))) r := by
  refine Met.ofW (cc := cX6_image) (maxL := 1) (ret := (some .int)) (by decide) rfl ?_
  intro p e s m args below meth c s₁ B hml hv
  obtain ⟨hav, hsz, hP, hK, hD0⟩ := hv
  subst hsz
  have hD := hD0.self (sz := s.heap.size)
  generalize hAe : va_A (wGO a_g a_h a_q a_k a_p a_x a_s s_g ++ (wP cI cJ a_h s_h ++ (wP cI cJ a_k s_k))) s.heap.size = A at hD ⊢
  have hA : ∀ q : Nat, s.heap.size ≤ q → A q := fun q h => by rw [← hAe]; exact Or.inr h
  have hS : va_S A s.heap s.heap [] := va_S.rf
  have hx := B.exec
  have hb := B.bytes
  have hr := B.returns
  have hts := atoms_spec (ws := wsX6_image) B.pre
  have hown : s.vm.findClass RX6 = some m.cls := findClass_of_methodNamed B.named
  have hlocks := B.notSynchronized
  have hcf : CallFix p m c cX6_image 1 s args wsX6_image RX6 := ⟨hx, hb, hml, hown, hts⟩
  have fl_23 := hts (.fieldLink RX6 23 "BucketGift" "kept" "LBucketGift$Parish;") (List.mem_of_getElem? (i := 1) rfl)
  have fl_16 := hts (.fieldLink RX6 16 "BucketGift" "here" "LBucketGift$Parish;") (List.mem_of_getElem? (i := 2) rfl)
  have fl_26 := hts (.fieldLink RX6 26 "BucketGift" "isKept" "Z") (List.mem_of_getElem? (i := 3) rfl)
  have hg : entryFrame m args 1 = entryFrame m ([.ref (a_g 0)] : List Value).toArray 1 := by rw [hav]
  rw [hg, lg_entry_eq]
  have hl := lv_entry ([.ref (a_g 0)]) (n := 1) (Nat.le_of_ble_eq_true rfl)
  generalize (lg_sl ([.ref (a_g 0)]) ++ List.replicate (1 - (lg_sl ([.ref (a_g 0)])).length) Slot.unset).toArray = ls at hl ⊢
  have hl : lv_has ls 1 [(0, .ref (a_g 0))] := hl
  clear hg
  unfold fX6_image at hd
  refine lv_aload_n hx hb dX6_image_0 rfl (lv_at hl 0 rfl) ?_
  refine rx_get hx hb hts fiX6_image_X6 hown hK hP 0 rfl rfl 3 (Nat.le_of_ble_eq_true rfl) fl_23 rfl rfl dX6_image_1 ?_
  refine lv_aload_n hx hb dX6_image_4 rfl (lv_at hl 0 rfl) ?_
  refine rx_get hx hb hts fiX6_image_X6 hown hK hP 0 rfl rfl 1 (Nat.le_of_ble_eq_true rfl) fl_16 rfl rfl dX6_image_5 ?_
  refine rx_upv (fun u => (wGO a_g a_h a_q a_k a_p a_x a_s s_g ++ (wP cI cJ a_h s_h ++ (wP cI cJ a_k u)))) hd hP hD hS hA ⟨[11, 12, 13, 14, 15, 16, 17, 18, 19, 20, 1, 2, 3, 4, 5, 6, 7, 8, 9, 10], [0], [0, 11, 12, 13, 14, 15, 16, 17, 18, 19, 20, 1, 2, 3, 4, 5, 6, 7, 8, 9, 10], wGO a_g a_h a_q a_k a_p a_x a_s s_g, rfl, rfl, rfl, by decide, rfl, fun _ => rfl⟩ (fun v hv => va_runV (As := [.ref (a_h 0)]) (rest := []) hcf (c_X1_become l dC dI cI cJ cQ fu a_k a_h _  s_k s_h  v hv) (cwV 1 hts gX6_image_X1_become rfl rfl rfl cd_X1_become ⟨(Nat.le_of_ble_eq_true rfl), (Nat.le_of_ble_eq_true rfl)⟩) (cq_U_V (q0 := 11) (ci := 0) hK hP hD [11, 12, 13, 14, 15, 16, 17, 18, 19, 20, 1, 2, 3, 4, 5, 6, 7, 8, 9, 10] rfl rfl rfl rfl) rfl rfl hl.1 rfl (lv_room (Nat.le_of_ble_eq_true rfl)) dX6_image_8 ⟨Nat.le_refl _, Nat.le_refl _⟩) (fun u8 hd H locs hP hD hS => ?_)
  refine lv_aload_n hx hb dX6_image_11 rfl (lv_at hl 0 rfl) ?_
  refine lv_iconst (v := 1) hx hb dX6_image_12 ki_1 ?_
  refine rx_putz (wGO a_g a_h a_q a_k a_p a_x a_s (1 : Int32) ++ (wP cI cJ a_h s_h ++ (wP cI cJ a_k u8))) hx hb hts fiX6_image_X6 tyX6 tyX6_ok nmX6 hown hK hP hD hS 0 rfl rfl 4 (Nat.le_of_ble_eq_true rfl) fl_26 rfl rfl rfl (Nat.le_of_ble_eq_true rfl) hd (g_setL (Nat.le_of_ble_eq_true rfl) rfl) dX6_image_13 (fun hd H locs hP hD hS => ?_)
  refine lv_iconst (v := 1) hx hb dX6_image_16 ki_1 ?_
  exact rx_retUi (u := ((1 : Int32), u8)) (w1 := (fun u : Int32 × PS => (wGO a_g a_h a_q a_k a_p a_x a_s u.1 ++ (wP cI cJ a_h s_h ++ (wP cI cJ a_k u.2))))) hx hb hr hlocks hd hK hP hD hS dX6_image_17
theorem fiX6_undo_X1 : ∀ w ∈ wsX10, w ∈ wsX6_undo := mem_r _ [41, 42, 43, 44, 45, 46, 47, 48, 49, 50, 51, 52] rfl
theorem fiX6_undo_X6 : ∀ w ∈ wsX60, w ∈ wsX6_undo := mem_r _ [33, 34, 35, 36, 37, 38, 39, 40] rfl
set_option maxHeartbeats 8000000 in
set_option maxRecDepth 100000 in
theorem c_X6_undo (l : Launch) (dC : Nat → ClassId) (dI : Nat → Nat → Nat) (cI cJ cQ : ClassId) (fu : Nat) (a_g a_h a_q a_k a_p a_x a_s : Nat → Nat) (sz : Nat) (s_g : Int32) (s_o : (Nat → Int32)) (s_h : PS) (s_k : PS)  (r : Int32 × (Nat → Int32) × PS) (hd : fX6_undo fu  s_g s_o s_h s_k  = some r) : mUi l yX6_undo wsX6_undo (gRm 2 61) [.ref (a_g 0)] (dC, dI) vwCl (gty cI cJ cQ) (wGO a_g a_h a_q a_k a_p a_x a_s s_g ++ (wGT cI a_g s_o ++ (wP cI cJ a_h s_h ++ (wP cI cJ a_k s_k)))) sz (fun u : (Nat → Int32) × PS => (wGO a_g a_h a_q a_k a_p a_x a_s s_g ++ (wGT cI a_g u.1 ++ (wP cI cJ a_h u.2 ++ (wP cI cJ a_k s_k))))) r := by
  refine Met.ofW (cc := cX6_undo) (maxL := 1) (ret := (some .int)) (by decide) rfl ?_
  intro p e s m args below meth c s₁ B hml hv
  obtain ⟨hav, hsz, hP, hK, hD0⟩ := hv
  subst hsz
  have hD := hD0.self (sz := s.heap.size)
  generalize hAe : va_A (wGO a_g a_h a_q a_k a_p a_x a_s s_g ++ (wGT cI a_g s_o ++ (wP cI cJ a_h s_h ++ (wP cI cJ a_k s_k)))) s.heap.size = A at hD ⊢
  have hA : ∀ q : Nat, s.heap.size ≤ q → A q := fun q h => by rw [← hAe]; exact Or.inr h
  have hS : va_S A s.heap s.heap [] := va_S.rf
  have hx := B.exec
  have hb := B.bytes
  have hr := B.returns
  have hts := atoms_spec (ws := wsX6_undo) B.pre
  have hown : s.vm.findClass RX6 = some m.cls := findClass_of_methodNamed B.named
  have hlocks := B.notSynchronized
  have hcf : CallFix p m c cX6_undo 1 s args wsX6_undo RX6 := ⟨hx, hb, hml, hown, hts⟩
  have fl_26 := hts (.fieldLink RX6 26 "BucketGift" "isKept" "Z") (List.mem_of_getElem? (i := 1) rfl)
  have fl_16 := hts (.fieldLink RX6 16 "BucketGift" "here" "LBucketGift$Parish;") (List.mem_of_getElem? (i := 2) rfl)
  have fl_23 := hts (.fieldLink RX6 23 "BucketGift" "kept" "LBucketGift$Parish;") (List.mem_of_getElem? (i := 3) rfl)
  have fl_84 := hts (.fieldLink RX6 84 "BucketGift$Parish" "people" "I") (List.mem_of_getElem? (i := 4) rfl)
  have hg : entryFrame m args 1 = entryFrame m ([.ref (a_g 0)] : List Value).toArray 1 := by rw [hav]
  rw [hg, lg_entry_eq]
  have hl := lv_entry ([.ref (a_g 0)]) (n := 1) (Nat.le_of_ble_eq_true rfl)
  generalize (lg_sl ([.ref (a_g 0)]) ++ List.replicate (1 - (lg_sl ([.ref (a_g 0)])).length) Slot.unset).toArray = ls at hl ⊢
  have hl : lv_has ls 1 [(0, .ref (a_g 0))] := hl
  clear hg
  unfold fX6_undo at hd
  refine lv_aload_n hx hb dX6_undo_0 rfl (lv_at hl 0 rfl) ?_
  refine rx_get hx hb hts fiX6_undo_X6 hown hK hP 0 rfl rfl 4 (Nat.le_of_ble_eq_true rfl) fl_26 rfl rfl dX6_undo_1 ?_
  refine rx_if_ne hx hb 13 dX6_undo_4 rfl hd (fun hd => ?_) (fun hd => ?_)
  · refine lv_aload_n hx hb dX6_undo_13 rfl (lv_at hl 0 rfl) ?_
    refine rx_get hx hb hts fiX6_undo_X6 hown hK hP 0 rfl rfl 1 (Nat.le_of_ble_eq_true rfl) fl_16 rfl rfl dX6_undo_14 ?_
    refine lv_aload_n hx hb dX6_undo_17 rfl (lv_at hl 0 rfl) ?_
    refine rx_get hx hb hts fiX6_undo_X6 hown hK hP 0 rfl rfl 3 (Nat.le_of_ble_eq_true rfl) fl_23 rfl rfl dX6_undo_18 ?_
    refine rx_upv (fun u => (wGO a_g a_h a_q a_k a_p a_x a_s s_g ++ (wGT cI a_g s_o ++ (wP cI cJ a_h u ++ (wP cI cJ a_k s_k))))) hd hP hD hS hA ⟨[2, 3, 4, 5, 6, 7, 8, 9, 10, 11, 12, 13, 14, 15, 16, 17, 18, 19, 20, 21], [0, 1], [0, 1, 2, 3, 4, 5, 6, 7, 8, 9, 10, 11, 12, 13, 14, 15, 16, 17, 18, 19, 20, 21], wGO a_g a_h a_q a_k a_p a_x a_s s_g ++ (wGT cI a_g s_o), rfl, rfl, rfl, by decide, rfl, fun _ => rfl⟩ (fun v hv => va_runV (As := [.ref (a_k 0)]) (rest := []) hcf (c_X1_become l dC dI cI cJ cQ fu a_h a_k _  s_h s_k  v hv) (cwV 1 hts gX6_undo_X1_become rfl rfl rfl cd_X1_become ⟨(Nat.le_of_ble_eq_true rfl), (Nat.le_of_ble_eq_true rfl)⟩) (cq_U_V (q0 := 2) (ci := 0) hK hP hD [2, 3, 4, 5, 6, 7, 8, 9, 10, 11, 12, 13, 14, 15, 16, 17, 18, 19, 20, 21] rfl rfl rfl rfl) rfl rfl hl.1 rfl (lv_room (Nat.le_of_ble_eq_true rfl)) dX6_undo_21 ⟨Nat.le_refl _, Nat.le_refl _⟩) (fun u21 hd H locs hP hD hS => ?_)
    refine lv_aload_n hx hb dX6_undo_24 rfl (lv_at hl 0 rfl) ?_
    refine rx_get hx hb hts fiX6_undo_X6 hown hK hP 0 rfl rfl 1 (Nat.le_of_ble_eq_true rfl) fl_16 rfl rfl dX6_undo_25 ?_
    refine rx_get hx hb hts fiX6_undo_X1 hown hK hP 2 rfl rfl 7 (Nat.le_of_ble_eq_true rfl) fl_84 rfl rfl dX6_undo_28 ?_
    exact rx_retUi (u := (s_o, u21)) (w1 := (fun u : (Nat → Int32) × PS => (wGO a_g a_h a_q a_k a_p a_x a_s s_g ++ (wGT cI a_g u.1 ++ (wP cI cJ a_h u.2 ++ (wP cI cJ a_k s_k)))))) hx hb hr hlocks hd hK hP hD hS dX6_undo_31
  refine lv_aload_n hx hb dX6_undo_7 rfl (lv_at hl 0 rfl) ?_
  refine lv_iconst (v := 3) hx hb dX6_undo_8 ki_3 ?_
  refine rx_upi (fun u => (wGO a_g a_h a_q a_k a_p a_x a_s s_g ++ (wGT cI a_g u ++ (wP cI cJ a_h s_h ++ (wP cI cJ a_k s_k))))) hd hP hD hS hA ⟨[0, 1], [2, 3, 4, 5, 6, 7, 8, 9, 10, 11, 12, 13, 14, 15, 16, 17, 18, 19, 20, 21], [20, 21, 0, 1, 2, 3, 4, 5, 6, 7, 8, 9, 10, 11, 12, 13, 14, 15, 16, 17, 18, 19], wP cI cJ a_h s_h ++ (wP cI cJ a_k s_k), rfl, rfl, rfl, by decide, rfl, fun _ => rfl⟩ (fun v hv => va_runV (As := [.int (3 : Int32)]) (rest := []) hcf (c_X6_finding l dC dI cI cJ cQ fu a_g a_h a_q a_k a_p a_x a_s _  s_g s_o (3 : Int32) v hv) (cwV 1 hts gX6_undo_X6_finding rfl rfl rfl cd_X6_finding ⟨(Nat.le_of_ble_eq_true rfl), (Nat.le_of_ble_eq_true rfl)⟩) (cq_U_V (q0 := 0) (ci := 5) hK hP hD [0, 1] rfl rfl rfl rfl) rfl rfl hl.1 rfl (lv_room (Nat.le_of_ble_eq_true rfl)) dX6_undo_9 ⟨Nat.le_refl _, Nat.le_refl _⟩) (fun u9 hd H locs hP hD hS => ?_)
  exact rx_retUi (u := (u9.2, s_h)) (w1 := (fun u : (Nat → Int32) × PS => (wGO a_g a_h a_q a_k a_p a_x a_s s_g ++ (wGT cI a_g u.1 ++ (wP cI cJ a_h u.2 ++ (wP cI cJ a_k s_k)))))) hx hb hr hlocks hd hK hP hD hS dX6_undo_12
theorem fiX6_tear_X6 : ∀ w ∈ wsX60, w ∈ wsX6_tear := mem_r _ [2, 3, 4, 5, 6, 7, 8, 9] rfl
set_option maxHeartbeats 8000000 in
set_option maxRecDepth 100000 in
theorem c_X6_tear (l : Launch) (dC : Nat → ClassId) (dI : Nat → Nat → Nat) (cI cJ cQ : ClassId) (fu : Nat) (a_g a_h a_q a_k a_p a_x a_s : Nat → Nat) (sz : Nat) (s_g : Int32)  (r : Int32 × Int32) (hd : fX6_tear fu  s_g  = some r) : mUi l yX6_tear wsX6_tear (gRm 0 0) [.ref (a_g 0)] (dC, dI) vwCl (gty cI cJ cQ) (wGO a_g a_h a_q a_k a_p a_x a_s s_g) sz (fun u : Int32 => (wGO a_g a_h a_q a_k a_p a_x a_s u)) r := by
  refine Met.ofW (cc := cX6_tear) (maxL := 2) (ret := (some .int)) (by decide) rfl ?_
  intro p e s m args below meth c s₁ B hml hv
  obtain ⟨hav, hsz, hP, hK, hD0⟩ := hv
  subst hsz
  have hD := hD0.self (sz := s.heap.size)
  generalize hAe : va_A (wGO a_g a_h a_q a_k a_p a_x a_s s_g) s.heap.size = A at hD ⊢
  have hA : ∀ q : Nat, s.heap.size ≤ q → A q := fun q h => by rw [← hAe]; exact Or.inr h
  have hS : va_S A s.heap s.heap [] := va_S.rf
  have hx := B.exec
  have hb := B.bytes
  have hr := B.returns
  have hts := atoms_spec (ws := wsX6_tear) B.pre
  have hown : s.vm.findClass RX6 = some m.cls := findClass_of_methodNamed B.named
  have hlocks := B.notSynchronized
  have hcf : CallFix p m c cX6_tear 2 s args wsX6_tear RX6 := ⟨hx, hb, hml, hown, hts⟩
  have fl_26 := hts (.fieldLink RX6 26 "BucketGift" "isKept" "Z") (List.mem_of_getElem? (i := 1) rfl)
  have hg : entryFrame m args 2 = entryFrame m ([.ref (a_g 0)] : List Value).toArray 2 := by rw [hav]
  rw [hg, lg_entry_eq]
  have hl := lv_entry ([.ref (a_g 0)]) (n := 2) (Nat.le_of_ble_eq_true rfl)
  generalize (lg_sl ([.ref (a_g 0)]) ++ List.replicate (2 - (lg_sl ([.ref (a_g 0)])).length) Slot.unset).toArray = ls at hl ⊢
  have hl : lv_has ls 2 [(0, .ref (a_g 0))] := hl
  clear hg
  unfold fX6_tear at hd
  refine lv_aload_n hx hb dX6_tear_0 rfl (lv_at hl 0 rfl) ?_
  refine rx_get hx hb hts fiX6_tear_X6 hown hK hP 0 rfl rfl 4 (Nat.le_of_ble_eq_true rfl) fl_26 rfl rfl dX6_tear_1 ?_
  refine rx_if_eq hx hb 11 dX6_tear_4 rfl hd (fun hd => ?_) (fun hd => ?_)
  · refine lv_iconst (v := 0) hx hb dX6_tear_11 ki_0 ?_
    refine lv_istore_n (lv' := [(1, .int (0 : Int32)), (0, .ref (a_g 0))]) hx hb dX6_tear_12 rfl hl (Nat.le_of_ble_eq_true rfl) rfl (fun ls hl => ?_)
    refine lv_aload_n hx hb dX6_tear_13 rfl (lv_at hl 1 rfl) ?_
    refine lv_iconst (v := 0) hx hb dX6_tear_14 ki_0 ?_
    refine rx_putz (wGO a_g a_h a_q a_k a_p a_x a_s (0 : Int32)) hx hb hts fiX6_tear_X6 tyX6 tyX6_ok nmX6 hown hK hP hD hS 0 rfl rfl 4 (Nat.le_of_ble_eq_true rfl) fl_26 rfl rfl rfl (Nat.le_of_ble_eq_true rfl) hd rfl dX6_tear_15 (fun hd H locs hP hD hS => ?_)
    refine lv_iload_n hx hb dX6_tear_18 rfl (lv_at hl 0 rfl) ?_
    exact rx_retUi (u := (0 : Int32)) (w1 := (fun u : Int32 => (wGO a_g a_h a_q a_k a_p a_x a_s u))) hx hb hr hlocks hd hK hP hD hS dX6_tear_19
  refine lv_iconst (v := 1) hx hb dX6_tear_7 ki_1 ?_
  refine lv_goto (tgt := 12) hx hb dX6_tear_8 rfl ?_
  refine lv_istore_n (lv' := [(1, .int (1 : Int32)), (0, .ref (a_g 0))]) hx hb dX6_tear_12 rfl hl (Nat.le_of_ble_eq_true rfl) rfl (fun ls hl => ?_)
  refine lv_aload_n hx hb dX6_tear_13 rfl (lv_at hl 1 rfl) ?_
  refine lv_iconst (v := 0) hx hb dX6_tear_14 ki_0 ?_
  refine rx_putz (wGO a_g a_h a_q a_k a_p a_x a_s (0 : Int32)) hx hb hts fiX6_tear_X6 tyX6 tyX6_ok nmX6 hown hK hP hD hS 0 rfl rfl 4 (Nat.le_of_ble_eq_true rfl) fl_26 rfl rfl rfl (Nat.le_of_ble_eq_true rfl) hd rfl dX6_tear_15 (fun hd H locs hP hD hS => ?_)
  refine lv_iload_n hx hb dX6_tear_18 rfl (lv_at hl 0 rfl) ?_
  exact rx_retUi (u := (0 : Int32)) (w1 := (fun u : Int32 => (wGO a_g a_h a_q a_k a_p a_x a_s u))) hx hb hr hlocks hd hK hP hD hS dX6_tear_19
theorem fiX6_count_X1 : ∀ w ∈ wsX10, w ∈ wsX6_count := mem_r _ [39, 40, 41, 42, 43, 44, 45, 46, 47, 48, 49, 50] rfl
theorem fiX6_count_X4 : ∀ w ∈ wsX40, w ∈ wsX6_count := mem_r _ [51, 52] rfl
theorem fiX6_count_X6 : ∀ w ∈ wsX60, w ∈ wsX6_count := mem_r _ [31, 32, 33, 34, 35, 36, 37, 38] rfl
set_option maxHeartbeats 8000000 in
set_option maxRecDepth 100000 in
theorem c_X6_count (l : Launch) (dC : Nat → ClassId) (dI : Nat → Nat → Nat) (cI cJ cQ : ClassId) (fu : Nat) (a_g a_h a_q a_k a_p a_x a_s : Nat → Nat) (sz : Nat) (s_g : Int32) (s_o : (Nat → Int32)) (s_h : PS) (s_p : TPS) (x1 : Int32) (r : Int32 × (Nat → Int32)) (hd : fX6_count fu  s_g s_o s_h s_p x1 = some r) : mUi l yX6_count wsX6_count (gRm 2 42) [.ref (a_g 0), .int x1] (dC, dI) vwCl (gty cI cJ cQ) (wGO a_g a_h a_q a_k a_p a_x a_s s_g ++ (wGT cI a_g s_o ++ (wP cI cJ a_h s_h ++ (wTP cI cJ a_p s_p)))) sz (fun u : (Nat → Int32) => (wGO a_g a_h a_q a_k a_p a_x a_s s_g ++ (wGT cI a_g u ++ (wP cI cJ a_h s_h ++ (wTP cI cJ a_p s_p))))) r := by
  refine Met.ofW (cc := cX6_count) (maxL := 2) (ret := (some .int)) (by decide) rfl ?_
  intro p e s m args below meth c s₁ B hml hv
  obtain ⟨hav, hsz, hP, hK, hD0⟩ := hv
  subst hsz
  have hD := hD0.self (sz := s.heap.size)
  generalize hAe : va_A (wGO a_g a_h a_q a_k a_p a_x a_s s_g ++ (wGT cI a_g s_o ++ (wP cI cJ a_h s_h ++ (wTP cI cJ a_p s_p)))) s.heap.size = A at hD ⊢
  have hA : ∀ q : Nat, s.heap.size ≤ q → A q := fun q h => by rw [← hAe]; exact Or.inr h
  have hS : va_S A s.heap s.heap [] := va_S.rf
  have hx := B.exec
  have hb := B.bytes
  have hr := B.returns
  have hts := atoms_spec (ws := wsX6_count) B.pre
  have hown : s.vm.findClass RX6 = some m.cls := findClass_of_methodNamed B.named
  have hlocks := B.notSynchronized
  have hcf : CallFix p m c cX6_count 2 s args wsX6_count RX6 := ⟨hx, hb, hml, hown, hts⟩
  have fl_16 := hts (.fieldLink RX6 16 "BucketGift" "here" "LBucketGift$Parish;") (List.mem_of_getElem? (i := 1) rfl)
  have fl_84 := hts (.fieldLink RX6 84 "BucketGift$Parish" "people" "I") (List.mem_of_getElem? (i := 2) rfl)
  have fl_33 := hts (.fieldLink RX6 33 "BucketGift" "tape" "LBucketGift$Tape;") (List.mem_of_getElem? (i := 3) rfl)
  have fl_186 := hts (.fieldLink RX6 186 "BucketGift$Tape" "length" "I") (List.mem_of_getElem? (i := 4) rfl)
  have hg : entryFrame m args 2 = entryFrame m ([.ref (a_g 0), .int x1] : List Value).toArray 2 := by rw [hav]
  rw [hg, lg_entry_eq]
  have hl := lv_entry ([.ref (a_g 0), .int x1]) (n := 2) (Nat.le_of_ble_eq_true rfl)
  generalize (lg_sl ([.ref (a_g 0), .int x1]) ++ List.replicate (2 - (lg_sl ([.ref (a_g 0), .int x1])).length) Slot.unset).toArray = ls at hl ⊢
  have hl : lv_has ls 2 [(0, .ref (a_g 0)), (1, .int x1)] := hl
  clear hg
  unfold fX6_count at hd
  refine lv_iload_n hx hb dX6_count_0 rfl (lv_at hl 1 rfl) ?_
  refine rx_tab hx hb (0 : Int32) (0) rfl 32 dX6_count_1 (by decide) (by decide) rfl rfl hd (fun hd => ?_) (fun n_0 hd => ?_)
  · refine lv_aload_n hx hb dX6_count_32 rfl (lv_at hl 0 rfl) ?_
    refine rx_get hx hb hts fiX6_count_X6 hown hK hP 0 rfl rfl 1 (Nat.le_of_ble_eq_true rfl) fl_16 rfl rfl dX6_count_33 ?_
    refine rx_get hx hb hts fiX6_count_X1 hown hK hP 2 rfl rfl 7 (Nat.le_of_ble_eq_true rfl) fl_84 rfl rfl dX6_count_36 ?_
    exact rx_retUi (u := s_o) (w1 := (fun u : (Nat → Int32) => (wGO a_g a_h a_q a_k a_p a_x a_s s_g ++ (wGT cI a_g u ++ (wP cI cJ a_h s_h ++ (wTP cI cJ a_p s_p)))))) hx hb hr hlocks hd hK hP hD hS dX6_count_39
  refine rx_tab hx hb (1 : Int32) (1) rfl 40 dX6_count_1 (by decide) (by decide) rfl rfl hd (fun hd => ?_) (fun n_1 hd => ?_)
  · refine lv_aload_n hx hb dX6_count_40 rfl (lv_at hl 0 rfl) ?_
    refine rx_get hx hb hts fiX6_count_X6 hown hK hP 0 rfl rfl 5 (Nat.le_of_ble_eq_true rfl) fl_33 rfl rfl dX6_count_41 ?_
    refine rx_get hx hb hts fiX6_count_X4 hown hK hP 12 rfl rfl 1 (Nat.le_of_ble_eq_true rfl) fl_186 rfl rfl dX6_count_44 ?_
    exact rx_retUi (u := s_o) (w1 := (fun u : (Nat → Int32) => (wGO a_g a_h a_q a_k a_p a_x a_s s_g ++ (wGT cI a_g u ++ (wP cI cJ a_h s_h ++ (wTP cI cJ a_p s_p)))))) hx hb hr hlocks hd hK hP hD hS dX6_count_47
  refine rx_tab hx hb (2 : Int32) (2) rfl 48 dX6_count_1 (by decide) (by decide) rfl rfl hd (fun hd => ?_) (fun n_2 hd => ?_)
  · refine lv_aload_n hx hb dX6_count_48 rfl (lv_at hl 0 rfl) ?_
    refine rx_get hx hb hts fiX6_count_X6 hown hK hP 0 rfl rfl 1 (Nat.le_of_ble_eq_true rfl) fl_16 rfl rfl dX6_count_49 ?_
    refine rx_roi hd (fun v hv => W.runV (As := []) (rest := []) hcf (c_X1_deedsOfAll l dC dI cI cJ cQ fu a_h  s_h  v hv) (cwV 0 hts gX6_count_X1_deedsOfAll rfl rfl rfl cd_X1_deedsOfAll ⟨(Nat.le_of_ble_eq_true rfl), (Nat.le_of_ble_eq_true rfl)⟩) (cq_R_V (q0 := 2) (ci := 0) hK hP [2, 3, 4, 5, 6, 7, 8, 9, 10, 11] rfl rfl rfl) rfl rfl hl.1 rfl (lv_room (Nat.le_of_ble_eq_true rfl)) dX6_count_52 ⟨Nat.le_refl _, Nat.le_refl _⟩) (fun u52 hd => ?_)
    exact rx_retUi (u := s_o) (w1 := (fun u : (Nat → Int32) => (wGO a_g a_h a_q a_k a_p a_x a_s s_g ++ (wGT cI a_g u ++ (wP cI cJ a_h s_h ++ (wTP cI cJ a_p s_p)))))) hx hb hr hlocks hd hK hP hD hS dX6_count_55
  refine rx_tab hx hb (3 : Int32) (3) rfl 56 dX6_count_1 (by decide) (by decide) rfl rfl hd (fun hd => ?_) (fun n_3 hd => ?_)
  · refine lv_aload_n hx hb dX6_count_56 rfl (lv_at hl 0 rfl) ?_
    refine rx_get hx hb hts fiX6_count_X6 hown hK hP 0 rfl rfl 1 (Nat.le_of_ble_eq_true rfl) fl_16 rfl rfl dX6_count_57 ?_
    refine rx_roi hd (fun v hv => W.runV (As := []) (rest := []) hcf (c_X1_askedOfAll l dC dI cI cJ cQ fu a_h  s_h  v hv) (cwV 0 hts gX6_count_X1_askedOfAll rfl rfl rfl cd_X1_askedOfAll ⟨(Nat.le_of_ble_eq_true rfl), (Nat.le_of_ble_eq_true rfl)⟩) (cq_R_V (q0 := 2) (ci := 0) hK hP [2, 3, 4, 5, 6, 7, 8, 9, 10, 11] rfl rfl rfl) rfl rfl hl.1 rfl (lv_room (Nat.le_of_ble_eq_true rfl)) dX6_count_60 ⟨Nat.le_refl _, Nat.le_refl _⟩) (fun u60 hd => ?_)
    exact rx_retUi (u := s_o) (w1 := (fun u : (Nat → Int32) => (wGO a_g a_h a_q a_k a_p a_x a_s s_g ++ (wGT cI a_g u ++ (wP cI cJ a_h s_h ++ (wTP cI cJ a_p s_p)))))) hx hb hr hlocks hd hK hP hD hS dX6_count_63
  refine lv_tableOut (tgt := 64) hx hb dX6_count_1 (by omega) rfl ?_
  refine lv_aload_n hx hb dX6_count_64 rfl (lv_at hl 0 rfl) ?_
  refine lv_iconst (v := 0) hx hb dX6_count_65 ki_0 ?_
  refine rx_upi (fun u => (wGO a_g a_h a_q a_k a_p a_x a_s s_g ++ (wGT cI a_g u ++ (wP cI cJ a_h s_h ++ (wTP cI cJ a_p s_p))))) hd hP hD hS hA ⟨[0, 1], [2, 3, 4, 5, 6, 7, 8, 9, 10, 11, 12, 13], [12, 13, 0, 1, 2, 3, 4, 5, 6, 7, 8, 9, 10, 11], wP cI cJ a_h s_h ++ (wTP cI cJ a_p s_p), rfl, rfl, rfl, by decide, rfl, fun _ => rfl⟩ (fun v hv => va_runV (As := [.int (0 : Int32)]) (rest := []) hcf (c_X6_finding l dC dI cI cJ cQ fu a_g a_h a_q a_k a_p a_x a_s _  s_g s_o (0 : Int32) v hv) (cwV 1 hts gX6_count_X6_finding rfl rfl rfl cd_X6_finding ⟨(Nat.le_of_ble_eq_true rfl), (Nat.le_of_ble_eq_true rfl)⟩) (cq_U_V (q0 := 0) (ci := 5) hK hP hD [0, 1] rfl rfl rfl rfl) rfl rfl hl.1 rfl (lv_room (Nat.le_of_ble_eq_true rfl)) dX6_count_66 ⟨Nat.le_refl _, Nat.le_refl _⟩) (fun u66 hd H locs hP hD hS => ?_)
  exact rx_retUi (u := u66.2) (w1 := (fun u : (Nat → Int32) => (wGO a_g a_h a_q a_k a_p a_x a_s s_g ++ (wGT cI a_g u ++ (wP cI cJ a_h s_h ++ (wTP cI cJ a_p s_p)))))) hx hb hr hlocks hd hK hP hD hS dX6_count_69
theorem fiX6_status_X6 : ∀ w ∈ wsX60, w ∈ wsX6_status := mem_r _ [15, 16, 17, 18, 19, 20, 21, 22] rfl
set_option maxHeartbeats 8000000 in
set_option maxRecDepth 100000 in
theorem c_X6_status (l : Launch) (dC : Nat → ClassId) (dI : Nat → Nat → Nat) (cI cJ cQ : ClassId) (fu : Nat) (a_g a_h a_q a_k a_p a_x a_s : Nat → Nat) (sz : Nat) (s_g : Int32) (s_o : (Nat → Int32)) (x1 : Int32) (r : Int32 × (Nat → Int32)) (hd : fX6_status fu  s_g s_o x1 = some r) : mUi l yX6_status wsX6_status (gRm 1 25) [.ref (a_g 0), .int x1] (dC, dI) vwCl (gty cI cJ cQ) (wGO a_g a_h a_q a_k a_p a_x a_s s_g ++ (wGT cI a_g s_o)) sz (fun u : (Nat → Int32) => (wGO a_g a_h a_q a_k a_p a_x a_s s_g ++ (wGT cI a_g u))) r := by
  refine Met.ofW (cc := cX6_status) (maxL := 2) (ret := (some .int)) (by decide) rfl ?_
  intro p e s m args below meth c s₁ B hml hv
  obtain ⟨hav, hsz, hP, hK, hD0⟩ := hv
  subst hsz
  have hD := hD0.self (sz := s.heap.size)
  generalize hAe : va_A (wGO a_g a_h a_q a_k a_p a_x a_s s_g ++ (wGT cI a_g s_o)) s.heap.size = A at hD ⊢
  have hA : ∀ q : Nat, s.heap.size ≤ q → A q := fun q h => by rw [← hAe]; exact Or.inr h
  have hS : va_S A s.heap s.heap [] := va_S.rf
  have hx := B.exec
  have hb := B.bytes
  have hr := B.returns
  have hts := atoms_spec (ws := wsX6_status) B.pre
  have hown : s.vm.findClass RX6 = some m.cls := findClass_of_methodNamed B.named
  have hlocks := B.notSynchronized
  have hcf : CallFix p m c cX6_status 2 s args wsX6_status RX6 := ⟨hx, hb, hml, hown, hts⟩
  have fl_9 := hts (.fieldLink RX6 9 "BucketGift" "told" "[I") (List.mem_of_getElem? (i := 1) rfl)
  have hg : entryFrame m args 2 = entryFrame m ([.ref (a_g 0), .int x1] : List Value).toArray 2 := by rw [hav]
  rw [hg, lg_entry_eq]
  have hl := lv_entry ([.ref (a_g 0), .int x1]) (n := 2) (Nat.le_of_ble_eq_true rfl)
  generalize (lg_sl ([.ref (a_g 0), .int x1]) ++ List.replicate (2 - (lg_sl ([.ref (a_g 0), .int x1])).length) Slot.unset).toArray = ls at hl ⊢
  have hl : lv_has ls 2 [(0, .ref (a_g 0)), (1, .int x1)] := hl
  clear hg
  unfold fX6_status at hd
  refine lv_iload_n hx hb dX6_status_0 rfl (lv_at hl 1 rfl) ?_
  refine lv_iconst (v := -1) hx hb dX6_status_1 ki_m1 ?_
  refine lv_bipush (v := 6) hx hb dX6_status_2 kb_6 ?_
  refine rx_roi hd (fun v hv => W.runS (As := [.int x1, .int (-1 : Int32), .int (6 : Int32)]) (rest := []) hcf (c_X6_isWithin l dC dI cI cJ cQ fu    x1 (-1 : Int32) (6 : Int32) v hv) (va_cwS 3 hts gX6_status_X6_isWithin rfl rfl rfl cd_X6_isWithin ⟨(Nat.le_of_ble_eq_true rfl), (Nat.le_of_ble_eq_true rfl)⟩) (cq_R_S hK hP [] rfl) rfl rfl hl.1 rfl (lv_room (Nat.le_of_ble_eq_true rfl)) dX6_status_4 ⟨Nat.le_refl _, Nat.le_refl _⟩) (fun u4 hd => ?_)
  refine rx_if_ne hx hb 16 dX6_status_7 rfl hd (fun hd => ?_) (fun hd => ?_)
  · refine lv_iload_n hx hb dX6_status_16 rfl (lv_at hl 1 rfl) ?_
    refine rx_if_ge hx hb 30 dX6_status_17 rfl hd (fun hd => ?_) (fun hd => ?_)
    · refine lv_aload_n hx hb dX6_status_30 rfl (lv_at hl 0 rfl) ?_
      refine rx_get hx hb hts fiX6_status_X6 hown hK hP 0 rfl rfl 0 (Nat.le_of_ble_eq_true rfl) fl_9 rfl rfl dX6_status_31 ?_
      refine lv_iload_n hx hb dX6_status_34 rfl (lv_at hl 1 rfl) ?_
      refine rx_iald hx hb hK hP 1 0 rfl rfl hd dX6_status_35 (fun v35 hd => ?_)
      exact rx_retUi (u := s_o) (w1 := (fun u : (Nat → Int32) => (wGO a_g a_h a_q a_k a_p a_x a_s s_g ++ (wGT cI a_g u)))) hx hb hr hlocks hd hK hP hD hS dX6_status_36
    refine lv_aload_n hx hb dX6_status_20 rfl (lv_at hl 0 rfl) ?_
    refine rx_get hx hb hts fiX6_status_X6 hown hK hP 0 rfl rfl 0 (Nat.le_of_ble_eq_true rfl) fl_9 rfl rfl dX6_status_21 ?_
    refine rx_roi hd (fun v hv => W.runS (As := [.ref (a_g 1)]) (rest := []) hcf (c_X1_total l dC dI cI cJ cQ fu (a_g 1) 7  s_o  v hv) (va_cwS 1 hts gX6_status_X1_total rfl rfl rfl cd_X1_total ⟨(Nat.le_of_ble_eq_true rfl), (Nat.le_of_ble_eq_true rfl)⟩) (cq_R_S hK hP [1] rfl) rfl rfl hl.1 rfl (lv_room (Nat.le_of_ble_eq_true rfl)) dX6_status_24 ⟨Nat.le_refl _, Nat.le_refl _⟩) (fun u24 hd => ?_)
    refine lv_goto (tgt := 36) hx hb dX6_status_27 rfl ?_
    exact rx_retUi (u := s_o) (w1 := (fun u : (Nat → Int32) => (wGO a_g a_h a_q a_k a_p a_x a_s s_g ++ (wGT cI a_g u)))) hx hb hr hlocks hd hK hP hD hS dX6_status_36
  refine lv_aload_n hx hb dX6_status_10 rfl (lv_at hl 0 rfl) ?_
  refine lv_iconst (v := 0) hx hb dX6_status_11 ki_0 ?_
  refine rx_upi1 hd hD hS hA (fun v hv => va_runV (As := [.int (0 : Int32)]) (rest := []) hcf (c_X6_finding l dC dI cI cJ cQ fu a_g a_h a_q a_k a_p a_x a_s _  s_g s_o (0 : Int32) v hv) (cwV 1 hts gX6_status_X6_finding rfl rfl rfl cd_X6_finding ⟨(Nat.le_of_ble_eq_true rfl), (Nat.le_of_ble_eq_true rfl)⟩) (cq_U_V1 (q0 := 0) (ci := 5) hK hP hD rfl rfl) rfl rfl hl.1 rfl (lv_room (Nat.le_of_ble_eq_true rfl)) dX6_status_12 ⟨Nat.le_refl _, Nat.le_refl _⟩) (fun u12 hd H locs hP hD hS => ?_)
  exact rx_retUi (u := u12.2) (w1 := (fun u : (Nat → Int32) => (wGO a_g a_h a_q a_k a_p a_x a_s s_g ++ (wGT cI a_g u)))) hx hb hr hlocks hd hK hP hD hS dX6_status_15
