theorem fiX6_deeds_X1 : ∀ w ∈ wsX10, w ∈ wsX6_deeds := mem_r _ [44, 45, 46, 47, 48, 49, 50, 51, 52, 53, 54, 55] rfl
theorem fiX6_deeds_X6 : ∀ w ∈ wsX60, w ∈ wsX6_deeds := mem_r _ [36, 37, 38, 39, 40, 41, 42, 43] rfl
set_option maxHeartbeats 8000000 in
set_option maxRecDepth 100000 in
theorem c_X6_deeds (l : Launch) (dC : Nat → ClassId) (dI : Nat → Nat → Nat) (cI cJ cQ : ClassId) (fu : Nat) (a_g a_h a_q a_k a_p a_x a_s : Nat → Nat) (sz : Nat) (s_g : Int32) (s_o : (Nat → Int32)) (s_h : PS) (x1 : Int32) (x2 : Int32) (r : Int32 × (Nat → Int32)) (hd : fX6_deeds fu  s_g s_o s_h x1 x2 = some r) : mUi l yX6_deeds wsX6_deeds (gRm 2 44) [.ref (a_g 0), .int x1, .int x2] (dC, dI) vwCl (gty cI cJ cQ) (wGO a_g a_h a_q a_k a_p a_x a_s s_g ++ (wGT cI a_g s_o ++ (wP cI cJ a_h s_h))) sz (fun u : (Nat → Int32) => (wGO a_g a_h a_q a_k a_p a_x a_s s_g ++ (wGT cI a_g u ++ (wP cI cJ a_h s_h)))) r := by
  refine Met.ofW (cc := cX6_deeds) (maxL := 7) (ret := (some .int)) (by decide) rfl ?_
  intro p e s m args below meth c s₁ B hml hv
  obtain ⟨hav, hsz, hP, hK, hD0⟩ := hv
  subst hsz
  have hD := hD0.self (sz := s.heap.size)
  generalize hAe : va_A (wGO a_g a_h a_q a_k a_p a_x a_s s_g ++ (wGT cI a_g s_o ++ (wP cI cJ a_h s_h))) s.heap.size = A at hD ⊢
  have hA : ∀ q : Nat, s.heap.size ≤ q → A q := fun q h => by rw [← hAe]; exact Or.inr h
  have hS : va_S A s.heap s.heap [] := va_S.rf
  have hx := B.exec
  have hb := B.bytes
  have hr := B.returns
  have hts := atoms_spec (ws := wsX6_deeds) B.pre
  have hown : s.vm.findClass RX6 = some m.cls := findClass_of_methodNamed B.named
  have hlocks := B.notSynchronized
  have hcf : CallFix p m c cX6_deeds 7 s args wsX6_deeds RX6 := ⟨hx, hb, hml, hown, hts⟩
  have fl_16 := hts (.fieldLink RX6 16 "BucketGift" "here" "LBucketGift$Parish;") (List.mem_of_getElem? (i := 1) rfl)
  have fl_106 := hts (.fieldLink RX6 106 "BucketGift$Parish" "kinds" "[I") (List.mem_of_getElem? (i := 3) rfl)
  have kc_146 := hts (.constant RX6 146 (1000000)) (List.mem_of_getElem? (i := 2) rfl)
  have hg : entryFrame m args 7 = entryFrame m ([.ref (a_g 0), .int x1, .int x2] : List Value).toArray 7 := by rw [hav]
  rw [hg, lg_entry_eq]
  have hl := lv_entry ([.ref (a_g 0), .int x1, .int x2]) (n := 7) (Nat.le_of_ble_eq_true rfl)
  generalize (lg_sl ([.ref (a_g 0), .int x1, .int x2]) ++ List.replicate (7 - (lg_sl ([.ref (a_g 0), .int x1, .int x2])).length) Slot.unset).toArray = ls at hl ⊢
  have hl : lv_has ls 7 [(0, .ref (a_g 0)), (1, .int x1), (2, .int x2)] := hl
  clear hg
  unfold fX6_deeds at hd
  have b21 : ∀ (s_o : (Nat → Int32)), fX6_deeds_b21 fu s_g s_h   s_o = some r → bk_U p l e (headSpec wsX6_deeds (gRm 2 44)).room s m args below meth c (qUi below args s (dC, dI) vwCl (gty cI cJ cQ) A (fun u : (Nat → Int32) => (wGO a_g a_h a_q a_k a_p a_x a_s s_g ++ (wGT cI a_g u ++ (wP cI cJ a_h s_h)))) r) (dC, dI) vwCl A 7 (wGO a_g a_h a_q a_k a_p a_x a_s s_g ++ (wGT cI a_g s_o ++ (wP cI cJ a_h s_h))) 21 [(0, .ref (a_g 0))] [] := by
    intro s_o hd
    intro H locs ls hP hD hS hl
    unfold fX6_deeds_b21 at hd
    refine lv_aload_n hx hb dX6_deeds_21 rfl (lv_at hl 0 rfl) ?_
    refine lv_iconst (v := 0) hx hb dX6_deeds_22 ki_0 ?_
    refine rx_upi (fun u => (wGO a_g a_h a_q a_k a_p a_x a_s s_g ++ (wGT cI a_g u ++ (wP cI cJ a_h s_h)))) hd hP hD hS hA ⟨[0, 1], [2, 3, 4, 5, 6, 7, 8, 9, 10, 11], [10, 11, 0, 1, 2, 3, 4, 5, 6, 7, 8, 9], wP cI cJ a_h s_h, rfl, rfl, rfl, by decide, rfl, fun _ => rfl⟩ (fun v hv => va_runV (As := [.int (0 : Int32)]) (rest := []) hcf (c_X6_finding l dC dI cI cJ cQ fu a_g a_h a_q a_k a_p a_x a_s _  s_g s_o (0 : Int32) v hv) (cwV 1 hts gX6_deeds_X6_finding rfl rfl rfl cd_X6_finding ⟨(Nat.le_of_ble_eq_true rfl), (Nat.le_of_ble_eq_true rfl)⟩) (cq_U_V (q0 := 0) (ci := 5) hK hP hD [0, 1] rfl rfl rfl rfl) rfl rfl hl.1 rfl (lv_room (Nat.le_of_ble_eq_true rfl)) dX6_deeds_23 ⟨Nat.le_refl _, Nat.le_refl _⟩) (fun u23 hd H locs hP hD hS => ?_)
    exact rx_retUi (u := u23.2) (w1 := (fun u : (Nat → Int32) => (wGO a_g a_h a_q a_k a_p a_x a_s s_g ++ (wGT cI a_g u ++ (wP cI cJ a_h s_h))))) hx hb hr hlocks hd hK hP hD hS dX6_deeds_26
  have b36 : ∀ (x1 : Int32) (x2 : Int32) (s_o : (Nat → Int32)) (x3 : Int32) (x4 : Int32) (x5 : Int32), fX6_deeds_b36 fu s_g s_h   x1 x2 s_o x3 x4 x5 = some r → bk_U p l e (headSpec wsX6_deeds (gRm 2 44)).room s m args below meth c (qUi below args s (dC, dI) vwCl (gty cI cJ cQ) A (fun u : (Nat → Int32) => (wGO a_g a_h a_q a_k a_p a_x a_s s_g ++ (wGT cI a_g u ++ (wP cI cJ a_h s_h)))) r) (dC, dI) vwCl A 7 (wGO a_g a_h a_q a_k a_p a_x a_s s_g ++ (wGT cI a_g s_o ++ (wP cI cJ a_h s_h))) 36 [(0, .ref (a_g 0)), (1, .int x1), (2, .int x2), (3, .int x3), (4, .int x4), (5, .int x5)] [] := by
    intro x1 x2
    have L : ∀ (n : Nat) (s_o : (Nat → Int32)) (x3 : Int32) (x4 : Int32) (x5 : Int32), g_lp (fun _ _ _ _ => none) (fX6_deeds_b36B fu s_g s_h   x1 x2) n s_o x3 x4 x5 = some r → bk_U p l e (headSpec wsX6_deeds (gRm 2 44)).room s m args below meth c (qUi below args s (dC, dI) vwCl (gty cI cJ cQ) A (fun u : (Nat → Int32) => (wGO a_g a_h a_q a_k a_p a_x a_s s_g ++ (wGT cI a_g u ++ (wP cI cJ a_h s_h)))) r) (dC, dI) vwCl A 7 (wGO a_g a_h a_q a_k a_p a_x a_s s_g ++ (wGT cI a_g s_o ++ (wP cI cJ a_h s_h))) 36 [(0, .ref (a_g 0)), (1, .int x1), (2, .int x2), (3, .int x3), (4, .int x4), (5, .int x5)] [] := by
      intro n
      induction n with
      | zero => intro s_o x3 x4 x5 hd; exact absurd hd (by intro h; cases h)
      | succ n k36 =>
        intro s_o x3 x4 x5 hd
        intro H locs ls hP hD hS hl
        have hd : fX6_deeds_b36B fu s_g s_h   x1 x2 (g_lp (fun _ _ _ _ => none) (fX6_deeds_b36B fu s_g s_h   x1 x2) n) s_o x3 x4 x5 = some r := hd
        unfold fX6_deeds_b36B at hd
        refine lv_iload hx hb dX6_deeds_36 (lv_at hl 5 rfl) ?_
        refine lv_sipush (v := 255) hx hb dX6_deeds_38 ks_255 ?_
        refine rx_icmp_gt hx hb 89 dX6_deeds_41 rfl hd (fun hd => ?_) (fun hd => ?_)
        · refine lv_iload_n hx hb dX6_deeds_89 rfl (lv_at hl 3 rfl) ?_
          refine rx_if_ge hx hb 101 dX6_deeds_90 rfl hd (fun hd => ?_) (fun hd => ?_)
          · refine lv_iload_n hx hb dX6_deeds_101 rfl (lv_at hl 3 rfl) ?_
            exact rx_retUi (u := s_o) (w1 := (fun u : (Nat → Int32) => (wGO a_g a_h a_q a_k a_p a_x a_s s_g ++ (wGT cI a_g u ++ (wP cI cJ a_h s_h))))) hx hb hr hlocks hd hK hP hD hS dX6_deeds_102
          refine lv_aload_n hx hb dX6_deeds_93 rfl (lv_at hl 0 rfl) ?_
          refine lv_iconst (v := 3) hx hb dX6_deeds_94 ki_3 ?_
          refine rx_upi (fun u => (wGO a_g a_h a_q a_k a_p a_x a_s s_g ++ (wGT cI a_g u ++ (wP cI cJ a_h s_h)))) hd hP hD hS hA ⟨[0, 1], [2, 3, 4, 5, 6, 7, 8, 9, 10, 11], [10, 11, 0, 1, 2, 3, 4, 5, 6, 7, 8, 9], wP cI cJ a_h s_h, rfl, rfl, rfl, by decide, rfl, fun _ => rfl⟩ (fun v hv => va_runV (As := [.int (3 : Int32)]) (rest := []) hcf (c_X6_finding l dC dI cI cJ cQ fu a_g a_h a_q a_k a_p a_x a_s _  s_g s_o (3 : Int32) v hv) (cwV 1 hts gX6_deeds_X6_finding rfl rfl rfl cd_X6_finding ⟨(Nat.le_of_ble_eq_true rfl), (Nat.le_of_ble_eq_true rfl)⟩) (cq_U_V (q0 := 0) (ci := 5) hK hP hD [0, 1] rfl rfl rfl rfl) rfl rfl hl.1 rfl (lv_room (Nat.le_of_ble_eq_true rfl)) dX6_deeds_95 ⟨Nat.le_refl _, Nat.le_refl _⟩) (fun u95 hd H locs hP hD hS => ?_)
          refine lv_goto (tgt := 102) hx hb dX6_deeds_98 rfl ?_
          exact rx_retUi (u := u95.2) (w1 := (fun u : (Nat → Int32) => (wGO a_g a_h a_q a_k a_p a_x a_s s_g ++ (wGT cI a_g u ++ (wP cI cJ a_h s_h))))) hx hb hr hlocks hd hK hP hD hS dX6_deeds_102
        refine lv_iload hx hb dX6_deeds_44 (lv_at hl 5 rfl) ?_
        refine rx_roi hd (fun v hv => W.runS (As := [.int x5]) (rest := []) hcf (c_J6_bitCount_0f7a4 l dC dI cI cJ cQ fu    x5 v hv) (va_cwS 1 hts gX6_deeds_J6_bitCount_0f7a4 rfl rfl rfl cd_J6_bitCount_0f7a4 ⟨(Nat.le_of_ble_eq_true rfl), (Nat.le_of_ble_eq_true rfl)⟩) (cq_R_S hK hP [] rfl) rfl rfl hl.1 rfl (lv_room (Nat.le_of_ble_eq_true rfl)) dX6_deeds_46 ⟨Nat.le_refl _, Nat.le_refl _⟩) (fun u46 hd => ?_)
        refine lv_istore (lv' := [(6, .int u46), (0, .ref (a_g 0)), (1, .int x1), (2, .int x2), (3, .int x3), (4, .int x4), (5, .int x5)]) hx hb dX6_deeds_49 hl (Nat.le_of_ble_eq_true rfl) rfl (fun ls hl => ?_)
        refine lv_iload hx hb dX6_deeds_51 (lv_at hl 0 rfl) ?_
        refine lv_iload hx hb dX6_deeds_53 (lv_at hl 5 rfl) ?_
        refine rx_icmp_ge hx hb 83 dX6_deeds_55 rfl hd (fun hd => ?_) (fun hd => ?_)
        · refine rx_iinc (lv' := fun z => (5, .int z) :: [(6, .int u46), (0, .ref (a_g 0)), (1, .int x1), (2, .int x2), (3, .int x3), (4, .int x4)]) hx hb (j := 6) dX6_deeds_83 hl rfl ki_1 hd (Nat.le_of_ble_eq_true rfl) (fun _ => rfl) (fun x5_83 hd ls hl => ?_)
          refine lv_goto (tgt := 36) hx hb dX6_deeds_86 rfl ?_
          exact k36 s_o x3 x4 x5_83 hd _ _ _ hP hD hS (lv_sub hl [2, 3, 4, 5, 6, 0] rfl)
        refine lv_aload_n hx hb dX6_deeds_58 rfl (lv_at hl 1 rfl) ?_
        refine rx_get hx hb hts fiX6_deeds_X6 hown hK hP 0 rfl rfl 1 (Nat.le_of_ble_eq_true rfl) fl_16 rfl rfl dX6_deeds_59 ?_
        refine rx_get hx hb hts fiX6_deeds_X1 hown hK hP 2 rfl rfl 8 (Nat.le_of_ble_eq_true rfl) fl_106 rfl rfl dX6_deeds_62 ?_
        refine lv_iload_n hx hb dX6_deeds_65 rfl (lv_at hl 2 rfl) ?_
        refine rx_iald hx hb hK hP 8 0 rfl rfl hd dX6_deeds_66 (fun v66 hd => ?_)
        refine lv_iload hx hb dX6_deeds_67 (lv_at hl 6 rfl) ?_
        refine rx_roi hd (fun v hv => W.runS (As := [.int v66, .int x5]) (rest := []) hcf (c_X0_deserved l dC dI cI cJ cQ fu    v66 x5 v hv) (va_cwS 2 hts gX6_deeds_X0_deserved rfl rfl rfl cd_X0_deserved ⟨(Nat.le_of_ble_eq_true rfl), (Nat.le_of_ble_eq_true rfl)⟩) (cq_R_S hK hP [] rfl) rfl rfl hl.1 rfl (lv_room (Nat.le_of_ble_eq_true rfl)) dX6_deeds_69 ⟨Nat.le_refl _, Nat.le_refl _⟩) (fun u69 hd => ?_)
        refine lv_iload_n hx hb dX6_deeds_72 rfl (lv_at hl 3 rfl) ?_
        refine rx_icmp_lt hx hb 83 dX6_deeds_73 rfl hd (fun hd => ?_) (fun hd => ?_)
        · refine rx_iinc (lv' := fun z => (5, .int z) :: [(6, .int u46), (0, .ref (a_g 0)), (1, .int x1), (2, .int x2), (3, .int x3), (4, .int x4)]) hx hb (j := 6) dX6_deeds_83 hl rfl ki_1 hd (Nat.le_of_ble_eq_true rfl) (fun _ => rfl) (fun x5_83 hd ls hl => ?_)
          refine lv_goto (tgt := 36) hx hb dX6_deeds_86 rfl ?_
          exact k36 s_o x3 x4 x5_83 hd _ _ _ hP hD hS (lv_sub hl [2, 3, 4, 5, 6, 0] rfl)
        refine lv_iload hx hb dX6_deeds_76 (lv_at hl 0 rfl) ?_
        refine lv_istore (lv' := [(4, .int u46), (6, .int u46), (0, .ref (a_g 0)), (1, .int x1), (2, .int x2), (3, .int x3), (5, .int x5)]) hx hb dX6_deeds_78 hl (Nat.le_of_ble_eq_true rfl) rfl (fun ls hl => ?_)
        refine lv_iload hx hb dX6_deeds_80 (lv_at hl 6 rfl) ?_
        refine lv_istore_n (lv' := [(3, .int x5), (4, .int u46), (6, .int u46), (0, .ref (a_g 0)), (1, .int x1), (2, .int x2), (5, .int x5)]) hx hb dX6_deeds_82 rfl hl (Nat.le_of_ble_eq_true rfl) rfl (fun ls hl => ?_)
        refine rx_iinc (lv' := fun z => (5, .int z) :: [(3, .int x5), (4, .int u46), (6, .int u46), (0, .ref (a_g 0)), (1, .int x1), (2, .int x2)]) hx hb (j := 6) dX6_deeds_83 hl rfl ki_1 hd (Nat.le_of_ble_eq_true rfl) (fun _ => rfl) (fun x5_83 hd ls hl => ?_)
        refine lv_goto (tgt := 36) hx hb dX6_deeds_86 rfl ?_
        exact k36 s_o x5 u46 x5_83 hd _ _ _ hP hD hS (lv_sub hl [4, 5, 6, 1, 2, 0] rfl)
    exact fun s_o x3 x4 x5 => L fu s_o x3 x4 x5
  refine lv_aload_n hx hb dX6_deeds_0 rfl (lv_at hl 0 rfl) ?_
  refine rx_get hx hb hts fiX6_deeds_X6 hown hK hP 0 rfl rfl 1 (Nat.le_of_ble_eq_true rfl) fl_16 rfl rfl dX6_deeds_1 ?_
  refine lv_iload_n hx hb dX6_deeds_4 rfl (lv_at hl 1 rfl) ?_
  refine rx_roi hd (fun v hv => W.runV (As := [.int x1]) (rest := []) hcf (c_X1_isThere l dC dI cI cJ cQ fu a_h  s_h x1 v hv) (cwV 1 hts gX6_deeds_X1_isThere rfl rfl rfl cd_X1_isThere ⟨(Nat.le_of_ble_eq_true rfl), (Nat.le_of_ble_eq_true rfl)⟩) (cq_R_V (q0 := 2) (ci := 0) hK hP [2, 3, 4, 5, 6, 7, 8, 9, 10, 11] rfl rfl rfl) rfl rfl hl.1 rfl (lv_room (Nat.le_of_ble_eq_true rfl)) dX6_deeds_5 ⟨Nat.le_refl _, Nat.le_refl _⟩) (fun u5 hd => ?_)
  refine rx_if_eq hx hb 21 dX6_deeds_8 rfl hd (fun hd => ?_) (fun hd => ?_)
  · exact b21   s_o hd _ _ _ hP hD hS (lv_sub hl [0] rfl)
  refine lv_iload_n hx hb dX6_deeds_11 rfl (lv_at hl 2 rfl) ?_
  refine lv_iconst (v := 0) hx hb dX6_deeds_12 ki_0 ?_
  refine lv_bipush (v := 15) hx hb dX6_deeds_13 kb_15 ?_
  refine rx_roi hd (fun v hv => W.runS (As := [.int x2, .int (0 : Int32), .int (15 : Int32)]) (rest := []) hcf (c_X6_isWithin l dC dI cI cJ cQ fu    x2 (0 : Int32) (15 : Int32) v hv) (va_cwS 3 hts gX6_deeds_X6_isWithin rfl rfl rfl cd_X6_isWithin ⟨(Nat.le_of_ble_eq_true rfl), (Nat.le_of_ble_eq_true rfl)⟩) (cq_R_S hK hP [] rfl) rfl rfl hl.1 rfl (lv_room (Nat.le_of_ble_eq_true rfl)) dX6_deeds_15 ⟨Nat.le_refl _, Nat.le_refl _⟩) (fun u15 hd => ?_)
  refine rx_if_ne hx hb 27 dX6_deeds_18 rfl hd (fun hd => ?_) (fun hd => ?_)
  · refine lv_iconst (v := -1) hx hb dX6_deeds_27 ki_m1 ?_
    refine lv_istore_n (lv' := [(3, .int (-1 : Int32)), (0, .ref (a_g 0)), (1, .int x1), (2, .int x2)]) hx hb dX6_deeds_28 rfl hl (Nat.le_of_ble_eq_true rfl) rfl (fun ls hl => ?_)
    refine lv_ldc hx hb hown kc_146 dX6_deeds_29 ?_
    refine lv_istore (lv' := [(4, .int (1000000 : Int32)), (3, .int (-1 : Int32)), (0, .ref (a_g 0)), (1, .int x1), (2, .int x2)]) hx hb dX6_deeds_31 hl (Nat.le_of_ble_eq_true rfl) rfl (fun ls hl => ?_)
    refine lv_iconst (v := 0) hx hb dX6_deeds_33 ki_0 ?_
    refine lv_istore (lv' := [(5, .int (0 : Int32)), (4, .int (1000000 : Int32)), (3, .int (-1 : Int32)), (0, .ref (a_g 0)), (1, .int x1), (2, .int x2)]) hx hb dX6_deeds_34 hl (Nat.le_of_ble_eq_true rfl) rfl (fun ls hl => ?_)
    exact b36   x1 x2 s_o (-1 : Int32) (1000000 : Int32) (0 : Int32) hd _ _ _ hP hD hS (lv_sub hl [3, 4, 5, 2, 1, 0] rfl)
  exact b21   s_o hd _ _ _ hP hD hS (lv_sub hl [0] rfl)
theorem fiX6_step_X1 : ∀ w ∈ wsX10, w ∈ wsX6_step := mem_r _ [53, 54, 55, 56, 57, 58, 59, 60, 61, 62, 63, 64] rfl
theorem fiX6_step_X6 : ∀ w ∈ wsX60, w ∈ wsX6_step := mem_r _ [45, 46, 47, 48, 49, 50, 51, 52] rfl
set_option maxHeartbeats 8000000 in
set_option maxRecDepth 100000 in
theorem c_X6_step (l : Launch) (dC : Nat → ClassId) (dI : Nat → Nat → Nat) (cI cJ cQ : ClassId) (fu : Nat) (a_g a_h a_q a_k a_p a_x a_s : Nat → Nat) (sz : Nat) (s_g : Int32) (s_o : (Nat → Int32)) (s_h : PS) (x1 : Int32) (r : Int32 × (Nat → Int32)) (hd : fX6_step fu  s_g s_o s_h x1 = some r) : mUi l yX6_step wsX6_step (gRm 3 69) [.ref (a_g 0), .int x1] (dC, dI) vwCl (gty cI cJ cQ) (wGO a_g a_h a_q a_k a_p a_x a_s s_g ++ (wGT cI a_g s_o ++ (wP cI cJ a_h s_h))) sz (fun u : (Nat → Int32) => (wGO a_g a_h a_q a_k a_p a_x a_s s_g ++ (wGT cI a_g u ++ (wP cI cJ a_h s_h)))) r := by
  refine Met.ofW (cc := cX6_step) (maxL := 6) (ret := (some .int)) (by decide) rfl ?_
  intro p e s m args below meth c s₁ B hml hv
  obtain ⟨hav, hsz, hP, hK, hD0⟩ := hv
  subst hsz
  have hD := hD0.self (sz := s.heap.size)
  generalize hAe : va_A (wGO a_g a_h a_q a_k a_p a_x a_s s_g ++ (wGT cI a_g s_o ++ (wP cI cJ a_h s_h))) s.heap.size = A at hD ⊢
  have hA : ∀ q : Nat, s.heap.size ≤ q → A q := fun q h => by rw [← hAe]; exact Or.inr h
  have hS : va_S A s.heap s.heap [] := va_S.rf
  have hx := B.exec
  have hb := B.bytes
  have hr := B.returns
  have hts := atoms_spec (ws := wsX6_step) B.pre
  have hown : s.vm.findClass RX6 = some m.cls := findClass_of_methodNamed B.named
  have hlocks := B.notSynchronized
  have hcf : CallFix p m c cX6_step 6 s args wsX6_step RX6 := ⟨hx, hb, hml, hown, hts⟩
  have fl_16 := hts (.fieldLink RX6 16 "BucketGift" "here" "LBucketGift$Parish;") (List.mem_of_getElem? (i := 1) rfl)
  have fl_84 := hts (.fieldLink RX6 84 "BucketGift$Parish" "people" "I") (List.mem_of_getElem? (i := 2) rfl)
  have fl_106 := hts (.fieldLink RX6 106 "BucketGift$Parish" "kinds" "[I") (List.mem_of_getElem? (i := 3) rfl)
  have fl_113 := hts (.fieldLink RX6 113 "BucketGift$Parish" "deeds" "[I") (List.mem_of_getElem? (i := 4) rfl)
  have hg : entryFrame m args 6 = entryFrame m ([.ref (a_g 0), .int x1] : List Value).toArray 6 := by rw [hav]
  rw [hg, lg_entry_eq]
  have hl := lv_entry ([.ref (a_g 0), .int x1]) (n := 6) (Nat.le_of_ble_eq_true rfl)
  generalize (lg_sl ([.ref (a_g 0), .int x1]) ++ List.replicate (6 - (lg_sl ([.ref (a_g 0), .int x1])).length) Slot.unset).toArray = ls at hl ⊢
  have hl : lv_has ls 6 [(0, .ref (a_g 0)), (1, .int x1)] := hl
  clear hg
  unfold fX6_step at hd
  have b24 : ∀ (x1 : Int32) (s_o : (Nat → Int32)) (x2 : Int32) (x3 : Int32) (x4 : Int32), fX6_step_b24 fu s_g s_h   x1 s_o x2 x3 x4 = some r → bk_U p l e (headSpec wsX6_step (gRm 3 69)).room s m args below meth c (qUi below args s (dC, dI) vwCl (gty cI cJ cQ) A (fun u : (Nat → Int32) => (wGO a_g a_h a_q a_k a_p a_x a_s s_g ++ (wGT cI a_g u ++ (wP cI cJ a_h s_h)))) r) (dC, dI) vwCl A 6 (wGO a_g a_h a_q a_k a_p a_x a_s s_g ++ (wGT cI a_g s_o ++ (wP cI cJ a_h s_h))) 24 [(0, .ref (a_g 0)), (1, .int x1), (2, .int x2), (3, .int x3), (4, .int x4)] [] := by
    intro x1
    have L : ∀ (n : Nat) (s_o : (Nat → Int32)) (x2 : Int32) (x3 : Int32) (x4 : Int32), g_lp (fun _ _ _ _ => none) (fX6_step_b24B fu s_g s_h   x1) n s_o x2 x3 x4 = some r → bk_U p l e (headSpec wsX6_step (gRm 3 69)).room s m args below meth c (qUi below args s (dC, dI) vwCl (gty cI cJ cQ) A (fun u : (Nat → Int32) => (wGO a_g a_h a_q a_k a_p a_x a_s s_g ++ (wGT cI a_g u ++ (wP cI cJ a_h s_h)))) r) (dC, dI) vwCl A 6 (wGO a_g a_h a_q a_k a_p a_x a_s s_g ++ (wGT cI a_g s_o ++ (wP cI cJ a_h s_h))) 24 [(0, .ref (a_g 0)), (1, .int x1), (2, .int x2), (3, .int x3), (4, .int x4)] [] := by
      intro n
      induction n with
      | zero => intro s_o x2 x3 x4 hd; exact absurd hd (by intro h; cases h)
      | succ n k24 =>
        intro s_o x2 x3 x4 hd
        intro H locs ls hP hD hS hl
        have hd : fX6_step_b24B fu s_g s_h   x1 (g_lp (fun _ _ _ _ => none) (fX6_step_b24B fu s_g s_h   x1) n) s_o x2 x3 x4 = some r := hd
        unfold fX6_step_b24B at hd
        refine lv_iload hx hb dX6_step_24 (lv_at hl 4 rfl) ?_
        refine lv_aload_n hx hb dX6_step_26 rfl (lv_at hl 0 rfl) ?_
        refine rx_get hx hb hts fiX6_step_X6 hown hK hP 0 rfl rfl 1 (Nat.le_of_ble_eq_true rfl) fl_16 rfl rfl dX6_step_27 ?_
        refine rx_get hx hb hts fiX6_step_X1 hown hK hP 2 rfl rfl 7 (Nat.le_of_ble_eq_true rfl) fl_84 rfl rfl dX6_step_30 ?_
        refine rx_icmp_ge hx hb 84 dX6_step_33 rfl hd (fun hd => ?_) (fun hd => ?_)
        · refine lv_iload_n hx hb dX6_step_84 rfl (lv_at hl 2 rfl) ?_
          exact rx_retUi (u := s_o) (w1 := (fun u : (Nat → Int32) => (wGO a_g a_h a_q a_k a_p a_x a_s s_g ++ (wGT cI a_g u ++ (wP cI cJ a_h s_h))))) hx hb hr hlocks hd hK hP hD hS dX6_step_85
        refine lv_aload_n hx hb dX6_step_36 rfl (lv_at hl 0 rfl) ?_
        refine rx_get hx hb hts fiX6_step_X6 hown hK hP 0 rfl rfl 1 (Nat.le_of_ble_eq_true rfl) fl_16 rfl rfl dX6_step_37 ?_
        refine lv_iload_n hx hb dX6_step_40 rfl (lv_at hl 1 rfl) ?_
        refine lv_aload_n hx hb dX6_step_41 rfl (lv_at hl 0 rfl) ?_
        refine rx_get hx hb hts fiX6_step_X6 hown hK hP 0 rfl rfl 1 (Nat.le_of_ble_eq_true rfl) fl_16 rfl rfl dX6_step_42 ?_
        refine rx_get hx hb hts fiX6_step_X1 hown hK hP 2 rfl rfl 8 (Nat.le_of_ble_eq_true rfl) fl_106 rfl rfl dX6_step_45 ?_
        refine lv_iload_n hx hb dX6_step_48 rfl (lv_at hl 1 rfl) ?_
        refine rx_iald hx hb hK hP 8 0 rfl rfl hd dX6_step_49 (fun v49 hd => ?_)
        refine lv_aload_n hx hb dX6_step_50 rfl (lv_at hl 0 rfl) ?_
        refine rx_get hx hb hts fiX6_step_X6 hown hK hP 0 rfl rfl 1 (Nat.le_of_ble_eq_true rfl) fl_16 rfl rfl dX6_step_51 ?_
        refine rx_get hx hb hts fiX6_step_X1 hown hK hP 2 rfl rfl 9 (Nat.le_of_ble_eq_true rfl) fl_113 rfl rfl dX6_step_54 ?_
        refine lv_iload_n hx hb dX6_step_57 rfl (lv_at hl 1 rfl) ?_
        refine rx_iald hx hb hK hP 9 0 rfl rfl hd dX6_step_58 (fun v58 hd => ?_)
        refine lv_iload hx hb dX6_step_59 (lv_at hl 4 rfl) ?_
        refine rx_roi hd (fun v hv => W.runV (As := [.int x1, .int v49, .int v58, .int x4]) (rest := []) hcf (c_X1_gift l dC dI cI cJ cQ fu a_h  s_h x1 v49 v58 x4 v hv) (cwV 4 hts gX6_step_X1_gift rfl rfl rfl cd_X1_gift ⟨(Nat.le_of_ble_eq_true rfl), (Nat.le_of_ble_eq_true rfl)⟩) (cq_R_V (q0 := 2) (ci := 0) hK hP [2, 3, 4, 5, 6, 7, 8, 9, 10, 11] rfl rfl rfl) rfl rfl hl.1 rfl (lv_room (Nat.le_of_ble_eq_true rfl)) dX6_step_61 ⟨Nat.le_refl _, Nat.le_refl _⟩) (fun u61 hd => ?_)
        refine lv_istore (lv' := [(5, .int u61), (0, .ref (a_g 0)), (1, .int x1), (2, .int x2), (3, .int x3), (4, .int x4)]) hx hb dX6_step_64 hl (Nat.le_of_ble_eq_true rfl) rfl (fun ls hl => ?_)
        refine lv_iload hx hb dX6_step_66 (lv_at hl 0 rfl) ?_
        refine lv_iload_n hx hb dX6_step_68 rfl (lv_at hl 4 rfl) ?_
        refine rx_icmp_le hx hb 78 dX6_step_69 rfl hd (fun hd => ?_) (fun hd => ?_)
        · refine rx_iinc (lv' := fun z => (4, .int z) :: [(5, .int u61), (0, .ref (a_g 0)), (1, .int x1), (2, .int x2), (3, .int x3)]) hx hb (j := 5) dX6_step_78 hl rfl ki_1 hd (Nat.le_of_ble_eq_true rfl) (fun _ => rfl) (fun x4_78 hd ls hl => ?_)
          refine lv_goto (tgt := 24) hx hb dX6_step_81 rfl ?_
          exact k24 s_o x2 x3 x4_78 hd _ _ _ hP hD hS (lv_sub hl [2, 3, 4, 5, 0] rfl)
        refine lv_iload hx hb dX6_step_72 (lv_at hl 0 rfl) ?_
        refine lv_istore_n (lv' := [(3, .int u61), (5, .int u61), (0, .ref (a_g 0)), (1, .int x1), (2, .int x2), (4, .int x4)]) hx hb dX6_step_74 rfl hl (Nat.le_of_ble_eq_true rfl) rfl (fun ls hl => ?_)
        refine lv_iload hx hb dX6_step_75 (lv_at hl 5 rfl) ?_
        refine lv_istore_n (lv' := [(2, .int x4), (3, .int u61), (5, .int u61), (0, .ref (a_g 0)), (1, .int x1), (4, .int x4)]) hx hb dX6_step_77 rfl hl (Nat.le_of_ble_eq_true rfl) rfl (fun ls hl => ?_)
        refine rx_iinc (lv' := fun z => (4, .int z) :: [(2, .int x4), (3, .int u61), (5, .int u61), (0, .ref (a_g 0)), (1, .int x1)]) hx hb (j := 5) dX6_step_78 hl rfl ki_1 hd (Nat.le_of_ble_eq_true rfl) (fun _ => rfl) (fun x4_78 hd ls hl => ?_)
        refine lv_goto (tgt := 24) hx hb dX6_step_81 rfl ?_
        exact k24 s_o x4 u61 x4_78 hd _ _ _ hP hD hS (lv_sub hl [4, 5, 1, 2, 0] rfl)
    exact fun s_o x2 x3 x4 => L fu s_o x2 x3 x4
  refine lv_aload_n hx hb dX6_step_0 rfl (lv_at hl 0 rfl) ?_
  refine rx_get hx hb hts fiX6_step_X6 hown hK hP 0 rfl rfl 1 (Nat.le_of_ble_eq_true rfl) fl_16 rfl rfl dX6_step_1 ?_
  refine lv_iload_n hx hb dX6_step_4 rfl (lv_at hl 1 rfl) ?_
  refine rx_roi hd (fun v hv => W.runV (As := [.int x1]) (rest := []) hcf (c_X1_isThere l dC dI cI cJ cQ fu a_h  s_h x1 v hv) (cwV 1 hts gX6_step_X1_isThere rfl rfl rfl cd_X1_isThere ⟨(Nat.le_of_ble_eq_true rfl), (Nat.le_of_ble_eq_true rfl)⟩) (cq_R_V (q0 := 2) (ci := 0) hK hP [2, 3, 4, 5, 6, 7, 8, 9, 10, 11] rfl rfl rfl) rfl rfl hl.1 rfl (lv_room (Nat.le_of_ble_eq_true rfl)) dX6_step_5 ⟨Nat.le_refl _, Nat.le_refl _⟩) (fun u5 hd => ?_)
  refine rx_if_ne hx hb 17 dX6_step_8 rfl hd (fun hd => ?_) (fun hd => ?_)
  · refine lv_iconst (v := 0) hx hb dX6_step_17 ki_0 ?_
    refine lv_istore_n (lv' := [(2, .int (0 : Int32)), (0, .ref (a_g 0)), (1, .int x1)]) hx hb dX6_step_18 rfl hl (Nat.le_of_ble_eq_true rfl) rfl (fun ls hl => ?_)
    refine lv_iconst (v := -1) hx hb dX6_step_19 ki_m1 ?_
    refine lv_istore_n (lv' := [(3, .int (-1 : Int32)), (2, .int (0 : Int32)), (0, .ref (a_g 0)), (1, .int x1)]) hx hb dX6_step_20 rfl hl (Nat.le_of_ble_eq_true rfl) rfl (fun ls hl => ?_)
    refine lv_iconst (v := 0) hx hb dX6_step_21 ki_0 ?_
    refine lv_istore (lv' := [(4, .int (0 : Int32)), (3, .int (-1 : Int32)), (2, .int (0 : Int32)), (0, .ref (a_g 0)), (1, .int x1)]) hx hb dX6_step_22 hl (Nat.le_of_ble_eq_true rfl) rfl (fun ls hl => ?_)
    exact b24   x1 s_o (0 : Int32) (-1 : Int32) (0 : Int32) hd _ _ _ hP hD hS (lv_sub hl [3, 4, 2, 1, 0] rfl)
  refine lv_aload_n hx hb dX6_step_11 rfl (lv_at hl 0 rfl) ?_
  refine lv_iconst (v := 0) hx hb dX6_step_12 ki_0 ?_
  refine rx_upi (fun u => (wGO a_g a_h a_q a_k a_p a_x a_s s_g ++ (wGT cI a_g u ++ (wP cI cJ a_h s_h)))) hd hP hD hS hA ⟨[0, 1], [2, 3, 4, 5, 6, 7, 8, 9, 10, 11], [10, 11, 0, 1, 2, 3, 4, 5, 6, 7, 8, 9], wP cI cJ a_h s_h, rfl, rfl, rfl, by decide, rfl, fun _ => rfl⟩ (fun v hv => va_runV (As := [.int (0 : Int32)]) (rest := []) hcf (c_X6_finding l dC dI cI cJ cQ fu a_g a_h a_q a_k a_p a_x a_s _  s_g s_o (0 : Int32) v hv) (cwV 1 hts gX6_step_X6_finding rfl rfl rfl cd_X6_finding ⟨(Nat.le_of_ble_eq_true rfl), (Nat.le_of_ble_eq_true rfl)⟩) (cq_U_V (q0 := 0) (ci := 5) hK hP hD [0, 1] rfl rfl rfl rfl) rfl rfl hl.1 rfl (lv_room (Nat.le_of_ble_eq_true rfl)) dX6_step_13 ⟨Nat.le_refl _, Nat.le_refl _⟩) (fun u13 hd H locs hP hD hS => ?_)
  exact rx_retUi (u := u13.2) (w1 := (fun u : (Nat → Int32) => (wGO a_g a_h a_q a_k a_p a_x a_s s_g ++ (wGT cI a_g u ++ (wP cI cJ a_h s_h))))) hx hb hr hlocks hd hK hP hD hS dX6_step_16
theorem fiX6_kind_X1 : ∀ w ∈ wsX10, w ∈ wsX6_kind := mem_r _ [52, 53, 54, 55, 56, 57, 58, 59, 60, 61, 62, 63] rfl
theorem fiX6_kind_X6 : ∀ w ∈ wsX60, w ∈ wsX6_kind := mem_r _ [44, 45, 46, 47, 48, 49, 50, 51] rfl
set_option maxHeartbeats 8000000 in
set_option maxRecDepth 100000 in
theorem c_X6_kind (l : Launch) (dC : Nat → ClassId) (dI : Nat → Nat → Nat) (cI cJ cQ : ClassId) (fu : Nat) (a_g a_h a_q a_k a_p a_x a_s : Nat → Nat) (sz : Nat) (s_g : Int32) (s_o : (Nat → Int32)) (s_h : PS) (x1 : Int32) (r : Int32 × (Nat → Int32)) (hd : fX6_kind fu  s_g s_o s_h x1 = some r) : mUi l yX6_kind wsX6_kind (gRm 3 69) [.ref (a_g 0), .int x1] (dC, dI) vwCl (gty cI cJ cQ) (wGO a_g a_h a_q a_k a_p a_x a_s s_g ++ (wGT cI a_g s_o ++ (wP cI cJ a_h s_h))) sz (fun u : (Nat → Int32) => (wGO a_g a_h a_q a_k a_p a_x a_s s_g ++ (wGT cI a_g u ++ (wP cI cJ a_h s_h)))) r := by
  refine Met.ofW (cc := cX6_kind) (maxL := 6) (ret := (some .int)) (by decide) rfl ?_
  intro p e s m args below meth c s₁ B hml hv
  obtain ⟨hav, hsz, hP, hK, hD0⟩ := hv
  subst hsz
  have hD := hD0.self (sz := s.heap.size)
  generalize hAe : va_A (wGO a_g a_h a_q a_k a_p a_x a_s s_g ++ (wGT cI a_g s_o ++ (wP cI cJ a_h s_h))) s.heap.size = A at hD ⊢
  have hA : ∀ q : Nat, s.heap.size ≤ q → A q := fun q h => by rw [← hAe]; exact Or.inr h
  have hS : va_S A s.heap s.heap [] := va_S.rf
  have hx := B.exec
  have hb := B.bytes
  have hr := B.returns
  have hts := atoms_spec (ws := wsX6_kind) B.pre
  have hown : s.vm.findClass RX6 = some m.cls := findClass_of_methodNamed B.named
  have hlocks := B.notSynchronized
  have hcf : CallFix p m c cX6_kind 6 s args wsX6_kind RX6 := ⟨hx, hb, hml, hown, hts⟩
  have fl_16 := hts (.fieldLink RX6 16 "BucketGift" "here" "LBucketGift$Parish;") (List.mem_of_getElem? (i := 1) rfl)
  have fl_113 := hts (.fieldLink RX6 113 "BucketGift$Parish" "deeds" "[I") (List.mem_of_getElem? (i := 2) rfl)
  have fl_175 := hts (.fieldLink RX6 175 "BucketGift$Parish" "steps" "[I") (List.mem_of_getElem? (i := 3) rfl)
  have hg : entryFrame m args 6 = entryFrame m ([.ref (a_g 0), .int x1] : List Value).toArray 6 := by rw [hav]
  rw [hg, lg_entry_eq]
  have hl := lv_entry ([.ref (a_g 0), .int x1]) (n := 6) (Nat.le_of_ble_eq_true rfl)
  generalize (lg_sl ([.ref (a_g 0), .int x1]) ++ List.replicate (6 - (lg_sl ([.ref (a_g 0), .int x1])).length) Slot.unset).toArray = ls at hl ⊢
  have hl : lv_has ls 6 [(0, .ref (a_g 0)), (1, .int x1)] := hl
  clear hg
  unfold fX6_kind at hd
  have b24 : ∀ (x1 : Int32) (s_o : (Nat → Int32)) (x2 : Int32) (x3 : Int32) (x4 : Int32), fX6_kind_b24 fu s_g s_h   x1 s_o x2 x3 x4 = some r → bk_U p l e (headSpec wsX6_kind (gRm 3 69)).room s m args below meth c (qUi below args s (dC, dI) vwCl (gty cI cJ cQ) A (fun u : (Nat → Int32) => (wGO a_g a_h a_q a_k a_p a_x a_s s_g ++ (wGT cI a_g u ++ (wP cI cJ a_h s_h)))) r) (dC, dI) vwCl A 6 (wGO a_g a_h a_q a_k a_p a_x a_s s_g ++ (wGT cI a_g s_o ++ (wP cI cJ a_h s_h))) 24 [(0, .ref (a_g 0)), (1, .int x1), (2, .int x2), (3, .int x3), (4, .int x4)] [] := by
    intro x1
    have L : ∀ (n : Nat) (s_o : (Nat → Int32)) (x2 : Int32) (x3 : Int32) (x4 : Int32), g_lp (fun _ _ _ _ => none) (fX6_kind_b24B fu s_g s_h   x1) n s_o x2 x3 x4 = some r → bk_U p l e (headSpec wsX6_kind (gRm 3 69)).room s m args below meth c (qUi below args s (dC, dI) vwCl (gty cI cJ cQ) A (fun u : (Nat → Int32) => (wGO a_g a_h a_q a_k a_p a_x a_s s_g ++ (wGT cI a_g u ++ (wP cI cJ a_h s_h)))) r) (dC, dI) vwCl A 6 (wGO a_g a_h a_q a_k a_p a_x a_s s_g ++ (wGT cI a_g s_o ++ (wP cI cJ a_h s_h))) 24 [(0, .ref (a_g 0)), (1, .int x1), (2, .int x2), (3, .int x3), (4, .int x4)] [] := by
      intro n
      induction n with
      | zero => intro s_o x2 x3 x4 hd; exact absurd hd (by intro h; cases h)
      | succ n k24 =>
        intro s_o x2 x3 x4 hd
        intro H locs ls hP hD hS hl
        have hd : fX6_kind_b24B fu s_g s_h   x1 (g_lp (fun _ _ _ _ => none) (fX6_kind_b24B fu s_g s_h   x1) n) s_o x2 x3 x4 = some r := hd
        unfold fX6_kind_b24B at hd
        refine lv_iload hx hb dX6_kind_24 (lv_at hl 4 rfl) ?_
        refine lv_bipush (v := 6) hx hb dX6_kind_26 kb_6 ?_
        refine rx_icmp_ge hx hb 79 dX6_kind_28 rfl hd (fun hd => ?_) (fun hd => ?_)
        · refine lv_iload_n hx hb dX6_kind_79 rfl (lv_at hl 2 rfl) ?_
          exact rx_retUi (u := s_o) (w1 := (fun u : (Nat → Int32) => (wGO a_g a_h a_q a_k a_p a_x a_s s_g ++ (wGT cI a_g u ++ (wP cI cJ a_h s_h))))) hx hb hr hlocks hd hK hP hD hS dX6_kind_80
        refine lv_aload_n hx hb dX6_kind_31 rfl (lv_at hl 0 rfl) ?_
        refine rx_get hx hb hts fiX6_kind_X6 hown hK hP 0 rfl rfl 1 (Nat.le_of_ble_eq_true rfl) fl_16 rfl rfl dX6_kind_32 ?_
        refine lv_iload_n hx hb dX6_kind_35 rfl (lv_at hl 1 rfl) ?_
        refine lv_iload hx hb dX6_kind_36 (lv_at hl 4 rfl) ?_
        refine lv_aload_n hx hb dX6_kind_38 rfl (lv_at hl 0 rfl) ?_
        refine rx_get hx hb hts fiX6_kind_X6 hown hK hP 0 rfl rfl 1 (Nat.le_of_ble_eq_true rfl) fl_16 rfl rfl dX6_kind_39 ?_
        refine rx_get hx hb hts fiX6_kind_X1 hown hK hP 2 rfl rfl 9 (Nat.le_of_ble_eq_true rfl) fl_113 rfl rfl dX6_kind_42 ?_
        refine lv_iload_n hx hb dX6_kind_45 rfl (lv_at hl 1 rfl) ?_
        refine rx_iald hx hb hK hP 9 0 rfl rfl hd dX6_kind_46 (fun v46 hd => ?_)
        refine lv_aload_n hx hb dX6_kind_47 rfl (lv_at hl 0 rfl) ?_
        refine rx_get hx hb hts fiX6_kind_X6 hown hK hP 0 rfl rfl 1 (Nat.le_of_ble_eq_true rfl) fl_16 rfl rfl dX6_kind_48 ?_
        refine rx_get hx hb hts fiX6_kind_X1 hown hK hP 2 rfl rfl 10 (Nat.le_of_ble_eq_true rfl) fl_175 rfl rfl dX6_kind_51 ?_
        refine lv_iload_n hx hb dX6_kind_54 rfl (lv_at hl 1 rfl) ?_
        refine rx_iald hx hb hK hP 10 0 rfl rfl hd dX6_kind_55 (fun v55 hd => ?_)
        refine rx_roi hd (fun v hv => W.runV (As := [.int x1, .int x4, .int v46, .int v55]) (rest := []) hcf (c_X1_gift l dC dI cI cJ cQ fu a_h  s_h x1 x4 v46 v55 v hv) (cwV 4 hts gX6_kind_X1_gift rfl rfl rfl cd_X1_gift ⟨(Nat.le_of_ble_eq_true rfl), (Nat.le_of_ble_eq_true rfl)⟩) (cq_R_V (q0 := 2) (ci := 0) hK hP [2, 3, 4, 5, 6, 7, 8, 9, 10, 11] rfl rfl rfl) rfl rfl hl.1 rfl (lv_room (Nat.le_of_ble_eq_true rfl)) dX6_kind_56 ⟨Nat.le_refl _, Nat.le_refl _⟩) (fun u56 hd => ?_)
        refine lv_istore (lv' := [(5, .int u56), (0, .ref (a_g 0)), (1, .int x1), (2, .int x2), (3, .int x3), (4, .int x4)]) hx hb dX6_kind_59 hl (Nat.le_of_ble_eq_true rfl) rfl (fun ls hl => ?_)
        refine lv_iload hx hb dX6_kind_61 (lv_at hl 0 rfl) ?_
        refine lv_iload_n hx hb dX6_kind_63 rfl (lv_at hl 4 rfl) ?_
        refine rx_icmp_le hx hb 73 dX6_kind_64 rfl hd (fun hd => ?_) (fun hd => ?_)
        · refine rx_iinc (lv' := fun z => (4, .int z) :: [(5, .int u56), (0, .ref (a_g 0)), (1, .int x1), (2, .int x2), (3, .int x3)]) hx hb (j := 5) dX6_kind_73 hl rfl ki_1 hd (Nat.le_of_ble_eq_true rfl) (fun _ => rfl) (fun x4_73 hd ls hl => ?_)
          refine lv_goto (tgt := 24) hx hb dX6_kind_76 rfl ?_
          exact k24 s_o x2 x3 x4_73 hd _ _ _ hP hD hS (lv_sub hl [2, 3, 4, 5, 0] rfl)
        refine lv_iload hx hb dX6_kind_67 (lv_at hl 0 rfl) ?_
        refine lv_istore_n (lv' := [(3, .int u56), (5, .int u56), (0, .ref (a_g 0)), (1, .int x1), (2, .int x2), (4, .int x4)]) hx hb dX6_kind_69 rfl hl (Nat.le_of_ble_eq_true rfl) rfl (fun ls hl => ?_)
        refine lv_iload hx hb dX6_kind_70 (lv_at hl 5 rfl) ?_
        refine lv_istore_n (lv' := [(2, .int x4), (3, .int u56), (5, .int u56), (0, .ref (a_g 0)), (1, .int x1), (4, .int x4)]) hx hb dX6_kind_72 rfl hl (Nat.le_of_ble_eq_true rfl) rfl (fun ls hl => ?_)
        refine rx_iinc (lv' := fun z => (4, .int z) :: [(2, .int x4), (3, .int u56), (5, .int u56), (0, .ref (a_g 0)), (1, .int x1)]) hx hb (j := 5) dX6_kind_73 hl rfl ki_1 hd (Nat.le_of_ble_eq_true rfl) (fun _ => rfl) (fun x4_73 hd ls hl => ?_)
        refine lv_goto (tgt := 24) hx hb dX6_kind_76 rfl ?_
        exact k24 s_o x4 u56 x4_73 hd _ _ _ hP hD hS (lv_sub hl [4, 5, 1, 2, 0] rfl)
    exact fun s_o x2 x3 x4 => L fu s_o x2 x3 x4
  refine lv_aload_n hx hb dX6_kind_0 rfl (lv_at hl 0 rfl) ?_
  refine rx_get hx hb hts fiX6_kind_X6 hown hK hP 0 rfl rfl 1 (Nat.le_of_ble_eq_true rfl) fl_16 rfl rfl dX6_kind_1 ?_
  refine lv_iload_n hx hb dX6_kind_4 rfl (lv_at hl 1 rfl) ?_
  refine rx_roi hd (fun v hv => W.runV (As := [.int x1]) (rest := []) hcf (c_X1_isThere l dC dI cI cJ cQ fu a_h  s_h x1 v hv) (cwV 1 hts gX6_kind_X1_isThere rfl rfl rfl cd_X1_isThere ⟨(Nat.le_of_ble_eq_true rfl), (Nat.le_of_ble_eq_true rfl)⟩) (cq_R_V (q0 := 2) (ci := 0) hK hP [2, 3, 4, 5, 6, 7, 8, 9, 10, 11] rfl rfl rfl) rfl rfl hl.1 rfl (lv_room (Nat.le_of_ble_eq_true rfl)) dX6_kind_5 ⟨Nat.le_refl _, Nat.le_refl _⟩) (fun u5 hd => ?_)
  refine rx_if_ne hx hb 17 dX6_kind_8 rfl hd (fun hd => ?_) (fun hd => ?_)
  · refine lv_iconst (v := 0) hx hb dX6_kind_17 ki_0 ?_
    refine lv_istore_n (lv' := [(2, .int (0 : Int32)), (0, .ref (a_g 0)), (1, .int x1)]) hx hb dX6_kind_18 rfl hl (Nat.le_of_ble_eq_true rfl) rfl (fun ls hl => ?_)
    refine lv_iconst (v := -1) hx hb dX6_kind_19 ki_m1 ?_
    refine lv_istore_n (lv' := [(3, .int (-1 : Int32)), (2, .int (0 : Int32)), (0, .ref (a_g 0)), (1, .int x1)]) hx hb dX6_kind_20 rfl hl (Nat.le_of_ble_eq_true rfl) rfl (fun ls hl => ?_)
    refine lv_iconst (v := 0) hx hb dX6_kind_21 ki_0 ?_
    refine lv_istore (lv' := [(4, .int (0 : Int32)), (3, .int (-1 : Int32)), (2, .int (0 : Int32)), (0, .ref (a_g 0)), (1, .int x1)]) hx hb dX6_kind_22 hl (Nat.le_of_ble_eq_true rfl) rfl (fun ls hl => ?_)
    exact b24   x1 s_o (0 : Int32) (-1 : Int32) (0 : Int32) hd _ _ _ hP hD hS (lv_sub hl [3, 4, 2, 1, 0] rfl)
  refine lv_aload_n hx hb dX6_kind_11 rfl (lv_at hl 0 rfl) ?_
  refine lv_iconst (v := 0) hx hb dX6_kind_12 ki_0 ?_
  refine rx_upi (fun u => (wGO a_g a_h a_q a_k a_p a_x a_s s_g ++ (wGT cI a_g u ++ (wP cI cJ a_h s_h)))) hd hP hD hS hA ⟨[0, 1], [2, 3, 4, 5, 6, 7, 8, 9, 10, 11], [10, 11, 0, 1, 2, 3, 4, 5, 6, 7, 8, 9], wP cI cJ a_h s_h, rfl, rfl, rfl, by decide, rfl, fun _ => rfl⟩ (fun v hv => va_runV (As := [.int (0 : Int32)]) (rest := []) hcf (c_X6_finding l dC dI cI cJ cQ fu a_g a_h a_q a_k a_p a_x a_s _  s_g s_o (0 : Int32) v hv) (cwV 1 hts gX6_kind_X6_finding rfl rfl rfl cd_X6_finding ⟨(Nat.le_of_ble_eq_true rfl), (Nat.le_of_ble_eq_true rfl)⟩) (cq_U_V (q0 := 0) (ci := 5) hK hP hD [0, 1] rfl rfl rfl rfl) rfl rfl hl.1 rfl (lv_room (Nat.le_of_ble_eq_true rfl)) dX6_kind_13 ⟨Nat.le_refl _, Nat.le_refl _⟩) (fun u13 hd H locs hP hD hS => ?_)
  exact rx_retUi (u := u13.2) (w1 := (fun u : (Nat → Int32) => (wGO a_g a_h a_q a_k a_p a_x a_s s_g ++ (wGT cI a_g u ++ (wP cI cJ a_h s_h))))) hx hb hr hlocks hd hK hP hD hS dX6_kind_16
theorem fiX6_spring_X1 : ∀ w ∈ wsX10, w ∈ wsX6_spring := mem_r _ [92, 93, 94, 95, 96, 97, 98, 99, 100, 101, 102, 103] rfl
theorem fiX6_spring_X6 : ∀ w ∈ wsX60, w ∈ wsX6_spring := mem_r _ [84, 85, 86, 87, 88, 89, 90, 91] rfl
set_option maxHeartbeats 8000000 in
set_option maxRecDepth 100000 in
theorem c_X6_spring (l : Launch) (dC : Nat → ClassId) (dI : Nat → Nat → Nat) (cI cJ cQ : ClassId) (fu : Nat) (gz : GZ) (a_g a_h a_q a_k a_p a_x a_s : Nat → Nat) (sz : Nat) (s_g : Int32) (s_o : (Nat → Int32)) (s_h : PS) (s_q : PS) (x1 : Int32) (r : Int32 × (Nat → Int32) × PS) (hd : fX6_spring fu  s_g s_o s_h s_q x1 = some r) : mUiG l yX6_spring wsX6_spring (gRm 6 138) [.ref (a_g 0), .int x1] (dC, dI) vwCl (gty cI cJ cQ) (wGO a_g a_h a_q a_k a_p a_x a_s s_g ++ (wGT cI a_g s_o ++ (wP cI cJ a_h s_h ++ (wP cI cJ a_q s_q)))) sz gz (fun u : (Nat → Int32) × PS => (wGO a_g a_h a_q a_k a_p a_x a_s s_g ++ (wGT cI a_g u.1 ++ (wP cI cJ a_h s_h ++ (wP cI cJ a_q u.2))))) r := by
  refine Met.ofW (cc := cX6_spring) (maxL := 6) (ret := (some .int)) (by decide) rfl ?_
  intro p e s m args below meth c s₁ B hml hv
  obtain ⟨hav, ⟨hsz, hP, hK, hD0⟩, hG⟩ := hv
  subst hsz
  have hD := hD0.self (sz := s.heap.size)
  generalize hAe : va_A (wGO a_g a_h a_q a_k a_p a_x a_s s_g ++ (wGT cI a_g s_o ++ (wP cI cJ a_h s_h ++ (wP cI cJ a_q s_q)))) s.heap.size = A at hD hG ⊢
  have hA : ∀ q : Nat, s.heap.size ≤ q → A q := fun q h => by rw [← hAe]; exact Or.inr h
  have hS : va_S A s.heap s.heap [] := va_S.rf
  have hx := B.exec
  have hb := B.bytes
  have hr := B.returns
  have hts := atoms_spec (ws := wsX6_spring) B.pre
  have hown : s.vm.findClass RX6 = some m.cls := findClass_of_methodNamed B.named
  have hlocks := B.notSynchronized
  have hcf : CallFix p m c cX6_spring 6 s args wsX6_spring RX6 := ⟨hx, hb, hml, hown, hts⟩
  have fl_73 := hts (.fieldLink RX6 73 "BucketGift$Parish" "MOST_WATER" "[I") (List.mem_of_getElem? (i := 2) rfl)
  have fl_20 := hts (.fieldLink RX6 20 "BucketGift" "trial" "LBucketGift$Parish;") (List.mem_of_getElem? (i := 3) rfl)
  have fl_16 := hts (.fieldLink RX6 16 "BucketGift" "here" "LBucketGift$Parish;") (List.mem_of_getElem? (i := 4) rfl)
  have fl_76 := hts (.fieldLink RX6 76 "BucketGift$Parish" "water" "[I") (List.mem_of_getElem? (i := 5) rfl)
  have kc_146 := hts (.constant RX6 146 (1000000)) (List.mem_of_getElem? (i := 1) rfl)
  have hg : entryFrame m args 6 = entryFrame m ([.ref (a_g 0), .int x1] : List Value).toArray 6 := by rw [hav]
  rw [hg, lg_entry_eq]
  have hl := lv_entry ([.ref (a_g 0), .int x1]) (n := 6) (Nat.le_of_ble_eq_true rfl)
  generalize (lg_sl ([.ref (a_g 0), .int x1]) ++ List.replicate (6 - (lg_sl ([.ref (a_g 0), .int x1])).length) Slot.unset).toArray = ls at hl ⊢
  have hl : lv_has ls 6 [(0, .ref (a_g 0)), (1, .int x1)] := hl
  clear hg
  unfold fX6_spring at hd
  have b24 : ∀ (x1 : Int32) (s_o : (Nat → Int32)) (s_q : PS) (x2 : Int32) (x3 : Int32) (x4 : Int32), fX6_spring_b24 fu s_g s_h   x1 s_o s_q x2 x3 x4 = some r → bk_U p l e (headSpec wsX6_spring (gRm 6 138)).room s m args below meth c (qUi below args s (dC, dI) vwCl (gty cI cJ cQ) A (fun u : (Nat → Int32) × PS => (wGO a_g a_h a_q a_k a_p a_x a_s s_g ++ (wGT cI a_g u.1 ++ (wP cI cJ a_h s_h ++ (wP cI cJ a_q u.2))))) r) (dC, dI) vwCl A 6 (wGO a_g a_h a_q a_k a_p a_x a_s s_g ++ (wGT cI a_g s_o ++ (wP cI cJ a_h s_h ++ (wP cI cJ a_q s_q)))) 24 [(0, .ref (a_g 0)), (1, .int x1), (2, .int x2), (3, .int x3), (4, .int x4)] [] := by
    intro x1
    have L : ∀ (n : Nat) (s_o : (Nat → Int32)) (s_q : PS) (x2 : Int32) (x3 : Int32) (x4 : Int32), g_lp (fun _ _ _ _ _ => none) (fX6_spring_b24B fu s_g s_h   x1) n s_o s_q x2 x3 x4 = some r → bk_U p l e (headSpec wsX6_spring (gRm 6 138)).room s m args below meth c (qUi below args s (dC, dI) vwCl (gty cI cJ cQ) A (fun u : (Nat → Int32) × PS => (wGO a_g a_h a_q a_k a_p a_x a_s s_g ++ (wGT cI a_g u.1 ++ (wP cI cJ a_h s_h ++ (wP cI cJ a_q u.2))))) r) (dC, dI) vwCl A 6 (wGO a_g a_h a_q a_k a_p a_x a_s s_g ++ (wGT cI a_g s_o ++ (wP cI cJ a_h s_h ++ (wP cI cJ a_q s_q)))) 24 [(0, .ref (a_g 0)), (1, .int x1), (2, .int x2), (3, .int x3), (4, .int x4)] [] := by
      intro n
      induction n with
      | zero => intro s_o s_q x2 x3 x4 hd; exact absurd hd (by intro h; cases h)
      | succ n k24 =>
        intro s_o s_q x2 x3 x4 hd
        intro H locs ls hP hD hS hl
        have hd : fX6_spring_b24B fu s_g s_h   x1 (g_lp (fun _ _ _ _ _ => none) (fX6_spring_b24B fu s_g s_h   x1) n) s_o s_q x2 x3 x4 = some r := hd
        unfold fX6_spring_b24B at hd
        refine lv_iload hx hb dX6_spring_24 (lv_at hl 4 rfl) ?_
        refine va_gets hx hb hG.1 hS hown fl_73 (fun _ h => h) dX6_spring_26 ?_
        refine lv_iconst (v := 1) hx hb dX6_spring_29 ki_1 ?_
        refine rx_tald (f := gMW) hx hb hG.2.1 hS hd dX6_spring_30 (fun v30 hd => ?_)
        refine rx_icmp_gt hx hb 86 dX6_spring_31 rfl hd (fun hd => ?_) (fun hd => ?_)
        · refine lv_iload_n hx hb dX6_spring_86 rfl (lv_at hl 2 rfl) ?_
          exact rx_retUi (u := (s_o, s_q)) (w1 := (fun u : (Nat → Int32) × PS => (wGO a_g a_h a_q a_k a_p a_x a_s s_g ++ (wGT cI a_g u.1 ++ (wP cI cJ a_h s_h ++ (wP cI cJ a_q u.2)))))) hx hb hr hlocks hd hK hP hD hS dX6_spring_87
        refine lv_iload_n hx hb dX6_spring_34 rfl (lv_at hl 3 rfl) ?_
        refine rx_if_le hx hb 86 dX6_spring_35 rfl hd (fun hd => ?_) (fun hd => ?_)
        · refine lv_iload_n hx hb dX6_spring_86 rfl (lv_at hl 2 rfl) ?_
          exact rx_retUi (u := (s_o, s_q)) (w1 := (fun u : (Nat → Int32) × PS => (wGO a_g a_h a_q a_k a_p a_x a_s s_g ++ (wGT cI a_g u.1 ++ (wP cI cJ a_h s_h ++ (wP cI cJ a_q u.2)))))) hx hb hr hlocks hd hK hP hD hS dX6_spring_87
        refine lv_aload_n hx hb dX6_spring_38 rfl (lv_at hl 0 rfl) ?_
        refine rx_get hx hb hts fiX6_spring_X6 hown hK hP 0 rfl rfl 2 (Nat.le_of_ble_eq_true rfl) fl_20 rfl rfl dX6_spring_39 ?_
        refine lv_aload_n hx hb dX6_spring_42 rfl (lv_at hl 0 rfl) ?_
        refine rx_get hx hb hts fiX6_spring_X6 hown hK hP 0 rfl rfl 1 (Nat.le_of_ble_eq_true rfl) fl_16 rfl rfl dX6_spring_43 ?_
        refine rx_upv (fun u => (wGO a_g a_h a_q a_k a_p a_x a_s s_g ++ (wGT cI a_g s_o ++ (wP cI cJ a_h s_h ++ (wP cI cJ a_q u))))) hd hP hD hS hA ⟨[12, 13, 14, 15, 16, 17, 18, 19, 20, 21, 2, 3, 4, 5, 6, 7, 8, 9, 10, 11], [0, 1], [0, 1, 12, 13, 14, 15, 16, 17, 18, 19, 20, 21, 2, 3, 4, 5, 6, 7, 8, 9, 10, 11], wGO a_g a_h a_q a_k a_p a_x a_s s_g ++ (wGT cI a_g s_o), rfl, rfl, rfl, by decide, rfl, fun _ => rfl⟩ (fun v hv => va_runV (As := [.ref (a_h 0)]) (rest := []) hcf (c_X1_become l dC dI cI cJ cQ fu a_q a_h _  s_q s_h  v hv) (cwV 1 hts gX6_spring_X1_become rfl rfl rfl cd_X1_become ⟨(Nat.le_of_ble_eq_true rfl), (Nat.le_of_ble_eq_true rfl)⟩) (cq_U_V (q0 := 12) (ci := 0) hK hP hD [12, 13, 14, 15, 16, 17, 18, 19, 20, 21, 2, 3, 4, 5, 6, 7, 8, 9, 10, 11] rfl rfl rfl rfl) rfl rfl hl.1 rfl (lv_room (Nat.le_of_ble_eq_true rfl)) dX6_spring_46 ⟨Nat.le_refl _, Nat.le_refl _⟩) (fun u46 hd H locs hP hD hS => ?_)
        refine lv_aload_n hx hb dX6_spring_49 rfl (lv_at hl 0 rfl) ?_
        refine rx_get hx hb hts fiX6_spring_X6 hown hK hP 0 rfl rfl 2 (Nat.le_of_ble_eq_true rfl) fl_20 rfl rfl dX6_spring_50 ?_
        refine rx_get hx hb hts fiX6_spring_X1 hown hK hP 12 rfl rfl 4 (Nat.le_of_ble_eq_true rfl) fl_76 rfl rfl dX6_spring_53 ?_
        refine lv_iconst (v := 1) hx hb dX6_spring_56 ki_1 ?_
        refine lv_iload hx hb dX6_spring_57 (lv_at hl 4 rfl) ?_
        refine rx_iast (wGO a_g a_h a_q a_k a_p a_x a_s s_g ++ (wGT cI a_g s_o ++ (wP cI cJ a_h s_h ++ (wP cI cJ a_q (puWater u46 (Int32.toNatClampNeg (1 : Int32)) x4))))) hx hb hK hP hD hS 17 0 rfl rfl hd (g_setR (j := 16) rfl (g_setR (j := 15) rfl (g_setR (j := 5) rfl (wP_uWater ..)))) dX6_spring_59 (fun hd H locs hP hD hS => ?_)
        refine lv_aload_n hx hb dX6_spring_60 rfl (lv_at hl 0 rfl) ?_
        refine lv_iload_n hx hb dX6_spring_61 rfl (lv_at hl 1 rfl) ?_
        refine lv_iload_n hx hb dX6_spring_62 rfl (lv_at hl 3 rfl) ?_
        refine rx_upi (fun u => (wGO a_g a_h a_q a_k a_p a_x a_s s_g ++ (wGT cI a_g s_o ++ (wP cI cJ a_h s_h ++ (wP cI cJ a_q u))))) hd hP hD hS hA ⟨[0, 2, 3, 4, 5, 6, 7, 8, 9, 10, 11, 12, 13, 14, 15, 16, 17, 18, 19, 20, 21], [1], [1, 0, 2, 3, 4, 5, 6, 7, 8, 9, 10, 11, 12, 13, 14, 15, 16, 17, 18, 19, 20, 21], wGT cI a_g s_o, rfl, rfl, rfl, by decide, rfl, fun _ => rfl⟩ (fun v hv => va_runV (As := [.int x1, .int x3]) (rest := []) hcf (c_X6_dryOfTrial l dC dI cI cJ cQ fu a_g a_h a_q a_k a_p a_x a_s _  s_g s_h (puWater u46 (Int32.toNatClampNeg (1 : Int32)) x4) x1 x3 v hv) (cwV 2 hts gX6_spring_X6_dryOfTrial rfl rfl rfl cd_X6_dryOfTrial ⟨(Nat.le_of_ble_eq_true rfl), (Nat.le_of_ble_eq_true rfl)⟩) (cq_U_V (q0 := 0) (ci := 5) hK hP hD [0, 2, 3, 4, 5, 6, 7, 8, 9, 10, 11, 12, 13, 14, 15, 16, 17, 18, 19, 20, 21] rfl rfl rfl rfl) rfl rfl hl.1 rfl (lv_room (Nat.le_of_ble_eq_true rfl)) dX6_spring_63 ⟨Nat.le_refl _, Nat.le_refl _⟩) (fun u63 hd H locs hP hD hS => ?_)
        refine lv_istore (lv' := [(5, .int u63.1), (0, .ref (a_g 0)), (1, .int x1), (2, .int x2), (3, .int x3), (4, .int x4)]) hx hb dX6_spring_66 hl (Nat.le_of_ble_eq_true rfl) rfl (fun ls hl => ?_)
        refine lv_iload hx hb dX6_spring_68 (lv_at hl 0 rfl) ?_
        refine lv_iload_n hx hb dX6_spring_70 rfl (lv_at hl 4 rfl) ?_
        refine rx_icmp_ge hx hb 80 dX6_spring_71 rfl hd (fun hd => ?_) (fun hd => ?_)
        · refine rx_iinc (lv' := fun z => (4, .int z) :: [(5, .int u63.1), (0, .ref (a_g 0)), (1, .int x1), (2, .int x2), (3, .int x3)]) hx hb (j := 5) dX6_spring_80 hl rfl ki_1 hd (Nat.le_of_ble_eq_true rfl) (fun _ => rfl) (fun x4_80 hd ls hl => ?_)
          refine lv_goto (tgt := 24) hx hb dX6_spring_83 rfl ?_
          exact k24 s_o u63.2 x2 x3 x4_80 hd _ _ _ hP hD hS (lv_sub hl [2, 3, 4, 5, 0] rfl)
        refine lv_iload hx hb dX6_spring_74 (lv_at hl 0 rfl) ?_
        refine lv_istore_n (lv' := [(3, .int u63.1), (5, .int u63.1), (0, .ref (a_g 0)), (1, .int x1), (2, .int x2), (4, .int x4)]) hx hb dX6_spring_76 rfl hl (Nat.le_of_ble_eq_true rfl) rfl (fun ls hl => ?_)
        refine lv_iload hx hb dX6_spring_77 (lv_at hl 5 rfl) ?_
        refine lv_istore_n (lv' := [(2, .int x4), (3, .int u63.1), (5, .int u63.1), (0, .ref (a_g 0)), (1, .int x1), (4, .int x4)]) hx hb dX6_spring_79 rfl hl (Nat.le_of_ble_eq_true rfl) rfl (fun ls hl => ?_)
        refine rx_iinc (lv' := fun z => (4, .int z) :: [(2, .int x4), (3, .int u63.1), (5, .int u63.1), (0, .ref (a_g 0)), (1, .int x1)]) hx hb (j := 5) dX6_spring_80 hl rfl ki_1 hd (Nat.le_of_ble_eq_true rfl) (fun _ => rfl) (fun x4_80 hd ls hl => ?_)
        refine lv_goto (tgt := 24) hx hb dX6_spring_83 rfl ?_
        exact k24 s_o u63.2 x4 u63.1 x4_80 hd _ _ _ hP hD hS (lv_sub hl [4, 5, 1, 2, 0] rfl)
    exact fun s_o s_q x2 x3 x4 => L fu s_o s_q x2 x3 x4
  refine lv_iload_n hx hb dX6_spring_0 rfl (lv_at hl 1 rfl) ?_
  refine lv_iconst (v := 1) hx hb dX6_spring_1 ki_1 ?_
  refine lv_bipush (v := 20) hx hb dX6_spring_2 kb_20 ?_
  refine rx_roi hd (fun v hv => W.runS (As := [.int x1, .int (1 : Int32), .int (20 : Int32)]) (rest := []) hcf (c_X6_isWithin l dC dI cI cJ cQ fu    x1 (1 : Int32) (20 : Int32) v hv) (va_cwS 3 hts gX6_spring_X6_isWithin rfl rfl rfl cd_X6_isWithin ⟨(Nat.le_of_ble_eq_true rfl), (Nat.le_of_ble_eq_true rfl)⟩) (cq_R_S hK hP [] rfl) rfl rfl hl.1 rfl (lv_room (Nat.le_of_ble_eq_true rfl)) dX6_spring_4 ⟨Nat.le_refl _, Nat.le_refl _⟩) (fun u4 hd => ?_)
  refine rx_if_ne hx hb 16 dX6_spring_7 rfl hd (fun hd => ?_) (fun hd => ?_)
  · refine lv_iconst (v := 0) hx hb dX6_spring_16 ki_0 ?_
    refine lv_istore_n (lv' := [(2, .int (0 : Int32)), (0, .ref (a_g 0)), (1, .int x1)]) hx hb dX6_spring_17 rfl hl (Nat.le_of_ble_eq_true rfl) rfl (fun ls hl => ?_)
    refine lv_ldc hx hb hown kc_146 dX6_spring_18 ?_
    refine lv_istore_n (lv' := [(3, .int (1000000 : Int32)), (2, .int (0 : Int32)), (0, .ref (a_g 0)), (1, .int x1)]) hx hb dX6_spring_20 rfl hl (Nat.le_of_ble_eq_true rfl) rfl (fun ls hl => ?_)
    refine lv_iconst (v := 0) hx hb dX6_spring_21 ki_0 ?_
    refine lv_istore (lv' := [(4, .int (0 : Int32)), (3, .int (1000000 : Int32)), (2, .int (0 : Int32)), (0, .ref (a_g 0)), (1, .int x1)]) hx hb dX6_spring_22 hl (Nat.le_of_ble_eq_true rfl) rfl (fun ls hl => ?_)
    exact b24   x1 s_o s_q (0 : Int32) (1000000 : Int32) (0 : Int32) hd _ _ _ hP hD hS (lv_sub hl [3, 4, 2, 1, 0] rfl)
  refine lv_aload_n hx hb dX6_spring_10 rfl (lv_at hl 0 rfl) ?_
  refine lv_iconst (v := 0) hx hb dX6_spring_11 ki_0 ?_
  refine rx_upi (fun u => (wGO a_g a_h a_q a_k a_p a_x a_s s_g ++ (wGT cI a_g u ++ (wP cI cJ a_h s_h ++ (wP cI cJ a_q s_q))))) hd hP hD hS hA ⟨[0, 1], [2, 3, 4, 5, 6, 7, 8, 9, 10, 11, 12, 13, 14, 15, 16, 17, 18, 19, 20, 21], [20, 21, 0, 1, 2, 3, 4, 5, 6, 7, 8, 9, 10, 11, 12, 13, 14, 15, 16, 17, 18, 19], wP cI cJ a_h s_h ++ (wP cI cJ a_q s_q), rfl, rfl, rfl, by decide, rfl, fun _ => rfl⟩ (fun v hv => va_runV (As := [.int (0 : Int32)]) (rest := []) hcf (c_X6_finding l dC dI cI cJ cQ fu a_g a_h a_q a_k a_p a_x a_s _  s_g s_o (0 : Int32) v hv) (cwV 1 hts gX6_spring_X6_finding rfl rfl rfl cd_X6_finding ⟨(Nat.le_of_ble_eq_true rfl), (Nat.le_of_ble_eq_true rfl)⟩) (cq_U_V (q0 := 0) (ci := 5) hK hP hD [0, 1] rfl rfl rfl rfl) rfl rfl hl.1 rfl (lv_room (Nat.le_of_ble_eq_true rfl)) dX6_spring_12 ⟨Nat.le_refl _, Nat.le_refl _⟩) (fun u12 hd H locs hP hD hS => ?_)
  exact rx_retUi (u := (u12.2, s_q)) (w1 := (fun u : (Nat → Int32) × PS => (wGO a_g a_h a_q a_k a_p a_x a_s s_g ++ (wGT cI a_g u.1 ++ (wP cI cJ a_h s_h ++ (wP cI cJ a_q u.2)))))) hx hb hr hlocks hd hK hP hD hS dX6_spring_15
theorem fiX6_enough_X1 : ∀ w ∈ wsX10, w ∈ wsX6_enough := mem_r _ [90, 91, 92, 93, 94, 95, 96, 97, 98, 99, 100, 101] rfl
theorem fiX6_enough_X6 : ∀ w ∈ wsX60, w ∈ wsX6_enough := mem_r _ [82, 83, 84, 85, 86, 87, 88, 89] rfl
set_option maxHeartbeats 8000000 in
set_option maxRecDepth 100000 in
theorem c_X6_enough (l : Launch) (dC : Nat → ClassId) (dI : Nat → Nat → Nat) (cI cJ cQ : ClassId) (fu : Nat) (a_g a_h a_q a_k a_p a_x a_s : Nat → Nat) (sz : Nat) (s_g : Int32) (s_o : (Nat → Int32)) (s_h : PS) (s_q : PS) (x1 : Int32) (x2 : Int32) (r : Int32 × (Nat → Int32) × PS) (hd : fX6_enough fu  s_g s_o s_h s_q x1 x2 = some r) : mUi l yX6_enough wsX6_enough (gRm 5 113) [.ref (a_g 0), .int x1, .int x2] (dC, dI) vwCl (gty cI cJ cQ) (wGO a_g a_h a_q a_k a_p a_x a_s s_g ++ (wGT cI a_g s_o ++ (wP cI cJ a_h s_h ++ (wP cI cJ a_q s_q)))) sz (fun u : (Nat → Int32) × PS => (wGO a_g a_h a_q a_k a_p a_x a_s s_g ++ (wGT cI a_g u.1 ++ (wP cI cJ a_h s_h ++ (wP cI cJ a_q u.2))))) r := by
  refine Met.ofW (cc := cX6_enough) (maxL := 5) (ret := (some .int)) (by decide) rfl ?_
  intro p e s m args below meth c s₁ B hml hv
  obtain ⟨hav, hsz, hP, hK, hD0⟩ := hv
  subst hsz
  have hD := hD0.self (sz := s.heap.size)
  generalize hAe : va_A (wGO a_g a_h a_q a_k a_p a_x a_s s_g ++ (wGT cI a_g s_o ++ (wP cI cJ a_h s_h ++ (wP cI cJ a_q s_q)))) s.heap.size = A at hD ⊢
  have hA : ∀ q : Nat, s.heap.size ≤ q → A q := fun q h => by rw [← hAe]; exact Or.inr h
  have hS : va_S A s.heap s.heap [] := va_S.rf
  have hx := B.exec
  have hb := B.bytes
  have hr := B.returns
  have hts := atoms_spec (ws := wsX6_enough) B.pre
  have hown : s.vm.findClass RX6 = some m.cls := findClass_of_methodNamed B.named
  have hlocks := B.notSynchronized
  have hcf : CallFix p m c cX6_enough 5 s args wsX6_enough RX6 := ⟨hx, hb, hml, hown, hts⟩
  have fl_20 := hts (.fieldLink RX6 20 "BucketGift" "trial" "LBucketGift$Parish;") (List.mem_of_getElem? (i := 1) rfl)
  have fl_16 := hts (.fieldLink RX6 16 "BucketGift" "here" "LBucketGift$Parish;") (List.mem_of_getElem? (i := 2) rfl)
  have fl_133 := hts (.fieldLink RX6 133 "BucketGift$Parish" "store" "[I") (List.mem_of_getElem? (i := 3) rfl)
  have hg : entryFrame m args 5 = entryFrame m ([.ref (a_g 0), .int x1, .int x2] : List Value).toArray 5 := by rw [hav]
  rw [hg, lg_entry_eq]
  have hl := lv_entry ([.ref (a_g 0), .int x1, .int x2]) (n := 5) (Nat.le_of_ble_eq_true rfl)
  generalize (lg_sl ([.ref (a_g 0), .int x1, .int x2]) ++ List.replicate (5 - (lg_sl ([.ref (a_g 0), .int x1, .int x2])).length) Slot.unset).toArray = ls at hl ⊢
  have hl : lv_has ls 5 [(0, .ref (a_g 0)), (1, .int x1), (2, .int x2)] := hl
  clear hg
  unfold fX6_enough at hd
  have b17 : ∀ (s_o : (Nat → Int32)) (s_q : PS), fX6_enough_b17 fu s_g s_h   s_o s_q = some r → bk_U p l e (headSpec wsX6_enough (gRm 5 113)).room s m args below meth c (qUi below args s (dC, dI) vwCl (gty cI cJ cQ) A (fun u : (Nat → Int32) × PS => (wGO a_g a_h a_q a_k a_p a_x a_s s_g ++ (wGT cI a_g u.1 ++ (wP cI cJ a_h s_h ++ (wP cI cJ a_q u.2))))) r) (dC, dI) vwCl A 5 (wGO a_g a_h a_q a_k a_p a_x a_s s_g ++ (wGT cI a_g s_o ++ (wP cI cJ a_h s_h ++ (wP cI cJ a_q s_q)))) 17 [(0, .ref (a_g 0))] [] := by
    intro s_o s_q hd
    intro H locs ls hP hD hS hl
    unfold fX6_enough_b17 at hd
    refine lv_aload_n hx hb dX6_enough_17 rfl (lv_at hl 0 rfl) ?_
    refine lv_iconst (v := 0) hx hb dX6_enough_18 ki_0 ?_
    refine rx_upi (fun u => (wGO a_g a_h a_q a_k a_p a_x a_s s_g ++ (wGT cI a_g u ++ (wP cI cJ a_h s_h ++ (wP cI cJ a_q s_q))))) hd hP hD hS hA ⟨[0, 1], [2, 3, 4, 5, 6, 7, 8, 9, 10, 11, 12, 13, 14, 15, 16, 17, 18, 19, 20, 21], [20, 21, 0, 1, 2, 3, 4, 5, 6, 7, 8, 9, 10, 11, 12, 13, 14, 15, 16, 17, 18, 19], wP cI cJ a_h s_h ++ (wP cI cJ a_q s_q), rfl, rfl, rfl, by decide, rfl, fun _ => rfl⟩ (fun v hv => va_runV (As := [.int (0 : Int32)]) (rest := []) hcf (c_X6_finding l dC dI cI cJ cQ fu a_g a_h a_q a_k a_p a_x a_s _  s_g s_o (0 : Int32) v hv) (cwV 1 hts gX6_enough_X6_finding rfl rfl rfl cd_X6_finding ⟨(Nat.le_of_ble_eq_true rfl), (Nat.le_of_ble_eq_true rfl)⟩) (cq_U_V (q0 := 0) (ci := 5) hK hP hD [0, 1] rfl rfl rfl rfl) rfl rfl hl.1 rfl (lv_room (Nat.le_of_ble_eq_true rfl)) dX6_enough_19 ⟨Nat.le_refl _, Nat.le_refl _⟩) (fun u19 hd H locs hP hD hS => ?_)
    exact rx_retUi (u := (u19.2, s_q)) (w1 := (fun u : (Nat → Int32) × PS => (wGO a_g a_h a_q a_k a_p a_x a_s s_g ++ (wGT cI a_g u.1 ++ (wP cI cJ a_h s_h ++ (wP cI cJ a_q u.2)))))) hx hb hr hlocks hd hK hP hD hS dX6_enough_22
  have b53 : ∀ (x1 : Int32) (x2 : Int32) (s_o : (Nat → Int32)) (s_q : PS) (x3 : Int32) (x4 : Int32), fX6_enough_b53 fu s_g s_h   x1 x2 s_o s_q x3 x4 = some r → bk_U p l e (headSpec wsX6_enough (gRm 5 113)).room s m args below meth c (qUi below args s (dC, dI) vwCl (gty cI cJ cQ) A (fun u : (Nat → Int32) × PS => (wGO a_g a_h a_q a_k a_p a_x a_s s_g ++ (wGT cI a_g u.1 ++ (wP cI cJ a_h s_h ++ (wP cI cJ a_q u.2))))) r) (dC, dI) vwCl A 5 (wGO a_g a_h a_q a_k a_p a_x a_s s_g ++ (wGT cI a_g s_o ++ (wP cI cJ a_h s_h ++ (wP cI cJ a_q s_q)))) 53 [(0, .ref (a_g 0)), (1, .int x1), (2, .int x2), (3, .int x3), (4, .int x4)] [] := by
    intro x1 x2
    have L : ∀ (n : Nat) (s_o : (Nat → Int32)) (s_q : PS) (x3 : Int32) (x4 : Int32), g_lp (fun _ _ _ _ => none) (fX6_enough_b53B fu s_g s_h   x1 x2) n s_o s_q x3 x4 = some r → bk_U p l e (headSpec wsX6_enough (gRm 5 113)).room s m args below meth c (qUi below args s (dC, dI) vwCl (gty cI cJ cQ) A (fun u : (Nat → Int32) × PS => (wGO a_g a_h a_q a_k a_p a_x a_s s_g ++ (wGT cI a_g u.1 ++ (wP cI cJ a_h s_h ++ (wP cI cJ a_q u.2))))) r) (dC, dI) vwCl A 5 (wGO a_g a_h a_q a_k a_p a_x a_s s_g ++ (wGT cI a_g s_o ++ (wP cI cJ a_h s_h ++ (wP cI cJ a_q s_q)))) 53 [(0, .ref (a_g 0)), (1, .int x1), (2, .int x2), (3, .int x3), (4, .int x4)] [] := by
      intro n
      induction n with
      | zero => intro s_o s_q x3 x4 hd; exact absurd hd (by intro h; cases h)
      | succ n k53 =>
        intro s_o s_q x3 x4 hd
        intro H locs ls hP hD hS hl
        have hd : fX6_enough_b53B fu s_g s_h   x1 x2 (g_lp (fun _ _ _ _ => none) (fX6_enough_b53B fu s_g s_h   x1 x2) n) s_o s_q x3 x4 = some r := hd
        unfold fX6_enough_b53B at hd
        refine lv_iload hx hb dX6_enough_53 (lv_at hl 4 rfl) ?_
        refine lv_iload_n hx hb dX6_enough_55 rfl (lv_at hl 2 rfl) ?_
        refine rx_icmp_ge hx hb 103 dX6_enough_56 rfl hd (fun hd => ?_) (fun hd => ?_)
        · refine lv_sipush (v := 400) hx hb dX6_enough_103 ks_400 ?_
          refine lv_iload_n hx hb dX6_enough_106 rfl (lv_at hl 3 rfl) ?_
          refine lv_isub hx hb dX6_enough_107 ?_
          exact rx_retUi (u := (s_o, s_q)) (w1 := (fun u : (Nat → Int32) × PS => (wGO a_g a_h a_q a_k a_p a_x a_s s_g ++ (wGT cI a_g u.1 ++ (wP cI cJ a_h s_h ++ (wP cI cJ a_q u.2)))))) hx hb hr hlocks hd hK hP hD hS dX6_enough_108
        refine lv_aload_n hx hb dX6_enough_59 rfl (lv_at hl 0 rfl) ?_
        refine rx_get hx hb hts fiX6_enough_X6 hown hK hP 0 rfl rfl 2 (Nat.le_of_ble_eq_true rfl) fl_20 rfl rfl dX6_enough_60 ?_
        refine rx_upv (fun u => (wGO a_g a_h a_q a_k a_p a_x a_s s_g ++ (wGT cI a_g s_o ++ (wP cI cJ a_h s_h ++ (wP cI cJ a_q u))))) hd hP hD hS hA ⟨[12, 13, 14, 15, 16, 17, 18, 19, 20, 21], [0, 1, 2, 3, 4, 5, 6, 7, 8, 9, 10, 11], [0, 1, 2, 3, 4, 5, 6, 7, 8, 9, 10, 11, 12, 13, 14, 15, 16, 17, 18, 19, 20, 21], wGO a_g a_h a_q a_k a_p a_x a_s s_g ++ (wGT cI a_g s_o ++ (wP cI cJ a_h s_h)), rfl, rfl, rfl, by decide, rfl, fun _ => rfl⟩ (fun v hv => va_runV (As := []) (rest := []) hcf (c_X1_passDay l dC dI cI cJ cQ fu a_q _  s_q  v hv) (cwV 0 hts gX6_enough_X1_passDay rfl rfl rfl cd_X1_passDay ⟨(Nat.le_of_ble_eq_true rfl), (Nat.le_of_ble_eq_true rfl)⟩) (cq_U_V (q0 := 12) (ci := 0) hK hP hD [12, 13, 14, 15, 16, 17, 18, 19, 20, 21] rfl rfl rfl rfl) rfl rfl hl.1 rfl (lv_room (Nat.le_of_ble_eq_true rfl)) dX6_enough_63 ⟨Nat.le_refl _, Nat.le_refl _⟩) (fun u63 hd H locs hP hD hS => ?_)
        refine lv_aload_n hx hb dX6_enough_66 rfl (lv_at hl 0 rfl) ?_
        refine rx_get hx hb hts fiX6_enough_X6 hown hK hP 0 rfl rfl 2 (Nat.le_of_ble_eq_true rfl) fl_20 rfl rfl dX6_enough_67 ?_
        refine lv_iload_n hx hb dX6_enough_70 rfl (lv_at hl 1 rfl) ?_
        refine rx_roi hd (fun v hv => W.runV (As := [.int x1]) (rest := []) hcf (c_X1_wasDry l dC dI cI cJ cQ fu a_q  u63 x1 v hv) (cwV 1 hts gX6_enough_X1_wasDry rfl rfl rfl cd_X1_wasDry ⟨(Nat.le_of_ble_eq_true rfl), (Nat.le_of_ble_eq_true rfl)⟩) (cq_R_V (q0 := 12) (ci := 0) hK hP [12, 13, 14, 15, 16, 17, 18, 19, 20, 21] rfl rfl rfl) rfl rfl hl.1 rfl (lv_room (Nat.le_of_ble_eq_true rfl)) dX6_enough_71 ⟨Nat.le_refl _, Nat.le_refl _⟩) (fun u71 hd => ?_)
        refine rx_if_eq hx hb 83 dX6_enough_74 rfl hd (fun hd => ?_) (fun hd => ?_)
        · refine lv_iload_n hx hb dX6_enough_83 rfl (lv_at hl 3 rfl) ?_
          refine lv_aload_n hx hb dX6_enough_84 rfl (lv_at hl 0 rfl) ?_
          refine rx_get hx hb hts fiX6_enough_X6 hown hK hP 0 rfl rfl 2 (Nat.le_of_ble_eq_true rfl) fl_20 rfl rfl dX6_enough_85 ?_
          refine rx_get hx hb hts fiX6_enough_X1 hown hK hP 12 rfl rfl 1 (Nat.le_of_ble_eq_true rfl) fl_133 rfl rfl dX6_enough_88 ?_
          refine lv_iload_n hx hb dX6_enough_91 rfl (lv_at hl 1 rfl) ?_
          refine rx_iald hx hb hK hP 14 0 rfl rfl hd dX6_enough_92 (fun v92 hd => ?_)
          refine va_mmin hx hb (hml.trans hl.1.symm) hown (hts _ (List.mem_of_getElem? (i := 4) rfl)) (hts _ (List.mem_of_getElem? (i := 5) rfl)) (hts _ (List.mem_of_getElem? (i := 6) rfl)) (hts _ (List.mem_of_getElem? (i := 7) rfl)) (Nat.le_of_ble_eq_true rfl) (Nat.le_of_ble_eq_true rfl) (Nat.zero_le _) (Nat.zero_le _) dX6_enough_93 ?_
          refine rx_topi hd (fun x3_96 hd => ?_)
          refine lv_istore_n (lv' := [(3, .int x3_96), (0, .ref (a_g 0)), (1, .int x1), (2, .int x2), (4, .int x4)]) hx hb dX6_enough_96 rfl hl (Nat.le_of_ble_eq_true rfl) rfl (fun ls hl => ?_)
          refine rx_iinc (lv' := fun z => (4, .int z) :: [(3, .int x3_96), (0, .ref (a_g 0)), (1, .int x1), (2, .int x2)]) hx hb (j := 4) dX6_enough_97 hl rfl ki_1 hd (Nat.le_of_ble_eq_true rfl) (fun _ => rfl) (fun x4_97 hd ls hl => ?_)
          refine lv_goto (tgt := 53) hx hb dX6_enough_100 rfl ?_
          exact k53 s_o u63 x3_96 x4_97 hd _ _ _ hP hD hS (lv_sub hl [2, 3, 4, 1, 0] rfl)
        refine lv_aload_n hx hb dX6_enough_77 rfl (lv_at hl 0 rfl) ?_
        refine lv_iconst (v := 3) hx hb dX6_enough_78 ki_3 ?_
        refine rx_upi (fun u => (wGO a_g a_h a_q a_k a_p a_x a_s s_g ++ (wGT cI a_g u ++ (wP cI cJ a_h s_h ++ (wP cI cJ a_q u63))))) hd hP hD hS hA ⟨[0, 1], [2, 3, 4, 5, 6, 7, 8, 9, 10, 11, 12, 13, 14, 15, 16, 17, 18, 19, 20, 21], [20, 21, 0, 1, 2, 3, 4, 5, 6, 7, 8, 9, 10, 11, 12, 13, 14, 15, 16, 17, 18, 19], wP cI cJ a_h s_h ++ (wP cI cJ a_q u63), rfl, rfl, rfl, by decide, rfl, fun _ => rfl⟩ (fun v hv => va_runV (As := [.int (3 : Int32)]) (rest := []) hcf (c_X6_finding l dC dI cI cJ cQ fu a_g a_h a_q a_k a_p a_x a_s _  s_g s_o (3 : Int32) v hv) (cwV 1 hts gX6_enough_X6_finding rfl rfl rfl cd_X6_finding ⟨(Nat.le_of_ble_eq_true rfl), (Nat.le_of_ble_eq_true rfl)⟩) (cq_U_V (q0 := 0) (ci := 5) hK hP hD [0, 1] rfl rfl rfl rfl) rfl rfl hl.1 rfl (lv_room (Nat.le_of_ble_eq_true rfl)) dX6_enough_79 ⟨Nat.le_refl _, Nat.le_refl _⟩) (fun u79 hd H locs hP hD hS => ?_)
        exact rx_retUi (u := (u79.2, u63)) (w1 := (fun u : (Nat → Int32) × PS => (wGO a_g a_h a_q a_k a_p a_x a_s s_g ++ (wGT cI a_g u.1 ++ (wP cI cJ a_h s_h ++ (wP cI cJ a_q u.2)))))) hx hb hr hlocks hd hK hP hD hS dX6_enough_82
    exact fun s_o s_q x3 x4 => L fu s_o s_q x3 x4
  refine lv_iload_n hx hb dX6_enough_0 rfl (lv_at hl 1 rfl) ?_
  refine rx_roi hd (fun v hv => W.runS (As := [.int x1]) (rest := []) hcf (c_X6_isFarm l dC dI cI cJ cQ fu    x1 v hv) (va_cwS 1 hts gX6_enough_X6_isFarm rfl rfl rfl cd_X6_isFarm ⟨(Nat.le_of_ble_eq_true rfl), (Nat.le_of_ble_eq_true rfl)⟩) (cq_R_S hK hP [] rfl) rfl rfl hl.1 rfl (lv_room (Nat.le_of_ble_eq_true rfl)) dX6_enough_1 ⟨Nat.le_refl _, Nat.le_refl _⟩) (fun u1 hd => ?_)
  refine rx_if_eq hx hb 17 dX6_enough_4 rfl hd (fun hd => ?_) (fun hd => ?_)
  · exact b17   s_o s_q hd _ _ _ hP hD hS (lv_sub hl [0] rfl)
  refine lv_iload_n hx hb dX6_enough_7 rfl (lv_at hl 2 rfl) ?_
  refine lv_iconst (v := 1) hx hb dX6_enough_8 ki_1 ?_
  refine lv_bipush (v := 20) hx hb dX6_enough_9 kb_20 ?_
  refine rx_roi hd (fun v hv => W.runS (As := [.int x2, .int (1 : Int32), .int (20 : Int32)]) (rest := []) hcf (c_X6_isWithin l dC dI cI cJ cQ fu    x2 (1 : Int32) (20 : Int32) v hv) (va_cwS 3 hts gX6_enough_X6_isWithin rfl rfl rfl cd_X6_isWithin ⟨(Nat.le_of_ble_eq_true rfl), (Nat.le_of_ble_eq_true rfl)⟩) (cq_R_S hK hP [] rfl) rfl rfl hl.1 rfl (lv_room (Nat.le_of_ble_eq_true rfl)) dX6_enough_11 ⟨Nat.le_refl _, Nat.le_refl _⟩) (fun u11 hd => ?_)
  refine rx_if_ne hx hb 23 dX6_enough_14 rfl hd (fun hd => ?_) (fun hd => ?_)
  · refine lv_aload_n hx hb dX6_enough_23 rfl (lv_at hl 0 rfl) ?_
    refine rx_get hx hb hts fiX6_enough_X6 hown hK hP 0 rfl rfl 2 (Nat.le_of_ble_eq_true rfl) fl_20 rfl rfl dX6_enough_24 ?_
    refine lv_aload_n hx hb dX6_enough_27 rfl (lv_at hl 0 rfl) ?_
    refine rx_get hx hb hts fiX6_enough_X6 hown hK hP 0 rfl rfl 1 (Nat.le_of_ble_eq_true rfl) fl_16 rfl rfl dX6_enough_28 ?_
    refine rx_upv (fun u => (wGO a_g a_h a_q a_k a_p a_x a_s s_g ++ (wGT cI a_g s_o ++ (wP cI cJ a_h s_h ++ (wP cI cJ a_q u))))) hd hP hD hS hA ⟨[12, 13, 14, 15, 16, 17, 18, 19, 20, 21, 2, 3, 4, 5, 6, 7, 8, 9, 10, 11], [0, 1], [0, 1, 12, 13, 14, 15, 16, 17, 18, 19, 20, 21, 2, 3, 4, 5, 6, 7, 8, 9, 10, 11], wGO a_g a_h a_q a_k a_p a_x a_s s_g ++ (wGT cI a_g s_o), rfl, rfl, rfl, by decide, rfl, fun _ => rfl⟩ (fun v hv => va_runV (As := [.ref (a_h 0)]) (rest := []) hcf (c_X1_become l dC dI cI cJ cQ fu a_q a_h _  s_q s_h  v hv) (cwV 1 hts gX6_enough_X1_become rfl rfl rfl cd_X1_become ⟨(Nat.le_of_ble_eq_true rfl), (Nat.le_of_ble_eq_true rfl)⟩) (cq_U_V (q0 := 12) (ci := 0) hK hP hD [12, 13, 14, 15, 16, 17, 18, 19, 20, 21, 2, 3, 4, 5, 6, 7, 8, 9, 10, 11] rfl rfl rfl rfl) rfl rfl hl.1 rfl (lv_room (Nat.le_of_ble_eq_true rfl)) dX6_enough_31 ⟨Nat.le_refl _, Nat.le_refl _⟩) (fun u31 hd H locs hP hD hS => ?_)
    refine lv_aload_n hx hb dX6_enough_34 rfl (lv_at hl 0 rfl) ?_
    refine rx_get hx hb hts fiX6_enough_X6 hown hK hP 0 rfl rfl 2 (Nat.le_of_ble_eq_true rfl) fl_20 rfl rfl dX6_enough_35 ?_
    refine rx_get hx hb hts fiX6_enough_X1 hown hK hP 12 rfl rfl 1 (Nat.le_of_ble_eq_true rfl) fl_133 rfl rfl dX6_enough_38 ?_
    refine lv_iload_n hx hb dX6_enough_41 rfl (lv_at hl 1 rfl) ?_
    refine lv_sipush (v := 400) hx hb dX6_enough_42 ks_400 ?_
    refine rx_iast (wGO a_g a_h a_q a_k a_p a_x a_s s_g ++ (wGT cI a_g s_o ++ (wP cI cJ a_h s_h ++ (wP cI cJ a_q (puStore u31 (Int32.toNatClampNeg x1) (400 : Int32)))))) hx hb hK hP hD hS 14 0 rfl rfl hd (g_setR (j := 13) rfl (g_setR (j := 12) rfl (g_setR (j := 2) rfl (wP_uStore ..)))) dX6_enough_45 (fun hd H locs hP hD hS => ?_)
    refine lv_sipush (v := 400) hx hb dX6_enough_46 ks_400 ?_
    refine lv_istore_n (lv' := [(3, .int (400 : Int32)), (0, .ref (a_g 0)), (1, .int x1), (2, .int x2)]) hx hb dX6_enough_49 rfl hl (Nat.le_of_ble_eq_true rfl) rfl (fun ls hl => ?_)
    refine lv_iconst (v := 0) hx hb dX6_enough_50 ki_0 ?_
    refine lv_istore (lv' := [(4, .int (0 : Int32)), (3, .int (400 : Int32)), (0, .ref (a_g 0)), (1, .int x1), (2, .int x2)]) hx hb dX6_enough_51 hl (Nat.le_of_ble_eq_true rfl) rfl (fun ls hl => ?_)
    exact b53   x1 x2 s_o (puStore u31 (Int32.toNatClampNeg x1) (400 : Int32)) (400 : Int32) (0 : Int32) hd _ _ _ hP hD hS (lv_sub hl [2, 3, 4, 1, 0] rfl)
  exact b17   s_o s_q hd _ _ _ hP hD hS (lv_sub hl [0] rfl)
theorem fiX6_worth_X6 : ∀ w ∈ wsX60, w ∈ wsX6_worth := mem_r _ [87, 88, 89, 90, 91, 92, 93, 94] rfl
set_option maxHeartbeats 8000000 in
set_option maxRecDepth 100000 in
theorem c_X6_worth (l : Launch) (dC : Nat → ClassId) (dI : Nat → Nat → Nat) (cI cJ cQ : ClassId) (fu : Nat) (a_g a_h a_q a_k a_p a_x a_s : Nat → Nat) (sz : Nat) (s_g : Int32) (s_o : (Nat → Int32)) (s_h : PS) (s_q : PS) (x1 : Int32) (x2 : Int32) (r : Int32 × (Nat → Int32) × PS) (hd : fX6_worth fu  s_g s_o s_h s_q x1 x2 = some r) : mUi l yX6_worth wsX6_worth (gRm 6 138) [.ref (a_g 0), .int x1, .int x2] (dC, dI) vwCl (gty cI cJ cQ) (wGO a_g a_h a_q a_k a_p a_x a_s s_g ++ (wGT cI a_g s_o ++ (wP cI cJ a_h s_h ++ (wP cI cJ a_q s_q)))) sz (fun u : (Nat → Int32) × PS => (wGO a_g a_h a_q a_k a_p a_x a_s s_g ++ (wGT cI a_g u.1 ++ (wP cI cJ a_h s_h ++ (wP cI cJ a_q u.2))))) r := by
  refine Met.ofW (cc := cX6_worth) (maxL := 4) (ret := (some .int)) (by decide) rfl ?_
  intro p e s m args below meth c s₁ B hml hv
  obtain ⟨hav, hsz, hP, hK, hD0⟩ := hv
  subst hsz
  have hD := hD0.self (sz := s.heap.size)
  generalize hAe : va_A (wGO a_g a_h a_q a_k a_p a_x a_s s_g ++ (wGT cI a_g s_o ++ (wP cI cJ a_h s_h ++ (wP cI cJ a_q s_q)))) s.heap.size = A at hD ⊢
  have hA : ∀ q : Nat, s.heap.size ≤ q → A q := fun q h => by rw [← hAe]; exact Or.inr h
  have hS : va_S A s.heap s.heap [] := va_S.rf
  have hx := B.exec
  have hb := B.bytes
  have hr := B.returns
  have hts := atoms_spec (ws := wsX6_worth) B.pre
  have hown : s.vm.findClass RX6 = some m.cls := findClass_of_methodNamed B.named
  have hlocks := B.notSynchronized
  have hcf : CallFix p m c cX6_worth 4 s args wsX6_worth RX6 := ⟨hx, hb, hml, hown, hts⟩
  have fl_16 := hts (.fieldLink RX6 16 "BucketGift" "here" "LBucketGift$Parish;") (List.mem_of_getElem? (i := 1) rfl)
  have fl_20 := hts (.fieldLink RX6 20 "BucketGift" "trial" "LBucketGift$Parish;") (List.mem_of_getElem? (i := 2) rfl)
  have kc_146 := hts (.constant RX6 146 (1000000)) (List.mem_of_getElem? (i := 3) rfl)
  have hg : entryFrame m args 4 = entryFrame m ([.ref (a_g 0), .int x1, .int x2] : List Value).toArray 4 := by rw [hav]
  rw [hg, lg_entry_eq]
  have hl := lv_entry ([.ref (a_g 0), .int x1, .int x2]) (n := 4) (Nat.le_of_ble_eq_true rfl)
  generalize (lg_sl ([.ref (a_g 0), .int x1, .int x2]) ++ List.replicate (4 - (lg_sl ([.ref (a_g 0), .int x1, .int x2])).length) Slot.unset).toArray = ls at hl ⊢
  have hl : lv_has ls 4 [(0, .ref (a_g 0)), (1, .int x1), (2, .int x2)] := hl
  clear hg
  unfold fX6_worth at hd
  have b21 : ∀ (s_o : (Nat → Int32)) (s_q : PS), fX6_worth_b21 fu s_g s_h   s_o s_q = some r → bk_U p l e (headSpec wsX6_worth (gRm 6 138)).room s m args below meth c (qUi below args s (dC, dI) vwCl (gty cI cJ cQ) A (fun u : (Nat → Int32) × PS => (wGO a_g a_h a_q a_k a_p a_x a_s s_g ++ (wGT cI a_g u.1 ++ (wP cI cJ a_h s_h ++ (wP cI cJ a_q u.2))))) r) (dC, dI) vwCl A 4 (wGO a_g a_h a_q a_k a_p a_x a_s s_g ++ (wGT cI a_g s_o ++ (wP cI cJ a_h s_h ++ (wP cI cJ a_q s_q)))) 21 [(0, .ref (a_g 0))] [] := by
    intro s_o s_q hd
    intro H locs ls hP hD hS hl
    unfold fX6_worth_b21 at hd
    refine lv_aload_n hx hb dX6_worth_21 rfl (lv_at hl 0 rfl) ?_
    refine lv_iconst (v := 0) hx hb dX6_worth_22 ki_0 ?_
    refine rx_upi (fun u => (wGO a_g a_h a_q a_k a_p a_x a_s s_g ++ (wGT cI a_g u ++ (wP cI cJ a_h s_h ++ (wP cI cJ a_q s_q))))) hd hP hD hS hA ⟨[0, 1], [2, 3, 4, 5, 6, 7, 8, 9, 10, 11, 12, 13, 14, 15, 16, 17, 18, 19, 20, 21], [20, 21, 0, 1, 2, 3, 4, 5, 6, 7, 8, 9, 10, 11, 12, 13, 14, 15, 16, 17, 18, 19], wP cI cJ a_h s_h ++ (wP cI cJ a_q s_q), rfl, rfl, rfl, by decide, rfl, fun _ => rfl⟩ (fun v hv => va_runV (As := [.int (0 : Int32)]) (rest := []) hcf (c_X6_finding l dC dI cI cJ cQ fu a_g a_h a_q a_k a_p a_x a_s _  s_g s_o (0 : Int32) v hv) (cwV 1 hts gX6_worth_X6_finding rfl rfl rfl cd_X6_finding ⟨(Nat.le_of_ble_eq_true rfl), (Nat.le_of_ble_eq_true rfl)⟩) (cq_U_V (q0 := 0) (ci := 5) hK hP hD [0, 1] rfl rfl rfl rfl) rfl rfl hl.1 rfl (lv_room (Nat.le_of_ble_eq_true rfl)) dX6_worth_23 ⟨Nat.le_refl _, Nat.le_refl _⟩) (fun u23 hd H locs hP hD hS => ?_)
    exact rx_retUi (u := (u23.2, s_q)) (w1 := (fun u : (Nat → Int32) × PS => (wGO a_g a_h a_q a_k a_p a_x a_s s_g ++ (wGT cI a_g u.1 ++ (wP cI cJ a_h s_h ++ (wP cI cJ a_q u.2)))))) hx hb hr hlocks hd hK hP hD hS dX6_worth_26
  refine lv_aload_n hx hb dX6_worth_0 rfl (lv_at hl 0 rfl) ?_
  refine rx_get hx hb hts fiX6_worth_X6 hown hK hP 0 rfl rfl 1 (Nat.le_of_ble_eq_true rfl) fl_16 rfl rfl dX6_worth_1 ?_
  refine lv_iload_n hx hb dX6_worth_4 rfl (lv_at hl 1 rfl) ?_
  refine rx_roi hd (fun v hv => W.runV (As := [.int x1]) (rest := []) hcf (c_X1_isThere l dC dI cI cJ cQ fu a_h  s_h x1 v hv) (cwV 1 hts gX6_worth_X1_isThere rfl rfl rfl cd_X1_isThere ⟨(Nat.le_of_ble_eq_true rfl), (Nat.le_of_ble_eq_true rfl)⟩) (cq_R_V (q0 := 2) (ci := 0) hK hP [2, 3, 4, 5, 6, 7, 8, 9, 10, 11] rfl rfl rfl) rfl rfl hl.1 rfl (lv_room (Nat.le_of_ble_eq_true rfl)) dX6_worth_5 ⟨Nat.le_refl _, Nat.le_refl _⟩) (fun u5 hd => ?_)
  refine rx_if_eq hx hb 21 dX6_worth_8 rfl hd (fun hd => ?_) (fun hd => ?_)
  · exact b21   s_o s_q hd _ _ _ hP hD hS (lv_sub hl [0] rfl)
  refine lv_iload_n hx hb dX6_worth_11 rfl (lv_at hl 2 rfl) ?_
  refine lv_iconst (v := 1) hx hb dX6_worth_12 ki_1 ?_
  refine lv_bipush (v := 20) hx hb dX6_worth_13 kb_20 ?_
  refine rx_roi hd (fun v hv => W.runS (As := [.int x2, .int (1 : Int32), .int (20 : Int32)]) (rest := []) hcf (c_X6_isWithin l dC dI cI cJ cQ fu    x2 (1 : Int32) (20 : Int32) v hv) (va_cwS 3 hts gX6_worth_X6_isWithin rfl rfl rfl cd_X6_isWithin ⟨(Nat.le_of_ble_eq_true rfl), (Nat.le_of_ble_eq_true rfl)⟩) (cq_R_S hK hP [] rfl) rfl rfl hl.1 rfl (lv_room (Nat.le_of_ble_eq_true rfl)) dX6_worth_15 ⟨Nat.le_refl _, Nat.le_refl _⟩) (fun u15 hd => ?_)
  refine rx_if_ne hx hb 27 dX6_worth_18 rfl hd (fun hd => ?_) (fun hd => ?_)
  · refine lv_aload_n hx hb dX6_worth_27 rfl (lv_at hl 0 rfl) ?_
    refine rx_get hx hb hts fiX6_worth_X6 hown hK hP 0 rfl rfl 2 (Nat.le_of_ble_eq_true rfl) fl_20 rfl rfl dX6_worth_28 ?_
    refine lv_aload_n hx hb dX6_worth_31 rfl (lv_at hl 0 rfl) ?_
    refine rx_get hx hb hts fiX6_worth_X6 hown hK hP 0 rfl rfl 1 (Nat.le_of_ble_eq_true rfl) fl_16 rfl rfl dX6_worth_32 ?_
    refine rx_upv (fun u => (wGO a_g a_h a_q a_k a_p a_x a_s s_g ++ (wGT cI a_g s_o ++ (wP cI cJ a_h s_h ++ (wP cI cJ a_q u))))) hd hP hD hS hA ⟨[12, 13, 14, 15, 16, 17, 18, 19, 20, 21, 2, 3, 4, 5, 6, 7, 8, 9, 10, 11], [0, 1], [0, 1, 12, 13, 14, 15, 16, 17, 18, 19, 20, 21, 2, 3, 4, 5, 6, 7, 8, 9, 10, 11], wGO a_g a_h a_q a_k a_p a_x a_s s_g ++ (wGT cI a_g s_o), rfl, rfl, rfl, by decide, rfl, fun _ => rfl⟩ (fun v hv => va_runV (As := [.ref (a_h 0)]) (rest := []) hcf (c_X1_become l dC dI cI cJ cQ fu a_q a_h _  s_q s_h  v hv) (cwV 1 hts gX6_worth_X1_become rfl rfl rfl cd_X1_become ⟨(Nat.le_of_ble_eq_true rfl), (Nat.le_of_ble_eq_true rfl)⟩) (cq_U_V (q0 := 12) (ci := 0) hK hP hD [12, 13, 14, 15, 16, 17, 18, 19, 20, 21, 2, 3, 4, 5, 6, 7, 8, 9, 10, 11] rfl rfl rfl rfl) rfl rfl hl.1 rfl (lv_room (Nat.le_of_ble_eq_true rfl)) dX6_worth_35 ⟨Nat.le_refl _, Nat.le_refl _⟩) (fun u35 hd H locs hP hD hS => ?_)
    refine lv_aload_n hx hb dX6_worth_38 rfl (lv_at hl 0 rfl) ?_
    refine lv_iload_n hx hb dX6_worth_39 rfl (lv_at hl 2 rfl) ?_
    refine lv_ldc hx hb hown kc_146 dX6_worth_40 ?_
    refine rx_upi (fun u => (wGO a_g a_h a_q a_k a_p a_x a_s s_g ++ (wGT cI a_g s_o ++ (wP cI cJ a_h s_h ++ (wP cI cJ a_q u))))) hd hP hD hS hA ⟨[0, 2, 3, 4, 5, 6, 7, 8, 9, 10, 11, 12, 13, 14, 15, 16, 17, 18, 19, 20, 21], [1], [1, 0, 2, 3, 4, 5, 6, 7, 8, 9, 10, 11, 12, 13, 14, 15, 16, 17, 18, 19, 20, 21], wGT cI a_g s_o, rfl, rfl, rfl, by decide, rfl, fun _ => rfl⟩ (fun v hv => va_runV (As := [.int x2, .int (1000000 : Int32)]) (rest := []) hcf (c_X6_dryOfTrial l dC dI cI cJ cQ fu a_g a_h a_q a_k a_p a_x a_s _  s_g s_h u35 x2 (1000000 : Int32) v hv) (cwV 2 hts gX6_worth_X6_dryOfTrial rfl rfl rfl cd_X6_dryOfTrial ⟨(Nat.le_of_ble_eq_true rfl), (Nat.le_of_ble_eq_true rfl)⟩) (cq_U_V (q0 := 0) (ci := 5) hK hP hD [0, 2, 3, 4, 5, 6, 7, 8, 9, 10, 11, 12, 13, 14, 15, 16, 17, 18, 19, 20, 21] rfl rfl rfl rfl) rfl rfl hl.1 rfl (lv_room (Nat.le_of_ble_eq_true rfl)) dX6_worth_42 ⟨Nat.le_refl _, Nat.le_refl _⟩) (fun u42 hd H locs hP hD hS => ?_)
    refine lv_istore_n (lv' := [(3, .int u42.1), (0, .ref (a_g 0)), (1, .int x1), (2, .int x2)]) hx hb dX6_worth_45 rfl hl (Nat.le_of_ble_eq_true rfl) rfl (fun ls hl => ?_)
    refine lv_aload_n hx hb dX6_worth_46 rfl (lv_at hl 1 rfl) ?_
    refine rx_get hx hb hts fiX6_worth_X6 hown hK hP 0 rfl rfl 2 (Nat.le_of_ble_eq_true rfl) fl_20 rfl rfl dX6_worth_47 ?_
    refine lv_aload_n hx hb dX6_worth_50 rfl (lv_at hl 1 rfl) ?_
    refine rx_get hx hb hts fiX6_worth_X6 hown hK hP 0 rfl rfl 1 (Nat.le_of_ble_eq_true rfl) fl_16 rfl rfl dX6_worth_51 ?_
    refine rx_upv (fun u => (wGO a_g a_h a_q a_k a_p a_x a_s s_g ++ (wGT cI a_g s_o ++ (wP cI cJ a_h s_h ++ (wP cI cJ a_q u))))) hd hP hD hS hA ⟨[12, 13, 14, 15, 16, 17, 18, 19, 20, 21, 2, 3, 4, 5, 6, 7, 8, 9, 10, 11], [0, 1], [0, 1, 12, 13, 14, 15, 16, 17, 18, 19, 20, 21, 2, 3, 4, 5, 6, 7, 8, 9, 10, 11], wGO a_g a_h a_q a_k a_p a_x a_s s_g ++ (wGT cI a_g s_o), rfl, rfl, rfl, by decide, rfl, fun _ => rfl⟩ (fun v hv => va_runV (As := [.ref (a_h 0)]) (rest := []) hcf (c_X1_become l dC dI cI cJ cQ fu a_q a_h _  u42.2 s_h  v hv) (cwV 1 hts gX6_worth_X1_become rfl rfl rfl cd_X1_become ⟨(Nat.le_of_ble_eq_true rfl), (Nat.le_of_ble_eq_true rfl)⟩) (cq_U_V (q0 := 12) (ci := 0) hK hP hD [12, 13, 14, 15, 16, 17, 18, 19, 20, 21, 2, 3, 4, 5, 6, 7, 8, 9, 10, 11] rfl rfl rfl rfl) rfl rfl hl.1 rfl (lv_room (Nat.le_of_ble_eq_true rfl)) dX6_worth_54 ⟨Nat.le_refl _, Nat.le_refl _⟩) (fun u54 hd H locs hP hD hS => ?_)
    refine lv_aload_n hx hb dX6_worth_57 rfl (lv_at hl 1 rfl) ?_
    refine rx_get hx hb hts fiX6_worth_X6 hown hK hP 0 rfl rfl 2 (Nat.le_of_ble_eq_true rfl) fl_20 rfl rfl dX6_worth_58 ?_
    refine lv_iload_n hx hb dX6_worth_61 rfl (lv_at hl 2 rfl) ?_
    refine rx_upv (fun u => (wGO a_g a_h a_q a_k a_p a_x a_s s_g ++ (wGT cI a_g s_o ++ (wP cI cJ a_h s_h ++ (wP cI cJ a_q u))))) hd hP hD hS hA ⟨[12, 13, 14, 15, 16, 17, 18, 19, 20, 21], [0, 1, 2, 3, 4, 5, 6, 7, 8, 9, 10, 11], [0, 1, 2, 3, 4, 5, 6, 7, 8, 9, 10, 11, 12, 13, 14, 15, 16, 17, 18, 19, 20, 21], wGO a_g a_h a_q a_k a_p a_x a_s s_g ++ (wGT cI a_g s_o ++ (wP cI cJ a_h s_h)), rfl, rfl, rfl, by decide, rfl, fun _ => rfl⟩ (fun v hv => va_runV (As := [.int x1]) (rest := []) hcf (c_X1_sendNoMore l dC dI cI cJ cQ fu a_q _  u54 x1 v hv) (cwV 1 hts gX6_worth_X1_sendNoMore rfl rfl rfl cd_X1_sendNoMore ⟨(Nat.le_of_ble_eq_true rfl), (Nat.le_of_ble_eq_true rfl)⟩) (cq_U_V (q0 := 12) (ci := 0) hK hP hD [12, 13, 14, 15, 16, 17, 18, 19, 20, 21] rfl rfl rfl rfl) rfl rfl hl.1 rfl (lv_room (Nat.le_of_ble_eq_true rfl)) dX6_worth_62 ⟨Nat.le_refl _, Nat.le_refl _⟩) (fun u62 hd H locs hP hD hS => ?_)
    refine lv_aload_n hx hb dX6_worth_65 rfl (lv_at hl 1 rfl) ?_
    refine lv_iload_n hx hb dX6_worth_66 rfl (lv_at hl 3 rfl) ?_
    refine lv_ldc hx hb hown kc_146 dX6_worth_67 ?_
    refine rx_upi (fun u => (wGO a_g a_h a_q a_k a_p a_x a_s s_g ++ (wGT cI a_g s_o ++ (wP cI cJ a_h s_h ++ (wP cI cJ a_q u))))) hd hP hD hS hA ⟨[0, 2, 3, 4, 5, 6, 7, 8, 9, 10, 11, 12, 13, 14, 15, 16, 17, 18, 19, 20, 21], [1], [1, 0, 2, 3, 4, 5, 6, 7, 8, 9, 10, 11, 12, 13, 14, 15, 16, 17, 18, 19, 20, 21], wGT cI a_g s_o, rfl, rfl, rfl, by decide, rfl, fun _ => rfl⟩ (fun v hv => va_runV (As := [.int x2, .int (1000000 : Int32)]) (rest := []) hcf (c_X6_dryOfTrial l dC dI cI cJ cQ fu a_g a_h a_q a_k a_p a_x a_s _  s_g s_h u62 x2 (1000000 : Int32) v hv) (cwV 2 hts gX6_worth_X6_dryOfTrial rfl rfl rfl cd_X6_dryOfTrial ⟨(Nat.le_of_ble_eq_true rfl), (Nat.le_of_ble_eq_true rfl)⟩) (cq_U_V (q0 := 0) (ci := 5) hK hP hD [0, 2, 3, 4, 5, 6, 7, 8, 9, 10, 11, 12, 13, 14, 15, 16, 17, 18, 19, 20, 21] rfl rfl rfl rfl) rfl rfl hl.1 rfl (lv_room (Nat.le_of_ble_eq_true rfl)) dX6_worth_69 ⟨Nat.le_refl _, Nat.le_refl _⟩) (fun u69 hd H locs hP hD hS => ?_)
    refine lv_iload_n hx hb dX6_worth_72 rfl (lv_at hl 0 rfl) ?_
    refine lv_isub hx hb dX6_worth_73 ?_
    exact rx_retUi (u := (s_o, u69.2)) (w1 := (fun u : (Nat → Int32) × PS => (wGO a_g a_h a_q a_k a_p a_x a_s s_g ++ (wGT cI a_g u.1 ++ (wP cI cJ a_h s_h ++ (wP cI cJ a_q u.2)))))) hx hb hr hlocks hd hK hP hD hS dX6_worth_74
  exact b21   s_o s_q hd _ _ _ hP hD hS (lv_sub hl [0] rfl)
theorem fiX6_did_X1 : ∀ w ∈ wsX10, w ∈ wsX6_did := mem_r _ [52, 53, 54, 55, 56, 57, 58, 59, 60, 61, 62, 63] rfl
theorem fiX6_did_X6 : ∀ w ∈ wsX60, w ∈ wsX6_did := mem_r _ [44, 45, 46, 47, 48, 49, 50, 51] rfl
set_option maxHeartbeats 8000000 in
set_option maxRecDepth 100000 in
theorem c_X6_did (l : Launch) (dC : Nat → ClassId) (dI : Nat → Nat → Nat) (cI cJ cQ : ClassId) (fu : Nat) (a_g a_h a_q a_k a_p a_x a_s : Nat → Nat) (sz : Nat) (s_g : Int32) (s_o : (Nat → Int32)) (s_h : PS) (x1 : Int32) (x2 : Int32) (r : Int32 × (Nat → Int32)) (hd : fX6_did fu  s_g s_o s_h x1 x2 = some r) : mUi l yX6_did wsX6_did (gRm 3 69) [.ref (a_g 0), .int x1, .int x2] (dC, dI) vwCl (gty cI cJ cQ) (wGO a_g a_h a_q a_k a_p a_x a_s s_g ++ (wGT cI a_g s_o ++ (wP cI cJ a_h s_h))) sz (fun u : (Nat → Int32) => (wGO a_g a_h a_q a_k a_p a_x a_s s_g ++ (wGT cI a_g u ++ (wP cI cJ a_h s_h)))) r := by
  refine Met.ofW (cc := cX6_did) (maxL := 5) (ret := (some .int)) (by decide) rfl ?_
  intro p e s m args below meth c s₁ B hml hv
  obtain ⟨hav, hsz, hP, hK, hD0⟩ := hv
  subst hsz
  have hD := hD0.self (sz := s.heap.size)
  generalize hAe : va_A (wGO a_g a_h a_q a_k a_p a_x a_s s_g ++ (wGT cI a_g s_o ++ (wP cI cJ a_h s_h))) s.heap.size = A at hD ⊢
  have hA : ∀ q : Nat, s.heap.size ≤ q → A q := fun q h => by rw [← hAe]; exact Or.inr h
  have hS : va_S A s.heap s.heap [] := va_S.rf
  have hx := B.exec
  have hb := B.bytes
  have hr := B.returns
  have hts := atoms_spec (ws := wsX6_did) B.pre
  have hown : s.vm.findClass RX6 = some m.cls := findClass_of_methodNamed B.named
  have hlocks := B.notSynchronized
  have hcf : CallFix p m c cX6_did 5 s args wsX6_did RX6 := ⟨hx, hb, hml, hown, hts⟩
  have fl_16 := hts (.fieldLink RX6 16 "BucketGift" "here" "LBucketGift$Parish;") (List.mem_of_getElem? (i := 1) rfl)
  have fl_106 := hts (.fieldLink RX6 106 "BucketGift$Parish" "kinds" "[I") (List.mem_of_getElem? (i := 2) rfl)
  have fl_175 := hts (.fieldLink RX6 175 "BucketGift$Parish" "steps" "[I") (List.mem_of_getElem? (i := 3) rfl)
  have hg : entryFrame m args 5 = entryFrame m ([.ref (a_g 0), .int x1, .int x2] : List Value).toArray 5 := by rw [hav]
  rw [hg, lg_entry_eq]
  have hl := lv_entry ([.ref (a_g 0), .int x1, .int x2]) (n := 5) (Nat.le_of_ble_eq_true rfl)
  generalize (lg_sl ([.ref (a_g 0), .int x1, .int x2]) ++ List.replicate (5 - (lg_sl ([.ref (a_g 0), .int x1, .int x2])).length) Slot.unset).toArray = ls at hl ⊢
  have hl : lv_has ls 5 [(0, .ref (a_g 0)), (1, .int x1), (2, .int x2)] := hl
  clear hg
  unfold fX6_did at hd
  have b15 : ∀ (s_o : (Nat → Int32)), fX6_did_b15 fu s_g s_h   s_o = some r → bk_U p l e (headSpec wsX6_did (gRm 3 69)).room s m args below meth c (qUi below args s (dC, dI) vwCl (gty cI cJ cQ) A (fun u : (Nat → Int32) => (wGO a_g a_h a_q a_k a_p a_x a_s s_g ++ (wGT cI a_g u ++ (wP cI cJ a_h s_h)))) r) (dC, dI) vwCl A 5 (wGO a_g a_h a_q a_k a_p a_x a_s s_g ++ (wGT cI a_g s_o ++ (wP cI cJ a_h s_h))) 15 [(0, .ref (a_g 0))] [] := by
    intro s_o hd
    intro H locs ls hP hD hS hl
    unfold fX6_did_b15 at hd
    refine lv_aload_n hx hb dX6_did_15 rfl (lv_at hl 0 rfl) ?_
    refine lv_iconst (v := 0) hx hb dX6_did_16 ki_0 ?_
    refine rx_upi (fun u => (wGO a_g a_h a_q a_k a_p a_x a_s s_g ++ (wGT cI a_g u ++ (wP cI cJ a_h s_h)))) hd hP hD hS hA ⟨[0, 1], [2, 3, 4, 5, 6, 7, 8, 9, 10, 11], [10, 11, 0, 1, 2, 3, 4, 5, 6, 7, 8, 9], wP cI cJ a_h s_h, rfl, rfl, rfl, by decide, rfl, fun _ => rfl⟩ (fun v hv => va_runV (As := [.int (0 : Int32)]) (rest := []) hcf (c_X6_finding l dC dI cI cJ cQ fu a_g a_h a_q a_k a_p a_x a_s _  s_g s_o (0 : Int32) v hv) (cwV 1 hts gX6_did_X6_finding rfl rfl rfl cd_X6_finding ⟨(Nat.le_of_ble_eq_true rfl), (Nat.le_of_ble_eq_true rfl)⟩) (cq_U_V (q0 := 0) (ci := 5) hK hP hD [0, 1] rfl rfl rfl rfl) rfl rfl hl.1 rfl (lv_room (Nat.le_of_ble_eq_true rfl)) dX6_did_17 ⟨Nat.le_refl _, Nat.le_refl _⟩) (fun u17 hd H locs hP hD hS => ?_)
    exact rx_retUi (u := u17.2) (w1 := (fun u : (Nat → Int32) => (wGO a_g a_h a_q a_k a_p a_x a_s s_g ++ (wGT cI a_g u ++ (wP cI cJ a_h s_h))))) hx hb hr hlocks hd hK hP hD hS dX6_did_20
  have b26 : ∀ (x1 : Int32) (x2 : Int32) (s_o : (Nat → Int32)) (x3 : Int32) (x4 : Int32), fX6_did_b26 fu s_g s_h   x1 x2 s_o x3 x4 = some r → bk_U p l e (headSpec wsX6_did (gRm 3 69)).room s m args below meth c (qUi below args s (dC, dI) vwCl (gty cI cJ cQ) A (fun u : (Nat → Int32) => (wGO a_g a_h a_q a_k a_p a_x a_s s_g ++ (wGT cI a_g u ++ (wP cI cJ a_h s_h)))) r) (dC, dI) vwCl A 5 (wGO a_g a_h a_q a_k a_p a_x a_s s_g ++ (wGT cI a_g s_o ++ (wP cI cJ a_h s_h))) 26 [(0, .ref (a_g 0)), (1, .int x1), (2, .int x2), (3, .int x3), (4, .int x4)] [] := by
    intro x1 x2
    have L : ∀ (n : Nat) (s_o : (Nat → Int32)) (x3 : Int32) (x4 : Int32), g_lp (fun _ _ _ => none) (fX6_did_b26B fu s_g s_h   x1 x2) n s_o x3 x4 = some r → bk_U p l e (headSpec wsX6_did (gRm 3 69)).room s m args below meth c (qUi below args s (dC, dI) vwCl (gty cI cJ cQ) A (fun u : (Nat → Int32) => (wGO a_g a_h a_q a_k a_p a_x a_s s_g ++ (wGT cI a_g u ++ (wP cI cJ a_h s_h)))) r) (dC, dI) vwCl A 5 (wGO a_g a_h a_q a_k a_p a_x a_s s_g ++ (wGT cI a_g s_o ++ (wP cI cJ a_h s_h))) 26 [(0, .ref (a_g 0)), (1, .int x1), (2, .int x2), (3, .int x3), (4, .int x4)] [] := by
      intro n
      induction n with
      | zero => intro s_o x3 x4 hd; exact absurd hd (by intro h; cases h)
      | succ n k26 =>
        intro s_o x3 x4 hd
        intro H locs ls hP hD hS hl
        have hd : fX6_did_b26B fu s_g s_h   x1 x2 (g_lp (fun _ _ _ => none) (fX6_did_b26B fu s_g s_h   x1 x2) n) s_o x3 x4 = some r := hd
        unfold fX6_did_b26B at hd
        refine lv_iload hx hb dX6_did_26 (lv_at hl 4 rfl) ?_
        refine lv_sipush (v := 255) hx hb dX6_did_28 ks_255 ?_
        refine rx_icmp_gt hx hb 75 dX6_did_31 rfl hd (fun hd => ?_) (fun hd => ?_)
        · refine lv_iload_n hx hb dX6_did_75 rfl (lv_at hl 3 rfl) ?_
          exact rx_retUi (u := s_o) (w1 := (fun u : (Nat → Int32) => (wGO a_g a_h a_q a_k a_p a_x a_s s_g ++ (wGT cI a_g u ++ (wP cI cJ a_h s_h))))) hx hb hr hlocks hd hK hP hD hS dX6_did_76
        refine lv_aload_n hx hb dX6_did_34 rfl (lv_at hl 0 rfl) ?_
        refine rx_get hx hb hts fiX6_did_X6 hown hK hP 0 rfl rfl 1 (Nat.le_of_ble_eq_true rfl) fl_16 rfl rfl dX6_did_35 ?_
        refine lv_iload_n hx hb dX6_did_38 rfl (lv_at hl 1 rfl) ?_
        refine lv_aload_n hx hb dX6_did_39 rfl (lv_at hl 0 rfl) ?_
        refine rx_get hx hb hts fiX6_did_X6 hown hK hP 0 rfl rfl 1 (Nat.le_of_ble_eq_true rfl) fl_16 rfl rfl dX6_did_40 ?_
        refine rx_get hx hb hts fiX6_did_X1 hown hK hP 2 rfl rfl 8 (Nat.le_of_ble_eq_true rfl) fl_106 rfl rfl dX6_did_43 ?_
        refine lv_iload_n hx hb dX6_did_46 rfl (lv_at hl 1 rfl) ?_
        refine rx_iald hx hb hK hP 8 0 rfl rfl hd dX6_did_47 (fun v47 hd => ?_)
        refine lv_iload hx hb dX6_did_48 (lv_at hl 4 rfl) ?_
        refine lv_aload_n hx hb dX6_did_50 rfl (lv_at hl 0 rfl) ?_
        refine rx_get hx hb hts fiX6_did_X6 hown hK hP 0 rfl rfl 1 (Nat.le_of_ble_eq_true rfl) fl_16 rfl rfl dX6_did_51 ?_
        refine rx_get hx hb hts fiX6_did_X1 hown hK hP 2 rfl rfl 10 (Nat.le_of_ble_eq_true rfl) fl_175 rfl rfl dX6_did_54 ?_
        refine lv_iload_n hx hb dX6_did_57 rfl (lv_at hl 1 rfl) ?_
        refine rx_iald hx hb hK hP 10 0 rfl rfl hd dX6_did_58 (fun v58 hd => ?_)
        refine rx_roi hd (fun v hv => W.runV (As := [.int x1, .int v47, .int x4, .int v58]) (rest := []) hcf (c_X1_gift l dC dI cI cJ cQ fu a_h  s_h x1 v47 x4 v58 v hv) (cwV 4 hts gX6_did_X1_gift rfl rfl rfl cd_X1_gift ⟨(Nat.le_of_ble_eq_true rfl), (Nat.le_of_ble_eq_true rfl)⟩) (cq_R_V (q0 := 2) (ci := 0) hK hP [2, 3, 4, 5, 6, 7, 8, 9, 10, 11] rfl rfl rfl) rfl rfl hl.1 rfl (lv_room (Nat.le_of_ble_eq_true rfl)) dX6_did_59 ⟨Nat.le_refl _, Nat.le_refl _⟩) (fun u59 hd => ?_)
        refine lv_iload_n hx hb dX6_did_62 rfl (lv_at hl 2 rfl) ?_
        refine rx_icmp_ne hx hb 69 dX6_did_63 rfl hd (fun hd => ?_) (fun hd => ?_)
        · refine rx_iinc (lv' := fun z => (4, .int z) :: [(0, .ref (a_g 0)), (1, .int x1), (2, .int x2), (3, .int x3)]) hx hb (j := 4) dX6_did_69 hl rfl ki_1 hd (Nat.le_of_ble_eq_true rfl) (fun _ => rfl) (fun x4_69 hd ls hl => ?_)
          refine lv_goto (tgt := 26) hx hb dX6_did_72 rfl ?_
          exact k26 s_o x3 x4_69 hd _ _ _ hP hD hS (lv_sub hl [1, 2, 3, 4, 0] rfl)
        refine rx_iinc (lv' := fun z => (3, .int z) :: [(0, .ref (a_g 0)), (1, .int x1), (2, .int x2), (4, .int x4)]) hx hb (j := 3) dX6_did_66 hl rfl ki_1 hd (Nat.le_of_ble_eq_true rfl) (fun _ => rfl) (fun x3_66 hd ls hl => ?_)
        refine rx_iinc (lv' := fun z => (4, .int z) :: [(3, .int x3_66), (0, .ref (a_g 0)), (1, .int x1), (2, .int x2)]) hx hb (j := 4) dX6_did_69 hl rfl ki_1 hd (Nat.le_of_ble_eq_true rfl) (fun _ => rfl) (fun x4_69 hd ls hl => ?_)
        refine lv_goto (tgt := 26) hx hb dX6_did_72 rfl ?_
        exact k26 s_o x3_66 x4_69 hd _ _ _ hP hD hS (lv_sub hl [2, 3, 4, 1, 0] rfl)
    exact fun s_o x3 x4 => L fu s_o x3 x4
  refine lv_aload_n hx hb dX6_did_0 rfl (lv_at hl 0 rfl) ?_
  refine rx_get hx hb hts fiX6_did_X6 hown hK hP 0 rfl rfl 1 (Nat.le_of_ble_eq_true rfl) fl_16 rfl rfl dX6_did_1 ?_
  refine lv_iload_n hx hb dX6_did_4 rfl (lv_at hl 1 rfl) ?_
  refine rx_roi hd (fun v hv => W.runV (As := [.int x1]) (rest := []) hcf (c_X1_isThere l dC dI cI cJ cQ fu a_h  s_h x1 v hv) (cwV 1 hts gX6_did_X1_isThere rfl rfl rfl cd_X1_isThere ⟨(Nat.le_of_ble_eq_true rfl), (Nat.le_of_ble_eq_true rfl)⟩) (cq_R_V (q0 := 2) (ci := 0) hK hP [2, 3, 4, 5, 6, 7, 8, 9, 10, 11] rfl rfl rfl) rfl rfl hl.1 rfl (lv_room (Nat.le_of_ble_eq_true rfl)) dX6_did_5 ⟨Nat.le_refl _, Nat.le_refl _⟩) (fun u5 hd => ?_)
  refine rx_if_eq hx hb 15 dX6_did_8 rfl hd (fun hd => ?_) (fun hd => ?_)
  · exact b15   s_o hd _ _ _ hP hD hS (lv_sub hl [0] rfl)
  refine lv_iload_n hx hb dX6_did_11 rfl (lv_at hl 2 rfl) ?_
  refine rx_if_ge hx hb 21 dX6_did_12 rfl hd (fun hd => ?_) (fun hd => ?_)
  · refine lv_iconst (v := 0) hx hb dX6_did_21 ki_0 ?_
    refine lv_istore_n (lv' := [(3, .int (0 : Int32)), (0, .ref (a_g 0)), (1, .int x1), (2, .int x2)]) hx hb dX6_did_22 rfl hl (Nat.le_of_ble_eq_true rfl) rfl (fun ls hl => ?_)
    refine lv_iconst (v := 0) hx hb dX6_did_23 ki_0 ?_
    refine lv_istore (lv' := [(4, .int (0 : Int32)), (3, .int (0 : Int32)), (0, .ref (a_g 0)), (1, .int x1), (2, .int x2)]) hx hb dX6_did_24 hl (Nat.le_of_ble_eq_true rfl) rfl (fun ls hl => ?_)
    exact b26   x1 x2 s_o (0 : Int32) (0 : Int32) hd _ _ _ hP hD hS (lv_sub hl [2, 3, 4, 1, 0] rfl)
  exact b15   s_o hd _ _ _ hP hD hS (lv_sub hl [0] rfl)
theorem fiX6_feed_X4 : ∀ w ∈ wsX40, w ∈ wsX6_feed := mem_r _ [28, 29] rfl
theorem fiX6_feed_X6 : ∀ w ∈ wsX60, w ∈ wsX6_feed := mem_r _ [20, 21, 22, 23, 24, 25, 26, 27] rfl
set_option maxHeartbeats 8000000 in
set_option maxRecDepth 100000 in
theorem c_X6_feed (l : Launch) (dC : Nat → ClassId) (dI : Nat → Nat → Nat) (cI cJ cQ : ClassId) (fu : Nat) (a_g a_h a_q a_k a_p a_x a_s : Nat → Nat) (sz : Nat) (s_g : Int32) (s_o : (Nat → Int32)) (s_p : TPS) (x1 : Int32) (x2 : Int32) (r : Int32 × (Nat → Int32) × TPS) (hd : fX6_feed fu  s_g s_o s_p x1 x2 = some r) : mUi l yX6_feed wsX6_feed (gRm 1 23) [.ref (a_g 0), .int x1, .int x2] (dC, dI) vwCl (gty cI cJ cQ) (wGO a_g a_h a_q a_k a_p a_x a_s s_g ++ (wGT cI a_g s_o ++ (wTP cI cJ a_p s_p))) sz (fun u : (Nat → Int32) × TPS => (wGO a_g a_h a_q a_k a_p a_x a_s s_g ++ (wGT cI a_g u.1 ++ (wTP cI cJ a_p u.2)))) r := by
  refine Met.ofW (cc := cX6_feed) (maxL := 3) (ret := (some .int)) (by decide) rfl ?_
  intro p e s m args below meth c s₁ B hml hv
  obtain ⟨hav, hsz, hP, hK, hD0⟩ := hv
  subst hsz
  have hD := hD0.self (sz := s.heap.size)
  generalize hAe : va_A (wGO a_g a_h a_q a_k a_p a_x a_s s_g ++ (wGT cI a_g s_o ++ (wTP cI cJ a_p s_p))) s.heap.size = A at hD ⊢
  have hA : ∀ q : Nat, s.heap.size ≤ q → A q := fun q h => by rw [← hAe]; exact Or.inr h
  have hS : va_S A s.heap s.heap [] := va_S.rf
  have hx := B.exec
  have hb := B.bytes
  have hr := B.returns
  have hts := atoms_spec (ws := wsX6_feed) B.pre
  have hown : s.vm.findClass RX6 = some m.cls := findClass_of_methodNamed B.named
  have hlocks := B.notSynchronized
  have hcf : CallFix p m c cX6_feed 3 s args wsX6_feed RX6 := ⟨hx, hb, hml, hown, hts⟩
  have fl_33 := hts (.fieldLink RX6 33 "BucketGift" "tape" "LBucketGift$Tape;") (List.mem_of_getElem? (i := 1) rfl)
  have fl_186 := hts (.fieldLink RX6 186 "BucketGift$Tape" "length" "I") (List.mem_of_getElem? (i := 2) rfl)
  have hg : entryFrame m args 3 = entryFrame m ([.ref (a_g 0), .int x1, .int x2] : List Value).toArray 3 := by rw [hav]
  rw [hg, lg_entry_eq]
  have hl := lv_entry ([.ref (a_g 0), .int x1, .int x2]) (n := 3) (Nat.le_of_ble_eq_true rfl)
  generalize (lg_sl ([.ref (a_g 0), .int x1, .int x2]) ++ List.replicate (3 - (lg_sl ([.ref (a_g 0), .int x1, .int x2])).length) Slot.unset).toArray = ls at hl ⊢
  have hl : lv_has ls 3 [(0, .ref (a_g 0)), (1, .int x1), (2, .int x2)] := hl
  clear hg
  unfold fX6_feed at hd
  refine lv_iload_n hx hb dX6_feed_0 rfl (lv_at hl 2 rfl) ?_
  refine lv_iconst (v := 1) hx hb dX6_feed_1 ki_1 ?_
  refine lv_iconst (v := 4) hx hb dX6_feed_2 ki_4 ?_
  refine rx_roi hd (fun v hv => W.runS (As := [.int x2, .int (1 : Int32), .int (4 : Int32)]) (rest := []) hcf (c_X6_isWithin l dC dI cI cJ cQ fu    x2 (1 : Int32) (4 : Int32) v hv) (va_cwS 3 hts gX6_feed_X6_isWithin rfl rfl rfl cd_X6_isWithin ⟨(Nat.le_of_ble_eq_true rfl), (Nat.le_of_ble_eq_true rfl)⟩) (cq_R_S hK hP [] rfl) rfl rfl hl.1 rfl (lv_room (Nat.le_of_ble_eq_true rfl)) dX6_feed_3 ⟨Nat.le_refl _, Nat.le_refl _⟩) (fun u3 hd => ?_)
  refine rx_if_ne hx hb 15 dX6_feed_6 rfl hd (fun hd => ?_) (fun hd => ?_)
  · refine lv_aload_n hx hb dX6_feed_15 rfl (lv_at hl 0 rfl) ?_
    refine rx_get hx hb hts fiX6_feed_X6 hown hK hP 0 rfl rfl 5 (Nat.le_of_ble_eq_true rfl) fl_33 rfl rfl dX6_feed_16 ?_
    refine rx_get hx hb hts fiX6_feed_X4 hown hK hP 2 rfl rfl 1 (Nat.le_of_ble_eq_true rfl) fl_186 rfl rfl dX6_feed_19 ?_
    refine lv_iload_n hx hb dX6_feed_22 rfl (lv_at hl 2 rfl) ?_
    refine lv_iadd hx hb dX6_feed_23 ?_
    refine lv_bipush (v := 120) hx hb dX6_feed_24 kb_120 ?_
    refine rx_icmp_le hx hb 35 dX6_feed_26 rfl hd (fun hd => ?_) (fun hd => ?_)
    · refine lv_aload_n hx hb dX6_feed_35 rfl (lv_at hl 0 rfl) ?_
      refine rx_get hx hb hts fiX6_feed_X6 hown hK hP 0 rfl rfl 5 (Nat.le_of_ble_eq_true rfl) fl_33 rfl rfl dX6_feed_36 ?_
      refine lv_iload_n hx hb dX6_feed_39 rfl (lv_at hl 1 rfl) ?_
      refine lv_iload_n hx hb dX6_feed_40 rfl (lv_at hl 2 rfl) ?_
      refine rx_upv (fun u => (wGO a_g a_h a_q a_k a_p a_x a_s s_g ++ (wGT cI a_g s_o ++ (wTP cI cJ a_p u)))) hd hP hD hS hA ⟨[2, 3], [0, 1], [0, 1, 2, 3], wGO a_g a_h a_q a_k a_p a_x a_s s_g ++ (wGT cI a_g s_o), rfl, rfl, rfl, by decide, rfl, fun _ => rfl⟩ (fun v hv => va_runV (As := [.int x1, .int x2]) (rest := []) hcf (c_X4_append l dC dI cI cJ cQ fu a_p _  s_p x1 x2 v hv) (cwV 2 hts gX6_feed_X4_append rfl rfl rfl cd_X4_append ⟨(Nat.le_of_ble_eq_true rfl), (Nat.le_of_ble_eq_true rfl)⟩) (cq_U_V (q0 := 2) (ci := 3) hK hP hD [2, 3] rfl rfl rfl rfl) rfl rfl hl.1 rfl (lv_room (Nat.le_of_ble_eq_true rfl)) dX6_feed_41 ⟨Nat.le_refl _, Nat.le_refl _⟩) (fun u41 hd H locs hP hD hS => ?_)
      refine lv_aload_n hx hb dX6_feed_44 rfl (lv_at hl 0 rfl) ?_
      refine rx_get hx hb hts fiX6_feed_X6 hown hK hP 0 rfl rfl 5 (Nat.le_of_ble_eq_true rfl) fl_33 rfl rfl dX6_feed_45 ?_
      refine rx_get hx hb hts fiX6_feed_X4 hown hK hP 2 rfl rfl 1 (Nat.le_of_ble_eq_true rfl) fl_186 rfl rfl dX6_feed_48 ?_
      exact rx_retUi (u := (s_o, u41)) (w1 := (fun u : (Nat → Int32) × TPS => (wGO a_g a_h a_q a_k a_p a_x a_s s_g ++ (wGT cI a_g u.1 ++ (wTP cI cJ a_p u.2))))) hx hb hr hlocks hd hK hP hD hS dX6_feed_51
    refine lv_aload_n hx hb dX6_feed_29 rfl (lv_at hl 0 rfl) ?_
    refine lv_iconst (v := 1) hx hb dX6_feed_30 ki_1 ?_
    refine rx_upi (fun u => (wGO a_g a_h a_q a_k a_p a_x a_s s_g ++ (wGT cI a_g u ++ (wTP cI cJ a_p s_p)))) hd hP hD hS hA ⟨[0, 1], [2, 3], [2, 3, 0, 1], wTP cI cJ a_p s_p, rfl, rfl, rfl, by decide, rfl, fun _ => rfl⟩ (fun v hv => va_runV (As := [.int (1 : Int32)]) (rest := []) hcf (c_X6_finding l dC dI cI cJ cQ fu a_g a_h a_q a_k a_p a_x a_s _  s_g s_o (1 : Int32) v hv) (cwV 1 hts gX6_feed_X6_finding rfl rfl rfl cd_X6_finding ⟨(Nat.le_of_ble_eq_true rfl), (Nat.le_of_ble_eq_true rfl)⟩) (cq_U_V (q0 := 0) (ci := 5) hK hP hD [0, 1] rfl rfl rfl rfl) rfl rfl hl.1 rfl (lv_room (Nat.le_of_ble_eq_true rfl)) dX6_feed_31 ⟨Nat.le_refl _, Nat.le_refl _⟩) (fun u31 hd H locs hP hD hS => ?_)
    exact rx_retUi (u := (u31.2, s_p)) (w1 := (fun u : (Nat → Int32) × TPS => (wGO a_g a_h a_q a_k a_p a_x a_s s_g ++ (wGT cI a_g u.1 ++ (wTP cI cJ a_p u.2))))) hx hb hr hlocks hd hK hP hD hS dX6_feed_34
  refine lv_aload_n hx hb dX6_feed_9 rfl (lv_at hl 0 rfl) ?_
  refine lv_iconst (v := 0) hx hb dX6_feed_10 ki_0 ?_
  refine rx_upi (fun u => (wGO a_g a_h a_q a_k a_p a_x a_s s_g ++ (wGT cI a_g u ++ (wTP cI cJ a_p s_p)))) hd hP hD hS hA ⟨[0, 1], [2, 3], [2, 3, 0, 1], wTP cI cJ a_p s_p, rfl, rfl, rfl, by decide, rfl, fun _ => rfl⟩ (fun v hv => va_runV (As := [.int (0 : Int32)]) (rest := []) hcf (c_X6_finding l dC dI cI cJ cQ fu a_g a_h a_q a_k a_p a_x a_s _  s_g s_o (0 : Int32) v hv) (cwV 1 hts gX6_feed_X6_finding rfl rfl rfl cd_X6_finding ⟨(Nat.le_of_ble_eq_true rfl), (Nat.le_of_ble_eq_true rfl)⟩) (cq_U_V (q0 := 0) (ci := 5) hK hP hD [0, 1] rfl rfl rfl rfl) rfl rfl hl.1 rfl (lv_room (Nat.le_of_ble_eq_true rfl)) dX6_feed_11 ⟨Nat.le_refl _, Nat.le_refl _⟩) (fun u11 hd H locs hP hD hS => ?_)
  exact rx_retUi (u := (u11.2, s_p)) (w1 := (fun u : (Nat → Int32) × TPS => (wGO a_g a_h a_q a_k a_p a_x a_s s_g ++ (wGT cI a_g u.1 ++ (wTP cI cJ a_p u.2))))) hx hb hr hlocks hd hK hP hD hS dX6_feed_14
theorem fiX6_wipe_X4 : ∀ w ∈ wsX40, w ∈ wsX6_wipe := mem_r _ [11, 12] rfl
theorem fiX6_wipe_X6 : ∀ w ∈ wsX60, w ∈ wsX6_wipe := mem_r _ [3, 4, 5, 6, 7, 8, 9, 10] rfl
set_option maxHeartbeats 8000000 in
set_option maxRecDepth 100000 in
theorem c_X6_wipe (l : Launch) (dC : Nat → ClassId) (dI : Nat → Nat → Nat) (cI cJ cQ : ClassId) (fu : Nat) (a_g a_h a_q a_k a_p a_x a_s : Nat → Nat) (sz : Nat) (s_g : Int32) (s_p : TPS)  (r : Int32 × TPS) (hd : fX6_wipe fu  s_g s_p  = some r) : mUi l yX6_wipe wsX6_wipe (gRm 0 0) [.ref (a_g 0)] (dC, dI) vwCl (gty cI cJ cQ) (wGO a_g a_h a_q a_k a_p a_x a_s s_g ++ (wTP cI cJ a_p s_p)) sz (fun u : TPS => (wGO a_g a_h a_q a_k a_p a_x a_s s_g ++ (wTP cI cJ a_p u))) r := by
  refine Met.ofW (cc := cX6_wipe) (maxL := 2) (ret := (some .int)) (by decide) rfl ?_
  intro p e s m args below meth c s₁ B hml hv
  obtain ⟨hav, hsz, hP, hK, hD0⟩ := hv
  subst hsz
  have hD := hD0.self (sz := s.heap.size)
  generalize hAe : va_A (wGO a_g a_h a_q a_k a_p a_x a_s s_g ++ (wTP cI cJ a_p s_p)) s.heap.size = A at hD ⊢
  have hA : ∀ q : Nat, s.heap.size ≤ q → A q := fun q h => by rw [← hAe]; exact Or.inr h
  have hS : va_S A s.heap s.heap [] := va_S.rf
  have hx := B.exec
  have hb := B.bytes
  have hr := B.returns
  have hts := atoms_spec (ws := wsX6_wipe) B.pre
  have hown : s.vm.findClass RX6 = some m.cls := findClass_of_methodNamed B.named
  have hlocks := B.notSynchronized
  have hcf : CallFix p m c cX6_wipe 2 s args wsX6_wipe RX6 := ⟨hx, hb, hml, hown, hts⟩
  have fl_33 := hts (.fieldLink RX6 33 "BucketGift" "tape" "LBucketGift$Tape;") (List.mem_of_getElem? (i := 1) rfl)
  have fl_186 := hts (.fieldLink RX6 186 "BucketGift$Tape" "length" "I") (List.mem_of_getElem? (i := 2) rfl)
  have hg : entryFrame m args 2 = entryFrame m ([.ref (a_g 0)] : List Value).toArray 2 := by rw [hav]
  rw [hg, lg_entry_eq]
  have hl := lv_entry ([.ref (a_g 0)]) (n := 2) (Nat.le_of_ble_eq_true rfl)
  generalize (lg_sl ([.ref (a_g 0)]) ++ List.replicate (2 - (lg_sl ([.ref (a_g 0)])).length) Slot.unset).toArray = ls at hl ⊢
  have hl : lv_has ls 2 [(0, .ref (a_g 0))] := hl
  clear hg
  unfold fX6_wipe at hd
  refine lv_aload_n hx hb dX6_wipe_0 rfl (lv_at hl 0 rfl) ?_
  refine rx_get hx hb hts fiX6_wipe_X6 hown hK hP 0 rfl rfl 5 (Nat.le_of_ble_eq_true rfl) fl_33 rfl rfl dX6_wipe_1 ?_
  refine rx_get hx hb hts fiX6_wipe_X4 hown hK hP 1 rfl rfl 1 (Nat.le_of_ble_eq_true rfl) fl_186 rfl rfl dX6_wipe_4 ?_
  refine rx_topi hd (fun x1_7 hd => ?_)
  refine lv_istore_n (lv' := [(1, .int x1_7), (0, .ref (a_g 0))]) hx hb dX6_wipe_7 rfl hl (Nat.le_of_ble_eq_true rfl) rfl (fun ls hl => ?_)
  refine lv_aload_n hx hb dX6_wipe_8 rfl (lv_at hl 1 rfl) ?_
  refine rx_get hx hb hts fiX6_wipe_X6 hown hK hP 0 rfl rfl 5 (Nat.le_of_ble_eq_true rfl) fl_33 rfl rfl dX6_wipe_9 ?_
  refine lv_iconst (v := 0) hx hb dX6_wipe_12 ki_0 ?_
  refine rx_puti (wGO a_g a_h a_q a_k a_p a_x a_s s_g ++ (wTP cI cJ a_p (tsLength s_p (0 : Int32)))) hx hb hts fiX6_wipe_X4 tyX4 tyX4_ok nmX4 hown hK hP hD hS 1 rfl rfl 1 (Nat.le_of_ble_eq_true rfl) fl_186 rfl rfl rfl (Nat.le_of_ble_eq_true rfl) (g_setR (j := 0) rfl (wTP_sLength ..)) dX6_wipe_13 (fun H locs hP hD hS => ?_)
  refine lv_iload_n hx hb dX6_wipe_16 rfl (lv_at hl 0 rfl) ?_
  exact rx_retUi (u := (tsLength s_p (0 : Int32))) (w1 := (fun u : TPS => (wGO a_g a_h a_q a_k a_p a_x a_s s_g ++ (wTP cI cJ a_p u)))) hx hb hr hlocks hd hK hP hD hS dX6_wipe_17
theorem fiX6_parish_X4 : ∀ w ∈ wsX40, w ∈ wsX6_parish := mem_r _ [182, 183] rfl
theorem fiX6_parish_X6 : ∀ w ∈ wsX60, w ∈ wsX6_parish := mem_r _ [174, 175, 176, 177, 178, 179, 180, 181] rfl
set_option maxHeartbeats 8000000 in
set_option maxRecDepth 100000 in
theorem c_X6_parish (l : Launch) (dC : Nat → ClassId) (dI : Nat → Nat → Nat) (cI cJ cQ : ClassId) (fu : Nat) (gz : GZ) (a_g a_h a_q a_k a_p a_x a_s : Nat → Nat) (a_z : Nat → Nat) (sz : Nat) (s_g : Int32) (s_h : PS) (s_q : PS) (s_p : TPS) (s_z : TKS)  (r : Int32 × PS × PS × TPS × TKS) (hd : fX6_parish fu  s_g s_h s_q s_p s_z  = some r) : mUiG l yX6_parish wsX6_parish (gRm 10 218) [.ref (a_g 0)] (dC, dI) vwCl (gty cI cJ cQ) (wGO a_g a_h a_q a_k a_p a_x a_s s_g ++ (wP cI cJ a_h s_h ++ (wP cI cJ a_q s_q ++ (wTP cI cJ a_p s_p ++ (wTX a_x a_z ++ (wTK cI cJ a_z s_z)))))) sz gz (fun u : PS × PS × TPS × TKS => (wGO a_g a_h a_q a_k a_p a_x a_s s_g ++ (wP cI cJ a_h u.1 ++ (wP cI cJ a_q u.2.1 ++ (wTP cI cJ a_p u.2.2.1 ++ (wTX a_x a_z ++ (wTK cI cJ a_z u.2.2.2))))))) r := by
  refine Met.ofW (cc := cX6_parish) (maxL := 2) (ret := (some .int)) (by decide) rfl ?_
  intro p e s m args below meth c s₁ B hml hv
  obtain ⟨hav, ⟨hsz, hP, hK, hD0⟩, hG⟩ := hv
  subst hsz
  have hD := hD0.self (sz := s.heap.size)
  generalize hAe : va_A (wGO a_g a_h a_q a_k a_p a_x a_s s_g ++ (wP cI cJ a_h s_h ++ (wP cI cJ a_q s_q ++ (wTP cI cJ a_p s_p ++ (wTX a_x a_z ++ (wTK cI cJ a_z s_z)))))) s.heap.size = A at hD hG ⊢
  have hA : ∀ q : Nat, s.heap.size ≤ q → A q := fun q h => by rw [← hAe]; exact Or.inr h
  have hS : va_S A s.heap s.heap [] := va_S.rf
  have hx := B.exec
  have hb := B.bytes
  have hr := B.returns
  have hts := atoms_spec (ws := wsX6_parish) B.pre
  have hown : s.vm.findClass RX6 = some m.cls := findClass_of_methodNamed B.named
  have hlocks := B.notSynchronized
  have hcf : CallFix p m c cX6_parish 2 s args wsX6_parish RX6 := ⟨hx, hb, hml, hown, hts⟩
  have fl_20 := hts (.fieldLink RX6 20 "BucketGift" "trial" "LBucketGift$Parish;") (List.mem_of_getElem? (i := 1) rfl)
  have fl_16 := hts (.fieldLink RX6 16 "BucketGift" "here" "LBucketGift$Parish;") (List.mem_of_getElem? (i := 2) rfl)
  have fl_40 := hts (.fieldLink RX6 40 "BucketGift" "text" "LBucketGift$ParishText;") (List.mem_of_getElem? (i := 3) rfl)
  have fl_33 := hts (.fieldLink RX6 33 "BucketGift" "tape" "LBucketGift$Tape;") (List.mem_of_getElem? (i := 4) rfl)
  have fl_186 := hts (.fieldLink RX6 186 "BucketGift$Tape" "length" "I") (List.mem_of_getElem? (i := 5) rfl)
  have hg : entryFrame m args 2 = entryFrame m ([.ref (a_g 0)] : List Value).toArray 2 := by rw [hav]
  rw [hg, lg_entry_eq]
  have hl := lv_entry ([.ref (a_g 0)]) (n := 2) (Nat.le_of_ble_eq_true rfl)
  generalize (lg_sl ([.ref (a_g 0)]) ++ List.replicate (2 - (lg_sl ([.ref (a_g 0)])).length) Slot.unset).toArray = ls at hl ⊢
  have hl : lv_has ls 2 [(0, .ref (a_g 0))] := hl
  clear hg
  unfold fX6_parish at hd
  refine lv_aload_n hx hb dX6_parish_0 rfl (lv_at hl 0 rfl) ?_
  refine rx_get hx hb hts fiX6_parish_X6 hown hK hP 0 rfl rfl 2 (Nat.le_of_ble_eq_true rfl) fl_20 rfl rfl dX6_parish_1 ?_
  refine lv_aload_n hx hb dX6_parish_4 rfl (lv_at hl 0 rfl) ?_
  refine rx_get hx hb hts fiX6_parish_X6 hown hK hP 0 rfl rfl 1 (Nat.le_of_ble_eq_true rfl) fl_16 rfl rfl dX6_parish_5 ?_
  refine rx_upv (fun u => (wGO a_g a_h a_q a_k a_p a_x a_s s_g ++ (wP cI cJ a_h s_h ++ (wP cI cJ a_q u ++ (wTP cI cJ a_p s_p ++ (wTX a_x a_z ++ (wTK cI cJ a_z s_z))))))) hd hP hD hS hA ⟨[11, 12, 13, 14, 15, 16, 17, 18, 19, 20, 1, 2, 3, 4, 5, 6, 7, 8, 9, 10], [0, 21, 22, 23, 24, 25, 26, 27, 28, 29], [0, 20, 21, 22, 23, 24, 25, 26, 27, 28, 29, 10, 11, 12, 13, 14, 15, 16, 17, 18, 19, 1, 2, 3, 4, 5, 6, 7, 8, 9], wGO a_g a_h a_q a_k a_p a_x a_s s_g ++ (wTP cI cJ a_p s_p ++ (wTX a_x a_z ++ (wTK cI cJ a_z s_z))), rfl, rfl, rfl, by decide, rfl, fun _ => rfl⟩ (fun v hv => va_runV (As := [.ref (a_h 0)]) (rest := []) hcf (c_X1_become l dC dI cI cJ cQ fu a_q a_h _  s_q s_h  v hv) (cwV 1 hts gX6_parish_X1_become rfl rfl rfl cd_X1_become ⟨(Nat.le_of_ble_eq_true rfl), (Nat.le_of_ble_eq_true rfl)⟩) (cq_U_V (q0 := 11) (ci := 0) hK hP hD [11, 12, 13, 14, 15, 16, 17, 18, 19, 20, 1, 2, 3, 4, 5, 6, 7, 8, 9, 10] rfl rfl rfl rfl) rfl rfl hl.1 rfl (lv_room (Nat.le_of_ble_eq_true rfl)) dX6_parish_8 ⟨Nat.le_refl _, Nat.le_refl _⟩) (fun u8 hd H locs hP hD hS => ?_)
  refine lv_aload_n hx hb dX6_parish_11 rfl (lv_at hl 0 rfl) ?_
  refine rx_get hx hb hts fiX6_parish_X6 hown hK hP 0 rfl rfl 6 (Nat.le_of_ble_eq_true rfl) fl_40 rfl rfl dX6_parish_12 ?_
  refine lv_aload_n hx hb dX6_parish_15 rfl (lv_at hl 0 rfl) ?_
  refine rx_get hx hb hts fiX6_parish_X6 hown hK hP 0 rfl rfl 2 (Nat.le_of_ble_eq_true rfl) fl_20 rfl rfl dX6_parish_16 ?_
  refine lv_aload_n hx hb dX6_parish_19 rfl (lv_at hl 0 rfl) ?_
  refine rx_get hx hb hts fiX6_parish_X6 hown hK hP 0 rfl rfl 5 (Nat.le_of_ble_eq_true rfl) fl_33 rfl rfl dX6_parish_20 ?_
  refine rx_upi (fun u => (wGO a_g a_h a_q a_k a_p a_x a_s s_g ++ (wP cI cJ a_h s_h ++ (wP cI cJ a_q u.2 ++ (wTP cI cJ a_p s_p ++ (wTX a_x a_z ++ (wTK cI cJ a_z u.1))))))) hd hP hD hS hA ⟨[23, 24, 25, 26, 27, 28, 29, 11, 12, 13, 14, 15, 16, 17, 18, 19, 20, 21, 22], [0, 1, 2, 3, 4, 5, 6, 7, 8, 9, 10], [0, 1, 2, 3, 4, 5, 6, 7, 8, 9, 10, 18, 19, 20, 21, 22, 23, 24, 25, 26, 27, 28, 29, 11, 12, 13, 14, 15, 16, 17], wGO a_g a_h a_q a_k a_p a_x a_s s_g ++ (wP cI cJ a_h s_h), rfl, rfl, rfl, by decide, rfl, fun _ => rfl⟩ (fun v hv => va_runV (As := [.ref (a_q 0), .ref (a_p 0)]) (rest := []) hcf (c_X2_readInto l dC dI cI cJ cQ fu gz a_x a_z a_q a_p _  s_z u8 s_p  v hv) (cwV 2 hts gX6_parish_X2_readInto rfl rfl rfl cd_X2_readInto ⟨(Nat.le_of_ble_eq_true rfl), (Nat.le_of_ble_eq_true rfl)⟩) (cq_UG_V (q0 := 23) (ci := 1) hG hS hA hK hP hD [23, 24, 25, 26, 27, 28, 29, 11, 12, 13, 14, 15, 16, 17, 18, 19, 20, 21, 22] rfl rfl rfl rfl) rfl rfl hl.1 rfl (lv_room (Nat.le_of_ble_eq_true rfl)) dX6_parish_23 ⟨Nat.le_refl _, Nat.le_refl _⟩) (fun u23 hd H locs hP hD hS => ?_)
  refine lv_istore_n (lv' := [(1, .int u23.1), (0, .ref (a_g 0))]) hx hb dX6_parish_26 rfl hl (Nat.le_of_ble_eq_true rfl) rfl (fun ls hl => ?_)
  refine lv_aload_n hx hb dX6_parish_27 rfl (lv_at hl 1 rfl) ?_
  refine rx_get hx hb hts fiX6_parish_X6 hown hK hP 0 rfl rfl 5 (Nat.le_of_ble_eq_true rfl) fl_33 rfl rfl dX6_parish_28 ?_
  refine lv_iconst (v := 0) hx hb dX6_parish_31 ki_0 ?_
  refine rx_puti (wGO a_g a_h a_q a_k a_p a_x a_s s_g ++ (wP cI cJ a_h s_h ++ (wP cI cJ a_q u23.2.2 ++ (wTP cI cJ a_p (tsLength s_p (0 : Int32)) ++ (wTX a_x a_z ++ (wTK cI cJ a_z u23.2.1)))))) hx hb hts fiX6_parish_X4 tyX4 tyX4_ok nmX4 hown hK hP hD hS 21 rfl rfl 1 (Nat.le_of_ble_eq_true rfl) fl_186 rfl rfl rfl (Nat.le_of_ble_eq_true rfl) (g_setR (j := 20) rfl (g_setR (j := 10) rfl (g_setR (j := 0) rfl (g_setL (Nat.le_of_ble_eq_true rfl) (wTP_sLength ..))))) dX6_parish_32 (fun H locs hP hD hS => ?_)
  refine lv_iload_n hx hb dX6_parish_35 rfl (lv_at hl 0 rfl) ?_
  refine rx_if_lt hx hb 50 dX6_parish_36 rfl hd (fun hd => ?_) (fun hd => ?_)
  · refine lv_iload_n hx hb dX6_parish_50 rfl (lv_at hl 0 rfl) ?_
    exact rx_retUi (u := (s_h, u23.2.2, (tsLength s_p (0 : Int32)), u23.2.1)) (w1 := (fun u : PS × PS × TPS × TKS => (wGO a_g a_h a_q a_k a_p a_x a_s s_g ++ (wP cI cJ a_h u.1 ++ (wP cI cJ a_q u.2.1 ++ (wTP cI cJ a_p u.2.2.1 ++ (wTX a_x a_z ++ (wTK cI cJ a_z u.2.2.2)))))))) hx hb hr hlocks hd hK hP hD hS dX6_parish_51
  refine lv_aload_n hx hb dX6_parish_39 rfl (lv_at hl 1 rfl) ?_
  refine rx_get hx hb hts fiX6_parish_X6 hown hK hP 0 rfl rfl 1 (Nat.le_of_ble_eq_true rfl) fl_16 rfl rfl dX6_parish_40 ?_
  refine lv_aload_n hx hb dX6_parish_43 rfl (lv_at hl 1 rfl) ?_
  refine rx_get hx hb hts fiX6_parish_X6 hown hK hP 0 rfl rfl 2 (Nat.le_of_ble_eq_true rfl) fl_20 rfl rfl dX6_parish_44 ?_
  refine rx_upv (fun u => (wGO a_g a_h a_q a_k a_p a_x a_s s_g ++ (wP cI cJ a_h u ++ (wP cI cJ a_q u23.2.2 ++ (wTP cI cJ a_p (tsLength s_p (0 : Int32)) ++ (wTX a_x a_z ++ (wTK cI cJ a_z u23.2.1))))))) hd hP hD hS hA ⟨[1, 2, 3, 4, 5, 6, 7, 8, 9, 10, 11, 12, 13, 14, 15, 16, 17, 18, 19, 20], [0, 21, 22, 23, 24, 25, 26, 27, 28, 29], [0, 10, 11, 12, 13, 14, 15, 16, 17, 18, 19, 20, 21, 22, 23, 24, 25, 26, 27, 28, 29, 1, 2, 3, 4, 5, 6, 7, 8, 9], wGO a_g a_h a_q a_k a_p a_x a_s s_g ++ (wTP cI cJ a_p (tsLength s_p (0 : Int32)) ++ (wTX a_x a_z ++ (wTK cI cJ a_z u23.2.1))), rfl, rfl, rfl, by decide, rfl, fun _ => rfl⟩ (fun v hv => va_runV (As := [.ref (a_q 0)]) (rest := []) hcf (c_X1_become l dC dI cI cJ cQ fu a_h a_q _  s_h u23.2.2  v hv) (cwV 1 hts gX6_parish_X1_become rfl rfl rfl cd_X1_become ⟨(Nat.le_of_ble_eq_true rfl), (Nat.le_of_ble_eq_true rfl)⟩) (cq_U_V (q0 := 1) (ci := 0) hK hP hD [1, 2, 3, 4, 5, 6, 7, 8, 9, 10, 11, 12, 13, 14, 15, 16, 17, 18, 19, 20] rfl rfl rfl rfl) rfl rfl hl.1 rfl (lv_room (Nat.le_of_ble_eq_true rfl)) dX6_parish_47 ⟨Nat.le_refl _, Nat.le_refl _⟩) (fun u47 hd H locs hP hD hS => ?_)
  refine lv_iload_n hx hb dX6_parish_50 rfl (lv_at hl 0 rfl) ?_
  exact rx_retUi (u := (u47, u23.2.2, (tsLength s_p (0 : Int32)), u23.2.1)) (w1 := (fun u : PS × PS × TPS × TKS => (wGO a_g a_h a_q a_k a_p a_x a_s s_g ++ (wP cI cJ a_h u.1 ++ (wP cI cJ a_q u.2.1 ++ (wTP cI cJ a_p u.2.2.1 ++ (wTX a_x a_z ++ (wTK cI cJ a_z u.2.2.2)))))))) hx hb hr hlocks hd hK hP hD hS dX6_parish_51
set_option maxHeartbeats 8000000 in
set_option maxRecDepth 100000 in
theorem c_X6_isSheet (l : Launch) (dC : Nat → ClassId) (dI : Nat → Nat → Nat) (cI cJ cQ : ClassId) (fu : Nat)   (x0 : Int32) (r : Int32) (hd : fX6_isSheet fu   x0 = some r) : mRi l yX6_isSheet wsX6_isSheet (gRm 1 22) [.int x0] (cq_R (dC, dI) vwCl (gty cI cJ cQ) ([] : va_W)) r := by
  refine Met.ofW (cc := cX6_isSheet) (maxL := 1) (ret := (some .boolean)) (by decide) rfl ?_
  intro p e s m args below meth c s₁ B hml hv
  obtain ⟨hav, hP, hK⟩ := hv
  have hx := B.exec
  have hb := B.bytes
  have hr := B.returns
  have hts := atoms_spec (ws := wsX6_isSheet) B.pre
  have hown : s.vm.findClass RX6 = some m.cls := findClass_of_methodNamed B.named
  have hlocks := B.notSynchronized
  have hcf : CallFix p m c cX6_isSheet 1 s args wsX6_isSheet RX6 := ⟨hx, hb, hml, hown, hts⟩
  have hg : entryFrame m args 1 = entryFrame m ([.int x0] : List Value).toArray 1 := by rw [hav]
  rw [hg, lg_entry_eq]
  have hl := lv_entry ([.int x0]) (n := 1) (Nat.le_of_ble_eq_true rfl)
  generalize (lg_sl ([.int x0]) ++ List.replicate (1 - (lg_sl ([.int x0])).length) Slot.unset).toArray = ls at hl ⊢
  have hl : lv_has ls 1 [(0, .int x0)] := hl
  clear hg
  unfold fX6_isSheet at hd
  refine lv_iload_n hx hb dX6_isSheet_0 rfl (lv_at hl 0 rfl) ?_
  refine lv_iconst (v := 0) hx hb dX6_isSheet_1 ki_0 ?_
  refine lv_iconst (v := 3) hx hb dX6_isSheet_2 ki_3 ?_
  refine rx_roi hd (fun v hv => W.runS (As := [.int x0, .int (0 : Int32), .int (3 : Int32)]) (rest := []) hcf (c_X6_isWithin l dC dI cI cJ cQ fu    x0 (0 : Int32) (3 : Int32) v hv) (va_cwS 3 hts gX6_isSheet_X6_isWithin rfl rfl rfl cd_X6_isWithin ⟨(Nat.le_of_ble_eq_true rfl), (Nat.le_of_ble_eq_true rfl)⟩) (cq_R_S hK hP [] rfl) rfl rfl hl.1 rfl (lv_room (Nat.le_of_ble_eq_true rfl)) dX6_isSheet_3 ⟨Nat.le_refl _, Nat.le_refl _⟩) (fun u3 hd => ?_)
  exact rx_retRz hx hb hr hlocks hd dX6_isSheet_6
theorem fiX6_sheet_X3 : ∀ w ∈ wsX30, w ∈ wsX6_sheet := mem_r _ [39, 40, 41] rfl
theorem fiX6_sheet_X6 : ∀ w ∈ wsX60, w ∈ wsX6_sheet := mem_r _ [31, 32, 33, 34, 35, 36, 37, 38] rfl
set_option maxHeartbeats 8000000 in
set_option maxRecDepth 100000 in
theorem c_X6_sheet (l : Launch) (dC : Nat → ClassId) (dI : Nat → Nat → Nat) (cI cJ cQ : ClassId) (fu : Nat) (a_g a_h a_q a_k a_p a_x a_s : Nat → Nat) (sz : Nat) (s_g : Int32) (s_o : (Nat → Int32)) (s_s : SHS) (x1 : Int32) (x2 : Int32) (x3 : Int32) (r : Int32 × (Nat → Int32) × SHS) (hd : fX6_sheet fu  s_g s_o s_s x1 x2 x3 = some r) : mUi l yX6_sheet wsX6_sheet (gRm 2 46) [.ref (a_g 0), .int x1, .int x2, .int x3] (dC, dI) vwCl (gty cI cJ cQ) (wGO a_g a_h a_q a_k a_p a_x a_s s_g ++ (wGT cI a_g s_o ++ (wSH cJ cQ a_s s_s))) sz (fun u : (Nat → Int32) × SHS => (wGO a_g a_h a_q a_k a_p a_x a_s s_g ++ (wGT cI a_g u.1 ++ (wSH cJ cQ a_s u.2)))) r := by
  refine Met.ofW (cc := cX6_sheet) (maxL := 4) (ret := (some .int)) (by decide) rfl ?_
  intro p e s m args below meth c s₁ B hml hv
  obtain ⟨hav, hsz, hP, hK, hD0⟩ := hv
  subst hsz
  have hD := hD0.self (sz := s.heap.size)
  generalize hAe : va_A (wGO a_g a_h a_q a_k a_p a_x a_s s_g ++ (wGT cI a_g s_o ++ (wSH cJ cQ a_s s_s))) s.heap.size = A at hD ⊢
  have hA : ∀ q : Nat, s.heap.size ≤ q → A q := fun q h => by rw [← hAe]; exact Or.inr h
  have hS : va_S A s.heap s.heap [] := va_S.rf
  have hx := B.exec
  have hb := B.bytes
  have hr := B.returns
  have hts := atoms_spec (ws := wsX6_sheet) B.pre
  have hown : s.vm.findClass RX6 = some m.cls := findClass_of_methodNamed B.named
  have hlocks := B.notSynchronized
  have hcf : CallFix p m c cX6_sheet 4 s args wsX6_sheet RX6 := ⟨hx, hb, hml, hown, hts⟩
  have fl_46 := hts (.fieldLink RX6 46 "BucketGift" "sheets" "[LBucketGift$Sheet;") (List.mem_of_getElem? (i := 1) rfl)
  have fl_206 := hts (.fieldLink RX6 206 "BucketGift$Sheet" "size" "I") (List.mem_of_getElem? (i := 2) rfl)
  have hg : entryFrame m args 4 = entryFrame m ([.ref (a_g 0), .int x1, .int x2, .int x3] : List Value).toArray 4 := by rw [hav]
  rw [hg, lg_entry_eq]
  have hl := lv_entry ([.ref (a_g 0), .int x1, .int x2, .int x3]) (n := 4) (Nat.le_of_ble_eq_true rfl)
  generalize (lg_sl ([.ref (a_g 0), .int x1, .int x2, .int x3]) ++ List.replicate (4 - (lg_sl ([.ref (a_g 0), .int x1, .int x2, .int x3])).length) Slot.unset).toArray = ls at hl ⊢
  have hl : lv_has ls 4 [(0, .ref (a_g 0)), (1, .int x1), (2, .int x2), (3, .int x3)] := hl
  clear hg
  unfold fX6_sheet at hd
  have b14 : ∀ (s_o : (Nat → Int32)) (s_s : SHS), fX6_sheet_b14 fu s_g   s_o s_s = some r → bk_U p l e (headSpec wsX6_sheet (gRm 2 46)).room s m args below meth c (qUi below args s (dC, dI) vwCl (gty cI cJ cQ) A (fun u : (Nat → Int32) × SHS => (wGO a_g a_h a_q a_k a_p a_x a_s s_g ++ (wGT cI a_g u.1 ++ (wSH cJ cQ a_s u.2)))) r) (dC, dI) vwCl A 4 (wGO a_g a_h a_q a_k a_p a_x a_s s_g ++ (wGT cI a_g s_o ++ (wSH cJ cQ a_s s_s))) 14 [(0, .ref (a_g 0))] [] := by
    intro s_o s_s hd
    intro H locs ls hP hD hS hl
    unfold fX6_sheet_b14 at hd
    refine lv_aload_n hx hb dX6_sheet_14 rfl (lv_at hl 0 rfl) ?_
    refine lv_iconst (v := 0) hx hb dX6_sheet_15 ki_0 ?_
    refine rx_upi (fun u => (wGO a_g a_h a_q a_k a_p a_x a_s s_g ++ (wGT cI a_g u ++ (wSH cJ cQ a_s s_s)))) hd hP hD hS hA ⟨[0, 1], [2, 3, 4, 5, 6, 7, 8, 9, 10], [9, 10, 0, 1, 2, 3, 4, 5, 6, 7, 8], wSH cJ cQ a_s s_s, rfl, rfl, rfl, by decide, rfl, fun _ => rfl⟩ (fun v hv => va_runV (As := [.int (0 : Int32)]) (rest := []) hcf (c_X6_finding l dC dI cI cJ cQ fu a_g a_h a_q a_k a_p a_x a_s _  s_g s_o (0 : Int32) v hv) (cwV 1 hts gX6_sheet_X6_finding rfl rfl rfl cd_X6_finding ⟨(Nat.le_of_ble_eq_true rfl), (Nat.le_of_ble_eq_true rfl)⟩) (cq_U_V (q0 := 0) (ci := 5) hK hP hD [0, 1] rfl rfl rfl rfl) rfl rfl hl.1 rfl (lv_room (Nat.le_of_ble_eq_true rfl)) dX6_sheet_16 ⟨Nat.le_refl _, Nat.le_refl _⟩) (fun u16 hd H locs hP hD hS => ?_)
    exact rx_retUi (u := (u16.2, s_s)) (w1 := (fun u : (Nat → Int32) × SHS => (wGO a_g a_h a_q a_k a_p a_x a_s s_g ++ (wGT cI a_g u.1 ++ (wSH cJ cQ a_s u.2))))) hx hb hr hlocks hd hK hP hD hS dX6_sheet_19
  refine lv_iload_n hx hb dX6_sheet_0 rfl (lv_at hl 1 rfl) ?_
  refine rx_roi hd (fun v hv => W.runS (As := [.int x1]) (rest := []) hcf (c_X6_isSheet l dC dI cI cJ cQ fu    x1 v hv) (va_cwS 1 hts gX6_sheet_X6_isSheet rfl rfl rfl cd_X6_isSheet ⟨(Nat.le_of_ble_eq_true rfl), (Nat.le_of_ble_eq_true rfl)⟩) (cq_R_S hK hP [] rfl) rfl rfl hl.1 rfl (lv_room (Nat.le_of_ble_eq_true rfl)) dX6_sheet_1 ⟨Nat.le_refl _, Nat.le_refl _⟩) (fun u1 hd => ?_)
  refine rx_if_eq hx hb 14 dX6_sheet_4 rfl hd (fun hd => ?_) (fun hd => ?_)
  · exact b14   s_o s_s hd _ _ _ hP hD hS (lv_sub hl [0] rfl)
  refine lv_iload_n hx hb dX6_sheet_7 rfl (lv_at hl 2 rfl) ?_
  refine rx_roi hd (fun v hv => W.runS (As := [.int x2]) (rest := []) hcf (c_X3_areBits l dC dI cI cJ cQ fu    x2 v hv) (va_cwS 1 hts gX6_sheet_X3_areBits rfl rfl rfl cd_X3_areBits ⟨(Nat.le_of_ble_eq_true rfl), (Nat.le_of_ble_eq_true rfl)⟩) (cq_R_S hK hP [] rfl) rfl rfl hl.1 rfl (lv_room (Nat.le_of_ble_eq_true rfl)) dX6_sheet_8 ⟨Nat.le_refl _, Nat.le_refl _⟩) (fun u8 hd => ?_)
  refine rx_if_ne hx hb 20 dX6_sheet_11 rfl hd (fun hd => ?_) (fun hd => ?_)
  · refine lv_iload_n hx hb dX6_sheet_20 rfl (lv_at hl 3 rfl) ?_
    refine rx_if_ge hx hb 31 dX6_sheet_21 rfl hd (fun hd => ?_) (fun hd => ?_)
    · refine lv_iload_n hx hb dX6_sheet_31 rfl (lv_at hl 3 rfl) ?_
      refine lv_bipush (v := 40) hx hb dX6_sheet_32 kb_40 ?_
      refine rx_icmp_le hx hb 43 dX6_sheet_34 rfl hd (fun hd => ?_) (fun hd => ?_)
      · refine lv_aload_n hx hb dX6_sheet_43 rfl (lv_at hl 0 rfl) ?_
        refine rx_get hx hb hts fiX6_sheet_X6 hown hK hP 0 rfl rfl 7 (Nat.le_of_ble_eq_true rfl) fl_46 rfl rfl dX6_sheet_44 ?_
        refine lv_iload_n hx hb dX6_sheet_47 rfl (lv_at hl 1 rfl) ?_
        refine rx_aald (b := a_s) hx hb hK hP 2 2 rfl rfl hd dX6_sheet_48 (fun k48 hk48 hd => ?_)
        refine lv_iload_n hx hb dX6_sheet_49 rfl (lv_at hl 2 rfl) ?_
        refine lv_iload_n hx hb dX6_sheet_50 rfl (lv_at hl 3 rfl) ?_
        refine rx_upv (fun u => (wGO a_g a_h a_q a_k a_p a_x a_s s_g ++ (wGT cI a_g s_o ++ (wSH cJ cQ a_s (sSet s_s k48 u))))) hd hP hD hS hA (g_four (P := fun k => cq_J (S := S1S) (wGO a_g a_h a_q a_k a_p a_x a_s s_g ++ (wGT cI a_g s_o ++ (wSH cJ cQ a_s s_s))) (wS1 cI cJ (fun j => a_s (1 + 4 * j + k)) (sGet s_s k)) (fun u => (wS1 cI cJ (fun j => a_s (1 + 4 * j + k)) u)) (fun u => (wGO a_g a_h a_q a_k a_p a_x a_s s_g ++ (wGT cI a_g s_o ++ (wSH cJ cQ a_s (sSet s_s k u)))))) ⟨[3, 7], [0, 1, 2, 4, 5, 6, 8, 9, 10], [0, 1, 2, 9, 3, 4, 5, 10, 6, 7, 8], wGO a_g a_h a_q a_k a_p a_x a_s s_g ++ (wGT cI a_g s_o ++ ([(a_s 0, .inl (cQ, 4, .inr (.inr (.inr (.inr (fun k => some (a_s (1 + k)))))))), (a_s 2, .inr (2, [.int (sgBits s_s 1), .int (sgSize s_s 1), .ref (a_s 6)])), (a_s 3, .inr (2, [.int (sgBits s_s 2), .int (sgSize s_s 2), .ref (a_s 7)])), (a_s 4, .inr (2, [.int (sgBits s_s 3), .int (sgSize s_s 3), .ref (a_s 8)])), (a_s 6, .inl (cJ, 40, .inr (.inl (sgNumbers s_s 1)))), (a_s 7, .inl (cJ, 40, .inr (.inl (sgNumbers s_s 2)))), (a_s 8, .inl (cJ, 40, .inr (.inl (sgNumbers s_s 3))))])), rfl, rfl, rfl, by decide, rfl, fun _ => rfl⟩ ⟨[4, 8], [0, 1, 2, 3, 5, 6, 7, 9, 10], [0, 1, 2, 3, 9, 4, 5, 6, 10, 7, 8], wGO a_g a_h a_q a_k a_p a_x a_s s_g ++ (wGT cI a_g s_o ++ ([(a_s 0, .inl (cQ, 4, .inr (.inr (.inr (.inr (fun k => some (a_s (1 + k)))))))), (a_s 1, .inr (2, [.int (sgBits s_s 0), .int (sgSize s_s 0), .ref (a_s 5)])), (a_s 3, .inr (2, [.int (sgBits s_s 2), .int (sgSize s_s 2), .ref (a_s 7)])), (a_s 4, .inr (2, [.int (sgBits s_s 3), .int (sgSize s_s 3), .ref (a_s 8)])), (a_s 5, .inl (cJ, 40, .inr (.inl (sgNumbers s_s 0)))), (a_s 7, .inl (cJ, 40, .inr (.inl (sgNumbers s_s 2)))), (a_s 8, .inl (cJ, 40, .inr (.inl (sgNumbers s_s 3))))])), rfl, rfl, rfl, by decide, rfl, fun _ => rfl⟩ ⟨[5, 9], [0, 1, 2, 3, 4, 6, 7, 8, 10], [0, 1, 2, 3, 4, 9, 5, 6, 7, 10, 8], wGO a_g a_h a_q a_k a_p a_x a_s s_g ++ (wGT cI a_g s_o ++ ([(a_s 0, .inl (cQ, 4, .inr (.inr (.inr (.inr (fun k => some (a_s (1 + k)))))))), (a_s 1, .inr (2, [.int (sgBits s_s 0), .int (sgSize s_s 0), .ref (a_s 5)])), (a_s 2, .inr (2, [.int (sgBits s_s 1), .int (sgSize s_s 1), .ref (a_s 6)])), (a_s 4, .inr (2, [.int (sgBits s_s 3), .int (sgSize s_s 3), .ref (a_s 8)])), (a_s 5, .inl (cJ, 40, .inr (.inl (sgNumbers s_s 0)))), (a_s 6, .inl (cJ, 40, .inr (.inl (sgNumbers s_s 1)))), (a_s 8, .inl (cJ, 40, .inr (.inl (sgNumbers s_s 3))))])), rfl, rfl, rfl, by decide, rfl, fun _ => rfl⟩ ⟨[6, 10], [0, 1, 2, 3, 4, 5, 7, 8, 9], [0, 1, 2, 3, 4, 5, 9, 6, 7, 8, 10], wGO a_g a_h a_q a_k a_p a_x a_s s_g ++ (wGT cI a_g s_o ++ ([(a_s 0, .inl (cQ, 4, .inr (.inr (.inr (.inr (fun k => some (a_s (1 + k)))))))), (a_s 1, .inr (2, [.int (sgBits s_s 0), .int (sgSize s_s 0), .ref (a_s 5)])), (a_s 2, .inr (2, [.int (sgBits s_s 1), .int (sgSize s_s 1), .ref (a_s 6)])), (a_s 3, .inr (2, [.int (sgBits s_s 2), .int (sgSize s_s 2), .ref (a_s 7)])), (a_s 5, .inl (cJ, 40, .inr (.inl (sgNumbers s_s 0)))), (a_s 6, .inl (cJ, 40, .inr (.inl (sgNumbers s_s 1)))), (a_s 7, .inl (cJ, 40, .inr (.inl (sgNumbers s_s 2))))])), rfl, rfl, rfl, by decide, rfl, fun _ => rfl⟩ k48 hk48) (fun v hv => va_runV (As := [.int x2, .int x3]) (rest := []) hcf (c_X3_clear l dC dI cI cJ cQ fu (fun j => a_s (1 + 4 * j + k48)) _  (sGet s_s k48) x2 x3 v hv) (cwV 2 hts gX6_sheet_X3_clear rfl rfl rfl cd_X3_clear ⟨(Nat.le_of_ble_eq_true rfl), (Nat.le_of_ble_eq_true rfl)⟩) (cq_U_V (q0 := (1 + (1 + (1 + k48)))) (ci := 2) hK hP hD [(1 + (1 + (1 + k48))), (1 + (1 + (5 + k48)))] (g_four (P := fun k => va_nd [(1 + (1 + (1 + k))), (1 + (1 + (5 + k)))] = true) rfl rfl rfl rfl k48 hk48) (g_four (P := fun k => [(1 + (1 + (1 + k))), (1 + (1 + (5 + k)))].map (fun i => (wGO a_g a_h a_q a_k a_p a_x a_s s_g ++ (wGT cI a_g s_o ++ (wSH cJ cQ a_s s_s)))[i]?) = (wS1 cI cJ (fun j => a_s (1 + 4 * j + k)) (sGet s_s k)).map some) rfl rfl rfl rfl k48 hk48) rfl (g_four (P := fun k => (wGO a_g a_h a_q a_k a_p a_x a_s s_g ++ (wGT cI a_g s_o ++ (wSH cJ cQ a_s s_s)))[(1 + (1 + (1 + k)))]? = some (a_s (1 + k), .inr (2, [.int (sgBits s_s k), .int (sgSize s_s k), .ref (a_s (5 + k))]))) rfl rfl rfl rfl k48 hk48)) rfl rfl hl.1 rfl (lv_room (Nat.le_of_ble_eq_true rfl)) dX6_sheet_51 ⟨Nat.le_refl _, Nat.le_refl _⟩) (fun u51 hd H locs hP hD hS => ?_)
        refine lv_aload_n hx hb dX6_sheet_54 rfl (lv_at hl 0 rfl) ?_
        refine rx_get hx hb hts fiX6_sheet_X6 hown hK hP 0 rfl rfl 7 (Nat.le_of_ble_eq_true rfl) fl_46 rfl rfl dX6_sheet_55 ?_
        refine lv_iload_n hx hb dX6_sheet_58 rfl (lv_at hl 1 rfl) ?_
        refine rx_aald (b := a_s) hx hb hK hP 2 2 rfl rfl hd dX6_sheet_59 (fun k59 hk59 hd => ?_)
        refine rx_get hx hb hts fiX6_sheet_X3 hown hK hP (1 + (1 + (1 + k59))) (g_four (P := fun k => (wGO a_g a_h a_q a_k a_p a_x a_s s_g ++ (wGT cI a_g s_o ++ (wSH cJ cQ a_s (sSet s_s k48 u51))))[(1 + (1 + (1 + k)))]? = some (a_s (1 + k), .inr (2, [.int (sgBits (sSet s_s k48 u51) k), .int (sgSize (sSet s_s k48 u51) k), .ref (a_s (5 + k))]))) rfl rfl rfl rfl k59 hk59) rfl 1 (Nat.le_of_ble_eq_true rfl) fl_206 rfl rfl dX6_sheet_60 ?_
        exact rx_retUi (u := (s_o, (sSet s_s k48 u51))) (w1 := (fun u : (Nat → Int32) × SHS => (wGO a_g a_h a_q a_k a_p a_x a_s s_g ++ (wGT cI a_g u.1 ++ (wSH cJ cQ a_s u.2))))) hx hb hr hlocks hd hK hP hD hS dX6_sheet_63
      refine lv_aload_n hx hb dX6_sheet_37 rfl (lv_at hl 0 rfl) ?_
      refine lv_iconst (v := 0) hx hb dX6_sheet_38 ki_0 ?_
      refine rx_upi (fun u => (wGO a_g a_h a_q a_k a_p a_x a_s s_g ++ (wGT cI a_g u ++ (wSH cJ cQ a_s s_s)))) hd hP hD hS hA ⟨[0, 1], [2, 3, 4, 5, 6, 7, 8, 9, 10], [9, 10, 0, 1, 2, 3, 4, 5, 6, 7, 8], wSH cJ cQ a_s s_s, rfl, rfl, rfl, by decide, rfl, fun _ => rfl⟩ (fun v hv => va_runV (As := [.int (0 : Int32)]) (rest := []) hcf (c_X6_finding l dC dI cI cJ cQ fu a_g a_h a_q a_k a_p a_x a_s _  s_g s_o (0 : Int32) v hv) (cwV 1 hts gX6_sheet_X6_finding rfl rfl rfl cd_X6_finding ⟨(Nat.le_of_ble_eq_true rfl), (Nat.le_of_ble_eq_true rfl)⟩) (cq_U_V (q0 := 0) (ci := 5) hK hP hD [0, 1] rfl rfl rfl rfl) rfl rfl hl.1 rfl (lv_room (Nat.le_of_ble_eq_true rfl)) dX6_sheet_39 ⟨Nat.le_refl _, Nat.le_refl _⟩) (fun u39 hd H locs hP hD hS => ?_)
      exact rx_retUi (u := (u39.2, s_s)) (w1 := (fun u : (Nat → Int32) × SHS => (wGO a_g a_h a_q a_k a_p a_x a_s s_g ++ (wGT cI a_g u.1 ++ (wSH cJ cQ a_s u.2))))) hx hb hr hlocks hd hK hP hD hS dX6_sheet_42
    refine lv_aload_n hx hb dX6_sheet_24 rfl (lv_at hl 0 rfl) ?_
    refine lv_bipush (v := 6) hx hb dX6_sheet_25 kb_6 ?_
    refine rx_upi (fun u => (wGO a_g a_h a_q a_k a_p a_x a_s s_g ++ (wGT cI a_g u ++ (wSH cJ cQ a_s s_s)))) hd hP hD hS hA ⟨[0, 1], [2, 3, 4, 5, 6, 7, 8, 9, 10], [9, 10, 0, 1, 2, 3, 4, 5, 6, 7, 8], wSH cJ cQ a_s s_s, rfl, rfl, rfl, by decide, rfl, fun _ => rfl⟩ (fun v hv => va_runV (As := [.int (6 : Int32)]) (rest := []) hcf (c_X6_finding l dC dI cI cJ cQ fu a_g a_h a_q a_k a_p a_x a_s _  s_g s_o (6 : Int32) v hv) (cwV 1 hts gX6_sheet_X6_finding rfl rfl rfl cd_X6_finding ⟨(Nat.le_of_ble_eq_true rfl), (Nat.le_of_ble_eq_true rfl)⟩) (cq_U_V (q0 := 0) (ci := 5) hK hP hD [0, 1] rfl rfl rfl rfl) rfl rfl hl.1 rfl (lv_room (Nat.le_of_ble_eq_true rfl)) dX6_sheet_27 ⟨Nat.le_refl _, Nat.le_refl _⟩) (fun u27 hd H locs hP hD hS => ?_)
    exact rx_retUi (u := (u27.2, s_s)) (w1 := (fun u : (Nat → Int32) × SHS => (wGO a_g a_h a_q a_k a_p a_x a_s s_g ++ (wGT cI a_g u.1 ++ (wSH cJ cQ a_s u.2))))) hx hb hr hlocks hd hK hP hD hS dX6_sheet_30
  exact b14   s_o s_s hd _ _ _ hP hD hS (lv_sub hl [0] rfl)
theorem fiX6_write_X3 : ∀ w ∈ wsX30, w ∈ wsX6_write := mem_r _ [36, 37, 38] rfl
theorem fiX6_write_X6 : ∀ w ∈ wsX60, w ∈ wsX6_write := mem_r _ [28, 29, 30, 31, 32, 33, 34, 35] rfl
set_option maxHeartbeats 8000000 in
set_option maxRecDepth 100000 in
theorem c_X6_write (l : Launch) (dC : Nat → ClassId) (dI : Nat → Nat → Nat) (cI cJ cQ : ClassId) (fu : Nat) (a_g a_h a_q a_k a_p a_x a_s : Nat → Nat) (sz : Nat) (s_g : Int32) (s_o : (Nat → Int32)) (s_s : SHS) (x1 : Int32) (x2 : Int32) (x3 : Int64) (r : Int64 × (Nat → Int32) × SHS) (hd : fX6_write fu  s_g s_o s_s x1 x2 x3 = some r) : mUl l yX6_write wsX6_write (gRm 2 42) [.ref (a_g 0), .int x1, .int x2, .long x3] (dC, dI) vwCl (gty cI cJ cQ) (wGO a_g a_h a_q a_k a_p a_x a_s s_g ++ (wGT cI a_g s_o ++ (wSH cJ cQ a_s s_s))) sz (fun u : (Nat → Int32) × SHS => (wGO a_g a_h a_q a_k a_p a_x a_s s_g ++ (wGT cI a_g u.1 ++ (wSH cJ cQ a_s u.2)))) r := by
  refine Met.ofW (cc := cX6_write) (maxL := 8) (ret := (some .long)) (by decide) rfl ?_
  intro p e s m args below meth c s₁ B hml hv
  obtain ⟨hav, hsz, hP, hK, hD0⟩ := hv
  subst hsz
  have hD := hD0.self (sz := s.heap.size)
  generalize hAe : va_A (wGO a_g a_h a_q a_k a_p a_x a_s s_g ++ (wGT cI a_g s_o ++ (wSH cJ cQ a_s s_s))) s.heap.size = A at hD ⊢
  have hA : ∀ q : Nat, s.heap.size ≤ q → A q := fun q h => by rw [← hAe]; exact Or.inr h
  have hS : va_S A s.heap s.heap [] := va_S.rf
  have hx := B.exec
  have hb := B.bytes
  have hr := B.returns
  have hts := atoms_spec (ws := wsX6_write) B.pre
  have hown : s.vm.findClass RX6 = some m.cls := findClass_of_methodNamed B.named
  have hlocks := B.notSynchronized
  have hcf : CallFix p m c cX6_write 8 s args wsX6_write RX6 := ⟨hx, hb, hml, hown, hts⟩
  have fl_46 := hts (.fieldLink RX6 46 "BucketGift" "sheets" "[LBucketGift$Sheet;") (List.mem_of_getElem? (i := 1) rfl)
  have fl_206 := hts (.fieldLink RX6 206 "BucketGift$Sheet" "size" "I") (List.mem_of_getElem? (i := 2) rfl)
  have fl_213 := hts (.fieldLink RX6 213 "BucketGift$Sheet" "numbers" "[J") (List.mem_of_getElem? (i := 3) rfl)
  have hg : entryFrame m args 8 = entryFrame m ([.ref (a_g 0), .int x1, .int x2, .long x3] : List Value).toArray 8 := by rw [hav]
  rw [hg, lg_entry_eq]
  have hl := lv_entry ([.ref (a_g 0), .int x1, .int x2, .long x3]) (n := 8) (Nat.le_of_ble_eq_true rfl)
  generalize (lg_sl ([.ref (a_g 0), .int x1, .int x2, .long x3]) ++ List.replicate (8 - (lg_sl ([.ref (a_g 0), .int x1, .int x2, .long x3])).length) Slot.unset).toArray = ls at hl ⊢
  have hl : lv_has ls 8 [(0, .ref (a_g 0)), (1, .int x1), (2, .int x2), (3, .long x3)] := hl
  clear hg
  unfold fX6_write at hd
  refine lv_iload_n hx hb dX6_write_0 rfl (lv_at hl 1 rfl) ?_
  refine rx_roi hd (fun v hv => W.runS (As := [.int x1]) (rest := []) hcf (c_X6_isSheet l dC dI cI cJ cQ fu    x1 v hv) (va_cwS 1 hts gX6_write_X6_isSheet rfl rfl rfl cd_X6_isSheet ⟨(Nat.le_of_ble_eq_true rfl), (Nat.le_of_ble_eq_true rfl)⟩) (cq_R_S hK hP [] rfl) rfl rfl hl.1 rfl (lv_room (Nat.le_of_ble_eq_true rfl)) dX6_write_1 ⟨Nat.le_refl _, Nat.le_refl _⟩) (fun u1 hd => ?_)
  refine rx_if_ne hx hb 14 dX6_write_4 rfl hd (fun hd => ?_) (fun hd => ?_)
  · refine lv_aload_n hx hb dX6_write_14 rfl (lv_at hl 0 rfl) ?_
    refine rx_get hx hb hts fiX6_write_X6 hown hK hP 0 rfl rfl 7 (Nat.le_of_ble_eq_true rfl) fl_46 rfl rfl dX6_write_15 ?_
    refine lv_iload_n hx hb dX6_write_18 rfl (lv_at hl 1 rfl) ?_
    refine rx_aald (b := a_s) hx hb hK hP 2 2 rfl rfl hd dX6_write_19 (fun k19 hk19 hd => ?_)
    refine lv_astore (lv' := [(5, .ref (a_s (1 + k19))), (0, .ref (a_g 0)), (1, .int x1), (2, .int x2), (3, .long x3)]) hx hb dX6_write_20 hl (Nat.le_of_ble_eq_true rfl) rfl (fun ls hl => ?_)
    refine lv_aload hx hb dX6_write_22 (lv_at hl 0 rfl) ?_
    refine rx_roi hd (fun v hv => W.runV (As := []) (rest := []) hcf (c_X3_isMissing l dC dI cI cJ cQ fu (fun j => a_s (1 + 4 * j + k19))  (sGet s_s k19)  v hv) (cwV 0 hts gX6_write_X3_isMissing rfl rfl rfl cd_X3_isMissing ⟨(Nat.le_of_ble_eq_true rfl), (Nat.le_of_ble_eq_true rfl)⟩) (cq_R_V (q0 := (1 + (1 + (1 + k19)))) (ci := 2) hK hP [(1 + (1 + (1 + k19))), (1 + (1 + (5 + k19)))] (g_four (P := fun k => [(1 + (1 + (1 + k))), (1 + (1 + (5 + k)))].map (fun i => (wGO a_g a_h a_q a_k a_p a_x a_s s_g ++ (wGT cI a_g s_o ++ (wSH cJ cQ a_s s_s)))[i]?) = (wS1 cI cJ (fun j => a_s (1 + 4 * j + k)) (sGet s_s k)).map some) rfl rfl rfl rfl k19 hk19) rfl (g_four (P := fun k => (wGO a_g a_h a_q a_k a_p a_x a_s s_g ++ (wGT cI a_g s_o ++ (wSH cJ cQ a_s s_s)))[(1 + (1 + (1 + k)))]? = some (a_s (1 + k), .inr (2, [.int (sgBits s_s k), .int (sgSize s_s k), .ref (a_s (5 + k))]))) rfl rfl rfl rfl k19 hk19)) rfl rfl hl.1 rfl (lv_room (Nat.le_of_ble_eq_true rfl)) dX6_write_24 ⟨Nat.le_refl _, Nat.le_refl _⟩) (fun u24 hd => ?_)
    refine rx_if_eq hx hb 37 dX6_write_27 rfl hd (fun hd => ?_) (fun hd => ?_)
    · refine lv_iload_n hx hb dX6_write_37 rfl (lv_at hl 3 rfl) ?_
      refine lv_iconst (v := 0) hx hb dX6_write_38 ki_0 ?_
      refine lv_aload hx hb dX6_write_39 (lv_at hl 0 rfl) ?_
      refine rx_get hx hb hts fiX6_write_X3 hown hK hP (1 + (1 + (1 + k19))) (g_four (P := fun k => (wGO a_g a_h a_q a_k a_p a_x a_s s_g ++ (wGT cI a_g s_o ++ (wSH cJ cQ a_s s_s)))[(1 + (1 + (1 + k)))]? = some (a_s (1 + k), .inr (2, [.int (sgBits s_s k), .int (sgSize s_s k), .ref (a_s (5 + k))]))) rfl rfl rfl rfl k19 hk19) rfl 1 (Nat.le_of_ble_eq_true rfl) fl_206 rfl rfl dX6_write_41 ?_
      refine lv_iconst (v := 1) hx hb dX6_write_44 ki_1 ?_
      refine lv_isub hx hb dX6_write_45 ?_
      refine rx_roi hd (fun v hv => W.runS (As := [.int x2, .int (0 : Int32), .int ((sgSize s_s k19) - (1 : Int32))]) (rest := []) hcf (c_X6_isWithin l dC dI cI cJ cQ fu    x2 (0 : Int32) ((sgSize s_s k19) - (1 : Int32)) v hv) (va_cwS 3 hts gX6_write_X6_isWithin rfl rfl rfl cd_X6_isWithin ⟨(Nat.le_of_ble_eq_true rfl), (Nat.le_of_ble_eq_true rfl)⟩) (cq_R_S hK hP [] rfl) rfl rfl hl.1 rfl (lv_room (Nat.le_of_ble_eq_true rfl)) dX6_write_46 ⟨Nat.le_refl _, Nat.le_refl _⟩) (fun u46 hd => ?_)
      refine rx_if_ne hx hb 59 dX6_write_49 rfl hd (fun hd => ?_) (fun hd => ?_)
      · refine lv_aload hx hb dX6_write_59 (lv_at hl 0 rfl) ?_
        refine rx_get hx hb hts fiX6_write_X3 hown hK hP (1 + (1 + (1 + k19))) (g_four (P := fun k => (wGO a_g a_h a_q a_k a_p a_x a_s s_g ++ (wGT cI a_g s_o ++ (wSH cJ cQ a_s s_s)))[(1 + (1 + (1 + k)))]? = some (a_s (1 + k), .inr (2, [.int (sgBits s_s k), .int (sgSize s_s k), .ref (a_s (5 + k))]))) rfl rfl rfl rfl k19 hk19) rfl 2 (Nat.le_of_ble_eq_true rfl) fl_213 rfl rfl dX6_write_61 ?_
        refine lv_iload_n hx hb dX6_write_64 rfl (lv_at hl 3 rfl) ?_
        refine rx_lald (f := (sgNumbers s_s k19)) hx hb hK hP (1 + (1 + (5 + k19))) 1 (g_four (P := fun k => (wGO a_g a_h a_q a_k a_p a_x a_s s_g ++ (wGT cI a_g s_o ++ (wSH cJ cQ a_s s_s)))[(1 + (1 + (5 + k)))]? = some (a_s (5 + k), .inl (cJ, 40, .inr (.inl (sgNumbers s_s k))))) rfl rfl rfl rfl k19 hk19) rfl hd dX6_write_65 (fun v65 hd => ?_)
        refine lv_lstore (lv' := [(6, .long v65), (5, .ref (a_s (1 + k19))), (0, .ref (a_g 0)), (1, .int x1), (2, .int x2), (3, .long x3)]) hx hb dX6_write_66 hl (Nat.le_of_ble_eq_true rfl) rfl (fun ls hl => ?_)
        refine lv_aload hx hb dX6_write_68 (lv_at hl 1 rfl) ?_
        refine lv_iload_n hx hb dX6_write_70 rfl (lv_at hl 4 rfl) ?_
        refine lv_lload_n hx hb dX6_write_71 rfl (lv_at hl 5 rfl) ?_
        refine rx_upv (fun u => (wGO a_g a_h a_q a_k a_p a_x a_s s_g ++ (wGT cI a_g s_o ++ (wSH cJ cQ a_s (sSet s_s k19 u))))) hd hP hD hS hA (g_four (P := fun k => cq_J (S := S1S) (wGO a_g a_h a_q a_k a_p a_x a_s s_g ++ (wGT cI a_g s_o ++ (wSH cJ cQ a_s s_s))) (wS1 cI cJ (fun j => a_s (1 + 4 * j + k)) (sGet s_s k)) (fun u => (wS1 cI cJ (fun j => a_s (1 + 4 * j + k)) u)) (fun u => (wGO a_g a_h a_q a_k a_p a_x a_s s_g ++ (wGT cI a_g s_o ++ (wSH cJ cQ a_s (sSet s_s k u)))))) ⟨[3, 7], [0, 1, 2, 4, 5, 6, 8, 9, 10], [0, 1, 2, 9, 3, 4, 5, 10, 6, 7, 8], wGO a_g a_h a_q a_k a_p a_x a_s s_g ++ (wGT cI a_g s_o ++ ([(a_s 0, .inl (cQ, 4, .inr (.inr (.inr (.inr (fun k => some (a_s (1 + k)))))))), (a_s 2, .inr (2, [.int (sgBits s_s 1), .int (sgSize s_s 1), .ref (a_s 6)])), (a_s 3, .inr (2, [.int (sgBits s_s 2), .int (sgSize s_s 2), .ref (a_s 7)])), (a_s 4, .inr (2, [.int (sgBits s_s 3), .int (sgSize s_s 3), .ref (a_s 8)])), (a_s 6, .inl (cJ, 40, .inr (.inl (sgNumbers s_s 1)))), (a_s 7, .inl (cJ, 40, .inr (.inl (sgNumbers s_s 2)))), (a_s 8, .inl (cJ, 40, .inr (.inl (sgNumbers s_s 3))))])), rfl, rfl, rfl, by decide, rfl, fun _ => rfl⟩ ⟨[4, 8], [0, 1, 2, 3, 5, 6, 7, 9, 10], [0, 1, 2, 3, 9, 4, 5, 6, 10, 7, 8], wGO a_g a_h a_q a_k a_p a_x a_s s_g ++ (wGT cI a_g s_o ++ ([(a_s 0, .inl (cQ, 4, .inr (.inr (.inr (.inr (fun k => some (a_s (1 + k)))))))), (a_s 1, .inr (2, [.int (sgBits s_s 0), .int (sgSize s_s 0), .ref (a_s 5)])), (a_s 3, .inr (2, [.int (sgBits s_s 2), .int (sgSize s_s 2), .ref (a_s 7)])), (a_s 4, .inr (2, [.int (sgBits s_s 3), .int (sgSize s_s 3), .ref (a_s 8)])), (a_s 5, .inl (cJ, 40, .inr (.inl (sgNumbers s_s 0)))), (a_s 7, .inl (cJ, 40, .inr (.inl (sgNumbers s_s 2)))), (a_s 8, .inl (cJ, 40, .inr (.inl (sgNumbers s_s 3))))])), rfl, rfl, rfl, by decide, rfl, fun _ => rfl⟩ ⟨[5, 9], [0, 1, 2, 3, 4, 6, 7, 8, 10], [0, 1, 2, 3, 4, 9, 5, 6, 7, 10, 8], wGO a_g a_h a_q a_k a_p a_x a_s s_g ++ (wGT cI a_g s_o ++ ([(a_s 0, .inl (cQ, 4, .inr (.inr (.inr (.inr (fun k => some (a_s (1 + k)))))))), (a_s 1, .inr (2, [.int (sgBits s_s 0), .int (sgSize s_s 0), .ref (a_s 5)])), (a_s 2, .inr (2, [.int (sgBits s_s 1), .int (sgSize s_s 1), .ref (a_s 6)])), (a_s 4, .inr (2, [.int (sgBits s_s 3), .int (sgSize s_s 3), .ref (a_s 8)])), (a_s 5, .inl (cJ, 40, .inr (.inl (sgNumbers s_s 0)))), (a_s 6, .inl (cJ, 40, .inr (.inl (sgNumbers s_s 1)))), (a_s 8, .inl (cJ, 40, .inr (.inl (sgNumbers s_s 3))))])), rfl, rfl, rfl, by decide, rfl, fun _ => rfl⟩ ⟨[6, 10], [0, 1, 2, 3, 4, 5, 7, 8, 9], [0, 1, 2, 3, 4, 5, 9, 6, 7, 8, 10], wGO a_g a_h a_q a_k a_p a_x a_s s_g ++ (wGT cI a_g s_o ++ ([(a_s 0, .inl (cQ, 4, .inr (.inr (.inr (.inr (fun k => some (a_s (1 + k)))))))), (a_s 1, .inr (2, [.int (sgBits s_s 0), .int (sgSize s_s 0), .ref (a_s 5)])), (a_s 2, .inr (2, [.int (sgBits s_s 1), .int (sgSize s_s 1), .ref (a_s 6)])), (a_s 3, .inr (2, [.int (sgBits s_s 2), .int (sgSize s_s 2), .ref (a_s 7)])), (a_s 5, .inl (cJ, 40, .inr (.inl (sgNumbers s_s 0)))), (a_s 6, .inl (cJ, 40, .inr (.inl (sgNumbers s_s 1)))), (a_s 7, .inl (cJ, 40, .inr (.inl (sgNumbers s_s 2))))])), rfl, rfl, rfl, by decide, rfl, fun _ => rfl⟩ k19 hk19) (fun v hv => va_runV (As := [.int x2, .long x3]) (rest := []) hcf (c_X3_put l dC dI cI cJ cQ fu (fun j => a_s (1 + 4 * j + k19)) _  (sGet s_s k19) x2 x3 v hv) (cwV 2 hts gX6_write_X3_put rfl rfl rfl cd_X3_put ⟨(Nat.le_of_ble_eq_true rfl), (Nat.le_of_ble_eq_true rfl)⟩) (cq_U_V (q0 := (1 + (1 + (1 + k19)))) (ci := 2) hK hP hD [(1 + (1 + (1 + k19))), (1 + (1 + (5 + k19)))] (g_four (P := fun k => va_nd [(1 + (1 + (1 + k))), (1 + (1 + (5 + k)))] = true) rfl rfl rfl rfl k19 hk19) (g_four (P := fun k => [(1 + (1 + (1 + k))), (1 + (1 + (5 + k)))].map (fun i => (wGO a_g a_h a_q a_k a_p a_x a_s s_g ++ (wGT cI a_g s_o ++ (wSH cJ cQ a_s s_s)))[i]?) = (wS1 cI cJ (fun j => a_s (1 + 4 * j + k)) (sGet s_s k)).map some) rfl rfl rfl rfl k19 hk19) rfl (g_four (P := fun k => (wGO a_g a_h a_q a_k a_p a_x a_s s_g ++ (wGT cI a_g s_o ++ (wSH cJ cQ a_s s_s)))[(1 + (1 + (1 + k)))]? = some (a_s (1 + k), .inr (2, [.int (sgBits s_s k), .int (sgSize s_s k), .ref (a_s (5 + k))]))) rfl rfl rfl rfl k19 hk19)) rfl rfl hl.1 rfl (lv_room (Nat.le_of_ble_eq_true rfl)) dX6_write_72 ⟨Nat.le_refl _, Nat.le_refl _⟩) (fun u72 hd H locs hP hD hS => ?_)
        refine lv_lload hx hb dX6_write_75 (lv_at hl 0 rfl) ?_
        exact rx_retUl (u := (s_o, (sSet s_s k19 u72))) (w1 := (fun u : (Nat → Int32) × SHS => (wGO a_g a_h a_q a_k a_p a_x a_s s_g ++ (wGT cI a_g u.1 ++ (wSH cJ cQ a_s u.2))))) hx hb hr hlocks hd hK hP hD hS dX6_write_77
      refine lv_aload_n hx hb dX6_write_52 rfl (lv_at hl 1 rfl) ?_
      refine lv_iconst (v := 0) hx hb dX6_write_53 ki_0 ?_
      refine rx_upi (fun u => (wGO a_g a_h a_q a_k a_p a_x a_s s_g ++ (wGT cI a_g u ++ (wSH cJ cQ a_s s_s)))) hd hP hD hS hA ⟨[0, 1], [2, 3, 4, 5, 6, 7, 8, 9, 10], [9, 10, 0, 1, 2, 3, 4, 5, 6, 7, 8], wSH cJ cQ a_s s_s, rfl, rfl, rfl, by decide, rfl, fun _ => rfl⟩ (fun v hv => va_runV (As := [.int (0 : Int32)]) (rest := []) hcf (c_X6_finding l dC dI cI cJ cQ fu a_g a_h a_q a_k a_p a_x a_s _  s_g s_o (0 : Int32) v hv) (cwV 1 hts gX6_write_X6_finding rfl rfl rfl cd_X6_finding ⟨(Nat.le_of_ble_eq_true rfl), (Nat.le_of_ble_eq_true rfl)⟩) (cq_U_V (q0 := 0) (ci := 5) hK hP hD [0, 1] rfl rfl rfl rfl) rfl rfl hl.1 rfl (lv_room (Nat.le_of_ble_eq_true rfl)) dX6_write_54 ⟨Nat.le_refl _, Nat.le_refl _⟩) (fun u54 hd H locs hP hD hS => ?_)
      refine lv_i2l hx hb dX6_write_57 rfl ?_
      exact rx_retUl (u := (u54.2, s_s)) (w1 := (fun u : (Nat → Int32) × SHS => (wGO a_g a_h a_q a_k a_p a_x a_s s_g ++ (wGT cI a_g u.1 ++ (wSH cJ cQ a_s u.2))))) hx hb hr hlocks hd hK hP hD hS dX6_write_58
    refine lv_aload_n hx hb dX6_write_30 rfl (lv_at hl 1 rfl) ?_
    refine lv_iconst (v := 5) hx hb dX6_write_31 ki_5 ?_
    refine rx_upi (fun u => (wGO a_g a_h a_q a_k a_p a_x a_s s_g ++ (wGT cI a_g u ++ (wSH cJ cQ a_s s_s)))) hd hP hD hS hA ⟨[0, 1], [2, 3, 4, 5, 6, 7, 8, 9, 10], [9, 10, 0, 1, 2, 3, 4, 5, 6, 7, 8], wSH cJ cQ a_s s_s, rfl, rfl, rfl, by decide, rfl, fun _ => rfl⟩ (fun v hv => va_runV (As := [.int (5 : Int32)]) (rest := []) hcf (c_X6_finding l dC dI cI cJ cQ fu a_g a_h a_q a_k a_p a_x a_s _  s_g s_o (5 : Int32) v hv) (cwV 1 hts gX6_write_X6_finding rfl rfl rfl cd_X6_finding ⟨(Nat.le_of_ble_eq_true rfl), (Nat.le_of_ble_eq_true rfl)⟩) (cq_U_V (q0 := 0) (ci := 5) hK hP hD [0, 1] rfl rfl rfl rfl) rfl rfl hl.1 rfl (lv_room (Nat.le_of_ble_eq_true rfl)) dX6_write_32 ⟨Nat.le_refl _, Nat.le_refl _⟩) (fun u32 hd H locs hP hD hS => ?_)
    refine lv_i2l hx hb dX6_write_35 rfl ?_
    exact rx_retUl (u := (u32.2, s_s)) (w1 := (fun u : (Nat → Int32) × SHS => (wGO a_g a_h a_q a_k a_p a_x a_s s_g ++ (wGT cI a_g u.1 ++ (wSH cJ cQ a_s u.2))))) hx hb hr hlocks hd hK hP hD hS dX6_write_36
  refine lv_aload_n hx hb dX6_write_7 rfl (lv_at hl 0 rfl) ?_
  refine lv_iconst (v := 0) hx hb dX6_write_8 ki_0 ?_
  refine rx_upi (fun u => (wGO a_g a_h a_q a_k a_p a_x a_s s_g ++ (wGT cI a_g u ++ (wSH cJ cQ a_s s_s)))) hd hP hD hS hA ⟨[0, 1], [2, 3, 4, 5, 6, 7, 8, 9, 10], [9, 10, 0, 1, 2, 3, 4, 5, 6, 7, 8], wSH cJ cQ a_s s_s, rfl, rfl, rfl, by decide, rfl, fun _ => rfl⟩ (fun v hv => va_runV (As := [.int (0 : Int32)]) (rest := []) hcf (c_X6_finding l dC dI cI cJ cQ fu a_g a_h a_q a_k a_p a_x a_s _  s_g s_o (0 : Int32) v hv) (cwV 1 hts gX6_write_X6_finding rfl rfl rfl cd_X6_finding ⟨(Nat.le_of_ble_eq_true rfl), (Nat.le_of_ble_eq_true rfl)⟩) (cq_U_V (q0 := 0) (ci := 5) hK hP hD [0, 1] rfl rfl rfl rfl) rfl rfl hl.1 rfl (lv_room (Nat.le_of_ble_eq_true rfl)) dX6_write_9 ⟨Nat.le_refl _, Nat.le_refl _⟩) (fun u9 hd H locs hP hD hS => ?_)
  refine lv_i2l hx hb dX6_write_12 rfl ?_
  exact rx_retUl (u := (u9.2, s_s)) (w1 := (fun u : (Nat → Int32) × SHS => (wGO a_g a_h a_q a_k a_p a_x a_s s_g ++ (wGT cI a_g u.1 ++ (wSH cJ cQ a_s u.2))))) hx hb hr hlocks hd hK hP hD hS dX6_write_13
theorem fiX6_copy_X3 : ∀ w ∈ wsX30, w ∈ wsX6_copy := mem_r _ [40, 41, 42] rfl
theorem fiX6_copy_X6 : ∀ w ∈ wsX60, w ∈ wsX6_copy := mem_r _ [32, 33, 34, 35, 36, 37, 38, 39] rfl
set_option maxHeartbeats 8000000 in
set_option maxRecDepth 100000 in
theorem c_X6_copy (l : Launch) (dC : Nat → ClassId) (dI : Nat → Nat → Nat) (cI cJ cQ : ClassId) (fu : Nat) (a_g a_h a_q a_k a_p a_x a_s : Nat → Nat) (sz : Nat) (s_g : Int32) (s_o : (Nat → Int32)) (s_s : SHS) (x1 : Int32) (x2 : Int32) (x3 : Int32) (x4 : Int32) (x5 : Int32) (r : Int32 × (Nat → Int32) × SHS) (hd : fX6_copy fu  s_g s_o s_s x1 x2 x3 x4 x5 = some r) : mUi l yX6_copy wsX6_copy (gRm 2 42) [.ref (a_g 0), .int x1, .int x2, .int x3, .int x4, .int x5] (dC, dI) vwCl (gty cI cJ cQ) (wGO a_g a_h a_q a_k a_p a_x a_s s_g ++ (wGT cI a_g s_o ++ (wSH cJ cQ a_s s_s))) sz (fun u : (Nat → Int32) × SHS => (wGO a_g a_h a_q a_k a_p a_x a_s s_g ++ (wGT cI a_g u.1 ++ (wSH cJ cQ a_s u.2)))) r := by
  refine Met.ofW (cc := cX6_copy) (maxL := 8) (ret := (some .int)) (by decide) rfl ?_
  intro p e s m args below meth c s₁ B hml hv
  obtain ⟨hav, hsz, hP, hK, hD0⟩ := hv
  subst hsz
  have hD := hD0.self (sz := s.heap.size)
  generalize hAe : va_A (wGO a_g a_h a_q a_k a_p a_x a_s s_g ++ (wGT cI a_g s_o ++ (wSH cJ cQ a_s s_s))) s.heap.size = A at hD ⊢
  have hA : ∀ q : Nat, s.heap.size ≤ q → A q := fun q h => by rw [← hAe]; exact Or.inr h
  have hS : va_S A s.heap s.heap [] := va_S.rf
  have hx := B.exec
  have hb := B.bytes
  have hr := B.returns
  have hts := atoms_spec (ws := wsX6_copy) B.pre
  have hown : s.vm.findClass RX6 = some m.cls := findClass_of_methodNamed B.named
  have hlocks := B.notSynchronized
  have hcf : CallFix p m c cX6_copy 8 s args wsX6_copy RX6 := ⟨hx, hb, hml, hown, hts⟩
  have fl_46 := hts (.fieldLink RX6 46 "BucketGift" "sheets" "[LBucketGift$Sheet;") (List.mem_of_getElem? (i := 1) rfl)
  have fl_221 := hts (.fieldLink RX6 221 "BucketGift$Sheet" "bits" "I") (List.mem_of_getElem? (i := 2) rfl)
  have fl_213 := hts (.fieldLink RX6 213 "BucketGift$Sheet" "numbers" "[J") (List.mem_of_getElem? (i := 3) rfl)
  have hg : entryFrame m args 8 = entryFrame m ([.ref (a_g 0), .int x1, .int x2, .int x3, .int x4, .int x5] : List Value).toArray 8 := by rw [hav]
  rw [hg, lg_entry_eq]
  have hl := lv_entry ([.ref (a_g 0), .int x1, .int x2, .int x3, .int x4, .int x5]) (n := 8) (Nat.le_of_ble_eq_true rfl)
  generalize (lg_sl ([.ref (a_g 0), .int x1, .int x2, .int x3, .int x4, .int x5]) ++ List.replicate (8 - (lg_sl ([.ref (a_g 0), .int x1, .int x2, .int x3, .int x4, .int x5])).length) Slot.unset).toArray = ls at hl ⊢
  have hl : lv_has ls 8 [(0, .ref (a_g 0)), (1, .int x1), (2, .int x2), (3, .int x3), (4, .int x4), (5, .int x5)] := hl
  clear hg
  unfold fX6_copy at hd
  have b14 : ∀ (s_o : (Nat → Int32)) (s_s : SHS), fX6_copy_b14 fu s_g   s_o s_s = some r → bk_U p l e (headSpec wsX6_copy (gRm 2 42)).room s m args below meth c (qUi below args s (dC, dI) vwCl (gty cI cJ cQ) A (fun u : (Nat → Int32) × SHS => (wGO a_g a_h a_q a_k a_p a_x a_s s_g ++ (wGT cI a_g u.1 ++ (wSH cJ cQ a_s u.2)))) r) (dC, dI) vwCl A 8 (wGO a_g a_h a_q a_k a_p a_x a_s s_g ++ (wGT cI a_g s_o ++ (wSH cJ cQ a_s s_s))) 14 [(0, .ref (a_g 0))] [] := by
    intro s_o s_s hd
    intro H locs ls hP hD hS hl
    unfold fX6_copy_b14 at hd
    refine lv_aload_n hx hb dX6_copy_14 rfl (lv_at hl 0 rfl) ?_
    refine lv_iconst (v := 0) hx hb dX6_copy_15 ki_0 ?_
    refine rx_upi (fun u => (wGO a_g a_h a_q a_k a_p a_x a_s s_g ++ (wGT cI a_g u ++ (wSH cJ cQ a_s s_s)))) hd hP hD hS hA ⟨[0, 1], [2, 3, 4, 5, 6, 7, 8, 9, 10], [9, 10, 0, 1, 2, 3, 4, 5, 6, 7, 8], wSH cJ cQ a_s s_s, rfl, rfl, rfl, by decide, rfl, fun _ => rfl⟩ (fun v hv => va_runV (As := [.int (0 : Int32)]) (rest := []) hcf (c_X6_finding l dC dI cI cJ cQ fu a_g a_h a_q a_k a_p a_x a_s _  s_g s_o (0 : Int32) v hv) (cwV 1 hts gX6_copy_X6_finding rfl rfl rfl cd_X6_finding ⟨(Nat.le_of_ble_eq_true rfl), (Nat.le_of_ble_eq_true rfl)⟩) (cq_U_V (q0 := 0) (ci := 5) hK hP hD [0, 1] rfl rfl rfl rfl) rfl rfl hl.1 rfl (lv_room (Nat.le_of_ble_eq_true rfl)) dX6_copy_16 ⟨Nat.le_refl _, Nat.le_refl _⟩) (fun u16 hd H locs hP hD hS => ?_)
    exact rx_retUi (u := (u16.2, s_s)) (w1 := (fun u : (Nat → Int32) × SHS => (wGO a_g a_h a_q a_k a_p a_x a_s s_g ++ (wGT cI a_g u.1 ++ (wSH cJ cQ a_s u.2))))) hx hb hr hlocks hd hK hP hD hS dX6_copy_19
  have b52 : ∀ (s_o : (Nat → Int32)) (s_s : SHS), fX6_copy_b52 fu s_g   s_o s_s = some r → bk_U p l e (headSpec wsX6_copy (gRm 2 42)).room s m args below meth c (qUi below args s (dC, dI) vwCl (gty cI cJ cQ) A (fun u : (Nat → Int32) × SHS => (wGO a_g a_h a_q a_k a_p a_x a_s s_g ++ (wGT cI a_g u.1 ++ (wSH cJ cQ a_s u.2)))) r) (dC, dI) vwCl A 8 (wGO a_g a_h a_q a_k a_p a_x a_s s_g ++ (wGT cI a_g s_o ++ (wSH cJ cQ a_s s_s))) 52 [(0, .ref (a_g 0))] [] := by
    intro s_o s_s hd
    intro H locs ls hP hD hS hl
    unfold fX6_copy_b52 at hd
    refine lv_aload_n hx hb dX6_copy_52 rfl (lv_at hl 0 rfl) ?_
    refine lv_iconst (v := 5) hx hb dX6_copy_53 ki_5 ?_
    refine rx_upi (fun u => (wGO a_g a_h a_q a_k a_p a_x a_s s_g ++ (wGT cI a_g u ++ (wSH cJ cQ a_s s_s)))) hd hP hD hS hA ⟨[0, 1], [2, 3, 4, 5, 6, 7, 8, 9, 10], [9, 10, 0, 1, 2, 3, 4, 5, 6, 7, 8], wSH cJ cQ a_s s_s, rfl, rfl, rfl, by decide, rfl, fun _ => rfl⟩ (fun v hv => va_runV (As := [.int (5 : Int32)]) (rest := []) hcf (c_X6_finding l dC dI cI cJ cQ fu a_g a_h a_q a_k a_p a_x a_s _  s_g s_o (5 : Int32) v hv) (cwV 1 hts gX6_copy_X6_finding rfl rfl rfl cd_X6_finding ⟨(Nat.le_of_ble_eq_true rfl), (Nat.le_of_ble_eq_true rfl)⟩) (cq_U_V (q0 := 0) (ci := 5) hK hP hD [0, 1] rfl rfl rfl rfl) rfl rfl hl.1 rfl (lv_room (Nat.le_of_ble_eq_true rfl)) dX6_copy_54 ⟨Nat.le_refl _, Nat.le_refl _⟩) (fun u54 hd H locs hP hD hS => ?_)
    exact rx_retUi (u := (u54.2, s_s)) (w1 := (fun u : (Nat → Int32) × SHS => (wGO a_g a_h a_q a_k a_p a_x a_s s_g ++ (wGT cI a_g u.1 ++ (wSH cJ cQ a_s u.2))))) hx hb hr hlocks hd hK hP hD hS dX6_copy_57
  have b100 : ∀ (s_o : (Nat → Int32)) (s_s : SHS), fX6_copy_b100 fu s_g   s_o s_s = some r → bk_U p l e (headSpec wsX6_copy (gRm 2 42)).room s m args below meth c (qUi below args s (dC, dI) vwCl (gty cI cJ cQ) A (fun u : (Nat → Int32) × SHS => (wGO a_g a_h a_q a_k a_p a_x a_s s_g ++ (wGT cI a_g u.1 ++ (wSH cJ cQ a_s u.2)))) r) (dC, dI) vwCl A 8 (wGO a_g a_h a_q a_k a_p a_x a_s s_g ++ (wGT cI a_g s_o ++ (wSH cJ cQ a_s s_s))) 100 [(0, .ref (a_g 0))] [] := by
    intro s_o s_s hd
    intro H locs ls hP hD hS hl
    unfold fX6_copy_b100 at hd
    refine lv_aload_n hx hb dX6_copy_100 rfl (lv_at hl 0 rfl) ?_
    refine lv_iconst (v := 0) hx hb dX6_copy_101 ki_0 ?_
    refine rx_upi (fun u => (wGO a_g a_h a_q a_k a_p a_x a_s s_g ++ (wGT cI a_g u ++ (wSH cJ cQ a_s s_s)))) hd hP hD hS hA ⟨[0, 1], [2, 3, 4, 5, 6, 7, 8, 9, 10], [9, 10, 0, 1, 2, 3, 4, 5, 6, 7, 8], wSH cJ cQ a_s s_s, rfl, rfl, rfl, by decide, rfl, fun _ => rfl⟩ (fun v hv => va_runV (As := [.int (0 : Int32)]) (rest := []) hcf (c_X6_finding l dC dI cI cJ cQ fu a_g a_h a_q a_k a_p a_x a_s _  s_g s_o (0 : Int32) v hv) (cwV 1 hts gX6_copy_X6_finding rfl rfl rfl cd_X6_finding ⟨(Nat.le_of_ble_eq_true rfl), (Nat.le_of_ble_eq_true rfl)⟩) (cq_U_V (q0 := 0) (ci := 5) hK hP hD [0, 1] rfl rfl rfl rfl) rfl rfl hl.1 rfl (lv_room (Nat.le_of_ble_eq_true rfl)) dX6_copy_102 ⟨Nat.le_refl _, Nat.le_refl _⟩) (fun u102 hd H locs hP hD hS => ?_)
    exact rx_retUi (u := (u102.2, s_s)) (w1 := (fun u : (Nat → Int32) × SHS => (wGO a_g a_h a_q a_k a_p a_x a_s s_g ++ (wGT cI a_g u.1 ++ (wSH cJ cQ a_s u.2))))) hx hb hr hlocks hd hK hP hD hS dX6_copy_105
  refine lv_iload_n hx hb dX6_copy_0 rfl (lv_at hl 1 rfl) ?_
  refine rx_roi hd (fun v hv => W.runS (As := [.int x1]) (rest := []) hcf (c_X6_isSheet l dC dI cI cJ cQ fu    x1 v hv) (va_cwS 1 hts gX6_copy_X6_isSheet rfl rfl rfl cd_X6_isSheet ⟨(Nat.le_of_ble_eq_true rfl), (Nat.le_of_ble_eq_true rfl)⟩) (cq_R_S hK hP [] rfl) rfl rfl hl.1 rfl (lv_room (Nat.le_of_ble_eq_true rfl)) dX6_copy_1 ⟨Nat.le_refl _, Nat.le_refl _⟩) (fun u1 hd => ?_)
  refine rx_if_eq hx hb 14 dX6_copy_4 rfl hd (fun hd => ?_) (fun hd => ?_)
  · exact b14   s_o s_s hd _ _ _ hP hD hS (lv_sub hl [0] rfl)
  refine lv_iload_n hx hb dX6_copy_7 rfl (lv_at hl 3 rfl) ?_
  refine rx_roi hd (fun v hv => W.runS (As := [.int x3]) (rest := []) hcf (c_X6_isSheet l dC dI cI cJ cQ fu    x3 v hv) (va_cwS 1 hts gX6_copy_X6_isSheet rfl rfl rfl cd_X6_isSheet ⟨(Nat.le_of_ble_eq_true rfl), (Nat.le_of_ble_eq_true rfl)⟩) (cq_R_S hK hP [] rfl) rfl rfl hl.1 rfl (lv_room (Nat.le_of_ble_eq_true rfl)) dX6_copy_8 ⟨Nat.le_refl _, Nat.le_refl _⟩) (fun u8 hd => ?_)
  refine rx_if_ne hx hb 20 dX6_copy_11 rfl hd (fun hd => ?_) (fun hd => ?_)
  · refine lv_aload_n hx hb dX6_copy_20 rfl (lv_at hl 0 rfl) ?_
    refine rx_get hx hb hts fiX6_copy_X6 hown hK hP 0 rfl rfl 7 (Nat.le_of_ble_eq_true rfl) fl_46 rfl rfl dX6_copy_21 ?_
    refine lv_iload_n hx hb dX6_copy_24 rfl (lv_at hl 1 rfl) ?_
    refine rx_aald (b := a_s) hx hb hK hP 2 2 rfl rfl hd dX6_copy_25 (fun k25 hk25 hd => ?_)
    refine lv_astore (lv' := [(6, .ref (a_s (1 + k25))), (0, .ref (a_g 0)), (1, .int x1), (2, .int x2), (3, .int x3), (4, .int x4), (5, .int x5)]) hx hb dX6_copy_26 hl (Nat.le_of_ble_eq_true rfl) rfl (fun ls hl => ?_)
    refine lv_aload_n hx hb dX6_copy_28 rfl (lv_at hl 1 rfl) ?_
    refine rx_get hx hb hts fiX6_copy_X6 hown hK hP 0 rfl rfl 7 (Nat.le_of_ble_eq_true rfl) fl_46 rfl rfl dX6_copy_29 ?_
    refine lv_iload_n hx hb dX6_copy_32 rfl (lv_at hl 4 rfl) ?_
    refine rx_aald (b := a_s) hx hb hK hP 2 2 rfl rfl hd dX6_copy_33 (fun k33 hk33 hd => ?_)
    refine lv_astore (lv' := [(7, .ref (a_s (1 + k33))), (6, .ref (a_s (1 + k25))), (0, .ref (a_g 0)), (1, .int x1), (2, .int x2), (3, .int x3), (4, .int x4), (5, .int x5)]) hx hb dX6_copy_34 hl (Nat.le_of_ble_eq_true rfl) rfl (fun ls hl => ?_)
    refine lv_aload hx hb dX6_copy_36 (lv_at hl 1 rfl) ?_
    refine rx_roi hd (fun v hv => W.runV (As := []) (rest := []) hcf (c_X3_isMissing l dC dI cI cJ cQ fu (fun j => a_s (1 + 4 * j + k25))  (sGet s_s k25)  v hv) (cwV 0 hts gX6_copy_X3_isMissing rfl rfl rfl cd_X3_isMissing ⟨(Nat.le_of_ble_eq_true rfl), (Nat.le_of_ble_eq_true rfl)⟩) (cq_R_V (q0 := (1 + (1 + (1 + k25)))) (ci := 2) hK hP [(1 + (1 + (1 + k25))), (1 + (1 + (5 + k25)))] (g_four (P := fun k => [(1 + (1 + (1 + k))), (1 + (1 + (5 + k)))].map (fun i => (wGO a_g a_h a_q a_k a_p a_x a_s s_g ++ (wGT cI a_g s_o ++ (wSH cJ cQ a_s s_s)))[i]?) = (wS1 cI cJ (fun j => a_s (1 + 4 * j + k)) (sGet s_s k)).map some) rfl rfl rfl rfl k25 hk25) rfl (g_four (P := fun k => (wGO a_g a_h a_q a_k a_p a_x a_s s_g ++ (wGT cI a_g s_o ++ (wSH cJ cQ a_s s_s)))[(1 + (1 + (1 + k)))]? = some (a_s (1 + k), .inr (2, [.int (sgBits s_s k), .int (sgSize s_s k), .ref (a_s (5 + k))]))) rfl rfl rfl rfl k25 hk25)) rfl rfl hl.1 rfl (lv_room (Nat.le_of_ble_eq_true rfl)) dX6_copy_38 ⟨Nat.le_refl _, Nat.le_refl _⟩) (fun u38 hd => ?_)
    refine rx_if_ne hx hb 52 dX6_copy_41 rfl hd (fun hd => ?_) (fun hd => ?_)
    · exact b52   s_o s_s hd _ _ _ hP hD hS (lv_sub hl [2] rfl)
    refine lv_aload hx hb dX6_copy_44 (lv_at hl 0 rfl) ?_
    refine rx_roi hd (fun v hv => W.runV (As := []) (rest := []) hcf (c_X3_isMissing l dC dI cI cJ cQ fu (fun j => a_s (1 + 4 * j + k33))  (sGet s_s k33)  v hv) (cwV 0 hts gX6_copy_X3_isMissing rfl rfl rfl cd_X3_isMissing ⟨(Nat.le_of_ble_eq_true rfl), (Nat.le_of_ble_eq_true rfl)⟩) (cq_R_V (q0 := (1 + (1 + (1 + k33)))) (ci := 2) hK hP [(1 + (1 + (1 + k33))), (1 + (1 + (5 + k33)))] (g_four (P := fun k => [(1 + (1 + (1 + k))), (1 + (1 + (5 + k)))].map (fun i => (wGO a_g a_h a_q a_k a_p a_x a_s s_g ++ (wGT cI a_g s_o ++ (wSH cJ cQ a_s s_s)))[i]?) = (wS1 cI cJ (fun j => a_s (1 + 4 * j + k)) (sGet s_s k)).map some) rfl rfl rfl rfl k33 hk33) rfl (g_four (P := fun k => (wGO a_g a_h a_q a_k a_p a_x a_s s_g ++ (wGT cI a_g s_o ++ (wSH cJ cQ a_s s_s)))[(1 + (1 + (1 + k)))]? = some (a_s (1 + k), .inr (2, [.int (sgBits s_s k), .int (sgSize s_s k), .ref (a_s (5 + k))]))) rfl rfl rfl rfl k33 hk33)) rfl rfl hl.1 rfl (lv_room (Nat.le_of_ble_eq_true rfl)) dX6_copy_46 ⟨Nat.le_refl _, Nat.le_refl _⟩) (fun u46 hd => ?_)
    refine rx_if_eq hx hb 58 dX6_copy_49 rfl hd (fun hd => ?_) (fun hd => ?_)
    · refine lv_aload hx hb dX6_copy_58 (lv_at hl 1 rfl) ?_
      refine rx_get hx hb hts fiX6_copy_X3 hown hK hP (1 + (1 + (1 + k25))) (g_four (P := fun k => (wGO a_g a_h a_q a_k a_p a_x a_s s_g ++ (wGT cI a_g s_o ++ (wSH cJ cQ a_s s_s)))[(1 + (1 + (1 + k)))]? = some (a_s (1 + k), .inr (2, [.int (sgBits s_s k), .int (sgSize s_s k), .ref (a_s (5 + k))]))) rfl rfl rfl rfl k25 hk25) rfl 0 (Nat.le_of_ble_eq_true rfl) fl_221 rfl rfl dX6_copy_60 ?_
      refine lv_aload hx hb dX6_copy_63 (lv_at hl 0 rfl) ?_
      refine rx_get hx hb hts fiX6_copy_X3 hown hK hP (1 + (1 + (1 + k33))) (g_four (P := fun k => (wGO a_g a_h a_q a_k a_p a_x a_s s_g ++ (wGT cI a_g s_o ++ (wSH cJ cQ a_s s_s)))[(1 + (1 + (1 + k)))]? = some (a_s (1 + k), .inr (2, [.int (sgBits s_s k), .int (sgSize s_s k), .ref (a_s (5 + k))]))) rfl rfl rfl rfl k33 hk33) rfl 0 (Nat.le_of_ble_eq_true rfl) fl_221 rfl rfl dX6_copy_65 ?_
      refine rx_icmp_eq hx hb 77 dX6_copy_68 rfl hd (fun hd => ?_) (fun hd => ?_)
      · refine lv_aload hx hb dX6_copy_77 (lv_at hl 1 rfl) ?_
        refine lv_iload_n hx hb dX6_copy_79 rfl (lv_at hl 4 rfl) ?_
        refine lv_iload hx hb dX6_copy_80 (lv_at hl 7 rfl) ?_
        refine rx_roi hd (fun v hv => W.runV (As := [.int x2, .int x5]) (rest := []) hcf (c_X3_hasSpan l dC dI cI cJ cQ fu (fun j => a_s (1 + 4 * j + k25))  (sGet s_s k25) x2 x5 v hv) (cwV 2 hts gX6_copy_X3_hasSpan rfl rfl rfl cd_X3_hasSpan ⟨(Nat.le_of_ble_eq_true rfl), (Nat.le_of_ble_eq_true rfl)⟩) (cq_R_V (q0 := (1 + (1 + (1 + k25)))) (ci := 2) hK hP [(1 + (1 + (1 + k25))), (1 + (1 + (5 + k25)))] (g_four (P := fun k => [(1 + (1 + (1 + k))), (1 + (1 + (5 + k)))].map (fun i => (wGO a_g a_h a_q a_k a_p a_x a_s s_g ++ (wGT cI a_g s_o ++ (wSH cJ cQ a_s s_s)))[i]?) = (wS1 cI cJ (fun j => a_s (1 + 4 * j + k)) (sGet s_s k)).map some) rfl rfl rfl rfl k25 hk25) rfl (g_four (P := fun k => (wGO a_g a_h a_q a_k a_p a_x a_s s_g ++ (wGT cI a_g s_o ++ (wSH cJ cQ a_s s_s)))[(1 + (1 + (1 + k)))]? = some (a_s (1 + k), .inr (2, [.int (sgBits s_s k), .int (sgSize s_s k), .ref (a_s (5 + k))]))) rfl rfl rfl rfl k25 hk25)) rfl rfl hl.1 rfl (lv_room (Nat.le_of_ble_eq_true rfl)) dX6_copy_82 ⟨Nat.le_refl _, Nat.le_refl _⟩) (fun u82 hd => ?_)
        refine rx_if_eq hx hb 100 dX6_copy_85 rfl hd (fun hd => ?_) (fun hd => ?_)
        · exact b100   s_o s_s hd _ _ _ hP hD hS (lv_sub hl [2] rfl)
        refine lv_aload hx hb dX6_copy_88 (lv_at hl 0 rfl) ?_
        refine lv_iload hx hb dX6_copy_90 (lv_at hl 6 rfl) ?_
        refine lv_iload hx hb dX6_copy_92 (lv_at hl 7 rfl) ?_
        refine rx_roi hd (fun v hv => W.runV (As := [.int x4, .int x5]) (rest := []) hcf (c_X3_hasSpan l dC dI cI cJ cQ fu (fun j => a_s (1 + 4 * j + k33))  (sGet s_s k33) x4 x5 v hv) (cwV 2 hts gX6_copy_X3_hasSpan rfl rfl rfl cd_X3_hasSpan ⟨(Nat.le_of_ble_eq_true rfl), (Nat.le_of_ble_eq_true rfl)⟩) (cq_R_V (q0 := (1 + (1 + (1 + k33)))) (ci := 2) hK hP [(1 + (1 + (1 + k33))), (1 + (1 + (5 + k33)))] (g_four (P := fun k => [(1 + (1 + (1 + k))), (1 + (1 + (5 + k)))].map (fun i => (wGO a_g a_h a_q a_k a_p a_x a_s s_g ++ (wGT cI a_g s_o ++ (wSH cJ cQ a_s s_s)))[i]?) = (wS1 cI cJ (fun j => a_s (1 + 4 * j + k)) (sGet s_s k)).map some) rfl rfl rfl rfl k33 hk33) rfl (g_four (P := fun k => (wGO a_g a_h a_q a_k a_p a_x a_s s_g ++ (wGT cI a_g s_o ++ (wSH cJ cQ a_s s_s)))[(1 + (1 + (1 + k)))]? = some (a_s (1 + k), .inr (2, [.int (sgBits s_s k), .int (sgSize s_s k), .ref (a_s (5 + k))]))) rfl rfl rfl rfl k33 hk33)) rfl rfl hl.1 rfl (lv_room (Nat.le_of_ble_eq_true rfl)) dX6_copy_94 ⟨Nat.le_refl _, Nat.le_refl _⟩) (fun u94 hd => ?_)
        refine rx_if_ne hx hb 106 dX6_copy_97 rfl hd (fun hd => ?_) (fun hd => ?_)
        · refine lv_aload hx hb dX6_copy_106 (lv_at hl 1 rfl) ?_
          refine rx_get hx hb hts fiX6_copy_X3 hown hK hP (1 + (1 + (1 + k25))) (g_four (P := fun k => (wGO a_g a_h a_q a_k a_p a_x a_s s_g ++ (wGT cI a_g s_o ++ (wSH cJ cQ a_s s_s)))[(1 + (1 + (1 + k)))]? = some (a_s (1 + k), .inr (2, [.int (sgBits s_s k), .int (sgSize s_s k), .ref (a_s (5 + k))]))) rfl rfl rfl rfl k25 hk25) rfl 2 (Nat.le_of_ble_eq_true rfl) fl_213 rfl rfl dX6_copy_108 ?_
          refine lv_iload_n hx hb dX6_copy_111 rfl (lv_at hl 4 rfl) ?_
          refine lv_aload hx hb dX6_copy_112 (lv_at hl 0 rfl) ?_
          refine rx_get hx hb hts fiX6_copy_X3 hown hK hP (1 + (1 + (1 + k33))) (g_four (P := fun k => (wGO a_g a_h a_q a_k a_p a_x a_s s_g ++ (wGT cI a_g s_o ++ (wSH cJ cQ a_s s_s)))[(1 + (1 + (1 + k)))]? = some (a_s (1 + k), .inr (2, [.int (sgBits s_s k), .int (sgSize s_s k), .ref (a_s (5 + k))]))) rfl rfl rfl rfl k33 hk33) rfl 2 (Nat.le_of_ble_eq_true rfl) fl_213 rfl rfl dX6_copy_114 ?_
          refine lv_iload hx hb dX6_copy_117 (lv_at hl 6 rfl) ?_
          refine lv_iload hx hb dX6_copy_119 (lv_at hl 7 rfl) ?_
          refine rx_copyl (wGO a_g a_h a_q a_k a_p a_x a_s s_g ++ (wGT cI a_g s_o ++ (wSH cJ cQ a_s (sSetN s_s k33 (va_cpy (sgNumbers s_s k25) (sgNumbers s_s k33) (Int32.toNatClampNeg x2) (Int32.toNatClampNeg x4) (Int32.toNatClampNeg x5)))))) hx hb (hml.trans hl.1.symm) hown (hts _ (List.mem_of_getElem? (i := 4) rfl)) (hts _ (List.mem_of_getElem? (i := 5) rfl)) (hts _ (List.mem_of_getElem? (i := 6) rfl)) (hts _ (List.mem_of_getElem? (i := 7) rfl)) hK hP hD hS (1 + (1 + (5 + k25))) (1 + (1 + (5 + k33))) 1 (g_four (P := fun k => (wGO a_g a_h a_q a_k a_p a_x a_s s_g ++ (wGT cI a_g s_o ++ (wSH cJ cQ a_s s_s)))[(1 + (1 + (5 + k)))]? = some (a_s (5 + k), .inl (cJ, 40, .inr (.inl (sgNumbers s_s k))))) rfl rfl rfl rfl k25 hk25) (g_four (P := fun k => (wGO a_g a_h a_q a_k a_p a_x a_s s_g ++ (wGT cI a_g s_o ++ (wSH cJ cQ a_s s_s)))[(1 + (1 + (5 + k)))]? = some (a_s (5 + k), .inl (cJ, 40, .inr (.inl (sgNumbers s_s k))))) rfl rfl rfl rfl k33 hk33) rfl hd (g_setR (j := (1 + (5 + k33))) rfl (g_setR (j := (5 + k33)) rfl (wSH_n _ _ _ _ _ _ hk33))) (Nat.le_of_ble_eq_true rfl) (Nat.le_of_ble_eq_true rfl) dX6_copy_121 (fun hd H locs hP hD hS => ?_)
          refine lv_iload hx hb dX6_copy_124 (lv_at hl 7 rfl) ?_
          exact rx_retUi (u := (s_o, (sSetN s_s k33 (va_cpy (sgNumbers s_s k25) (sgNumbers s_s k33) (Int32.toNatClampNeg x2) (Int32.toNatClampNeg x4) (Int32.toNatClampNeg x5))))) (w1 := (fun u : (Nat → Int32) × SHS => (wGO a_g a_h a_q a_k a_p a_x a_s s_g ++ (wGT cI a_g u.1 ++ (wSH cJ cQ a_s u.2))))) hx hb hr hlocks hd hK hP hD hS dX6_copy_126
        exact b100   s_o s_s hd _ _ _ hP hD hS (lv_sub hl [2] rfl)
      refine lv_aload_n hx hb dX6_copy_71 rfl (lv_at hl 2 rfl) ?_
      refine lv_iconst (v := 2) hx hb dX6_copy_72 ki_2 ?_
      refine rx_upi (fun u => (wGO a_g a_h a_q a_k a_p a_x a_s s_g ++ (wGT cI a_g u ++ (wSH cJ cQ a_s s_s)))) hd hP hD hS hA ⟨[0, 1], [2, 3, 4, 5, 6, 7, 8, 9, 10], [9, 10, 0, 1, 2, 3, 4, 5, 6, 7, 8], wSH cJ cQ a_s s_s, rfl, rfl, rfl, by decide, rfl, fun _ => rfl⟩ (fun v hv => va_runV (As := [.int (2 : Int32)]) (rest := []) hcf (c_X6_finding l dC dI cI cJ cQ fu a_g a_h a_q a_k a_p a_x a_s _  s_g s_o (2 : Int32) v hv) (cwV 1 hts gX6_copy_X6_finding rfl rfl rfl cd_X6_finding ⟨(Nat.le_of_ble_eq_true rfl), (Nat.le_of_ble_eq_true rfl)⟩) (cq_U_V (q0 := 0) (ci := 5) hK hP hD [0, 1] rfl rfl rfl rfl) rfl rfl hl.1 rfl (lv_room (Nat.le_of_ble_eq_true rfl)) dX6_copy_73 ⟨Nat.le_refl _, Nat.le_refl _⟩) (fun u73 hd H locs hP hD hS => ?_)
      exact rx_retUi (u := (u73.2, s_s)) (w1 := (fun u : (Nat → Int32) × SHS => (wGO a_g a_h a_q a_k a_p a_x a_s s_g ++ (wGT cI a_g u.1 ++ (wSH cJ cQ a_s u.2))))) hx hb hr hlocks hd hK hP hD hS dX6_copy_76
    exact b52   s_o s_s hd _ _ _ hP hD hS (lv_sub hl [2] rfl)
  exact b14   s_o s_s hd _ _ _ hP hD hS (lv_sub hl [0] rfl)
theorem fiX6_lays_X1 : ∀ w ∈ wsX10, w ∈ wsX6_lays := mem_r _ [38, 39, 40, 41, 42, 43, 44, 45, 46, 47, 48, 49] rfl
theorem fiX6_lays_X3 : ∀ w ∈ wsX30, w ∈ wsX6_lays := mem_r _ [35, 36, 37] rfl
theorem fiX6_lays_X6 : ∀ w ∈ wsX60, w ∈ wsX6_lays := mem_r _ [27, 28, 29, 30, 31, 32, 33, 34] rfl
set_option maxHeartbeats 8000000 in
set_option maxRecDepth 100000 in
theorem c_X6_lays (l : Launch) (dC : Nat → ClassId) (dI : Nat → Nat → Nat) (cI cJ cQ : ClassId) (fu : Nat) (a_g a_h a_q a_k a_p a_x a_s : Nat → Nat) (sz : Nat) (s_g : Int32) (s_o : (Nat → Int32)) (s_h : PS) (s_s : SHS) (x1 : Int32) (r : Int32 × (Nat → Int32) × PS) (hd : fX6_lays fu  s_g s_o s_h s_s x1 = some r) : mUi l yX6_lays wsX6_lays (gRm 2 42) [.ref (a_g 0), .int x1] (dC, dI) vwCl (gty cI cJ cQ) (wGO a_g a_h a_q a_k a_p a_x a_s s_g ++ (wGT cI a_g s_o ++ (wP cI cJ a_h s_h ++ (wSH cJ cQ a_s s_s)))) sz (fun u : (Nat → Int32) × PS => (wGO a_g a_h a_q a_k a_p a_x a_s s_g ++ (wGT cI a_g u.1 ++ (wP cI cJ a_h u.2 ++ (wSH cJ cQ a_s s_s))))) r := by
  refine Met.ofW (cc := cX6_lays) (maxL := 7) (ret := (some .int)) (by decide) rfl ?_
  intro p e s m args below meth c s₁ B hml hv
  obtain ⟨hav, hsz, hP, hK, hD0⟩ := hv
  subst hsz
  have hD := hD0.self (sz := s.heap.size)
  generalize hAe : va_A (wGO a_g a_h a_q a_k a_p a_x a_s s_g ++ (wGT cI a_g s_o ++ (wP cI cJ a_h s_h ++ (wSH cJ cQ a_s s_s)))) s.heap.size = A at hD ⊢
  have hA : ∀ q : Nat, s.heap.size ≤ q → A q := fun q h => by rw [← hAe]; exact Or.inr h
  have hS : va_S A s.heap s.heap [] := va_S.rf
  have hx := B.exec
  have hb := B.bytes
  have hr := B.returns
  have hts := atoms_spec (ws := wsX6_lays) B.pre
  have hown : s.vm.findClass RX6 = some m.cls := findClass_of_methodNamed B.named
  have hlocks := B.notSynchronized
  have hcf : CallFix p m c cX6_lays 7 s args wsX6_lays RX6 := ⟨hx, hb, hml, hown, hts⟩
  have fl_46 := hts (.fieldLink RX6 46 "BucketGift" "sheets" "[LBucketGift$Sheet;") (List.mem_of_getElem? (i := 1) rfl)
  have fl_206 := hts (.fieldLink RX6 206 "BucketGift$Sheet" "size" "I") (List.mem_of_getElem? (i := 2) rfl)
  have fl_16 := hts (.fieldLink RX6 16 "BucketGift" "here" "LBucketGift$Parish;") (List.mem_of_getElem? (i := 3) rfl)
  have fl_84 := hts (.fieldLink RX6 84 "BucketGift$Parish" "people" "I") (List.mem_of_getElem? (i := 4) rfl)
  have fl_213 := hts (.fieldLink RX6 213 "BucketGift$Sheet" "numbers" "[J") (List.mem_of_getElem? (i := 5) rfl)
  have fl_113 := hts (.fieldLink RX6 113 "BucketGift$Parish" "deeds" "[I") (List.mem_of_getElem? (i := 7) rfl)
  have kc_233 := hts (.constantLong RX6 233 (255)) (List.mem_of_getElem? (i := 6) rfl)
  have hg : entryFrame m args 7 = entryFrame m ([.ref (a_g 0), .int x1] : List Value).toArray 7 := by rw [hav]
  rw [hg, lg_entry_eq]
  have hl := lv_entry ([.ref (a_g 0), .int x1]) (n := 7) (Nat.le_of_ble_eq_true rfl)
  generalize (lg_sl ([.ref (a_g 0), .int x1]) ++ List.replicate (7 - (lg_sl ([.ref (a_g 0), .int x1])).length) Slot.unset).toArray = ls at hl ⊢
  have hl : lv_has ls 7 [(0, .ref (a_g 0)), (1, .int x1)] := hl
  clear hg
  unfold fX6_lays at hd
  have b38 : ∀ (q2 : Nat) (hq2 : q2 < 4) (s_o : (Nat → Int32)) (s_h : PS) (x3 : Int32) (x4 : Int32), fX6_lays_b38 fu s_g s_s   q2 s_o s_h x3 x4 = some r → bk_U p l e (headSpec wsX6_lays (gRm 2 42)).room s m args below meth c (qUi below args s (dC, dI) vwCl (gty cI cJ cQ) A (fun u : (Nat → Int32) × PS => (wGO a_g a_h a_q a_k a_p a_x a_s s_g ++ (wGT cI a_g u.1 ++ (wP cI cJ a_h u.2 ++ (wSH cJ cQ a_s s_s))))) r) (dC, dI) vwCl A 7 (wGO a_g a_h a_q a_k a_p a_x a_s s_g ++ (wGT cI a_g s_o ++ (wP cI cJ a_h s_h ++ (wSH cJ cQ a_s s_s)))) 38 [(0, .ref (a_g 0)), (2, .ref (a_s (1 + q2))), (3, .int x3), (4, .int x4)] [] := by
    intro q2 hq2
    have L : ∀ (n : Nat) (s_o : (Nat → Int32)) (s_h : PS) (x3 : Int32) (x4 : Int32), g_lp (fun _ _ _ _ => none) (fX6_lays_b38B fu s_g s_s   q2) n s_o s_h x3 x4 = some r → bk_U p l e (headSpec wsX6_lays (gRm 2 42)).room s m args below meth c (qUi below args s (dC, dI) vwCl (gty cI cJ cQ) A (fun u : (Nat → Int32) × PS => (wGO a_g a_h a_q a_k a_p a_x a_s s_g ++ (wGT cI a_g u.1 ++ (wP cI cJ a_h u.2 ++ (wSH cJ cQ a_s s_s))))) r) (dC, dI) vwCl A 7 (wGO a_g a_h a_q a_k a_p a_x a_s s_g ++ (wGT cI a_g s_o ++ (wP cI cJ a_h s_h ++ (wSH cJ cQ a_s s_s)))) 38 [(0, .ref (a_g 0)), (2, .ref (a_s (1 + q2))), (3, .int x3), (4, .int x4)] [] := by
      intro n
      induction n with
      | zero => intro s_o s_h x3 x4 hd; exact absurd hd (by intro h; cases h)
      | succ n k38 =>
        intro s_o s_h x3 x4 hd
        intro H locs ls hP hD hS hl
        have hd : fX6_lays_b38B fu s_g s_s   q2 (g_lp (fun _ _ _ _ => none) (fX6_lays_b38B fu s_g s_s   q2) n) s_o s_h x3 x4 = some r := hd
        unfold fX6_lays_b38B at hd
        refine lv_iload hx hb dX6_lays_38 (lv_at hl 3 rfl) ?_
        refine lv_aload_n hx hb dX6_lays_40 rfl (lv_at hl 1 rfl) ?_
        refine rx_get hx hb hts fiX6_lays_X3 hown hK hP (1 + (1 + (10 + (1 + q2)))) (g_four (P := fun k => (wGO a_g a_h a_q a_k a_p a_x a_s s_g ++ (wGT cI a_g s_o ++ (wP cI cJ a_h s_h ++ (wSH cJ cQ a_s s_s))))[(1 + (1 + (10 + (1 + k))))]? = some (a_s (1 + k), .inr (2, [.int (sgBits s_s k), .int (sgSize s_s k), .ref (a_s (5 + k))]))) rfl rfl rfl rfl q2 hq2) rfl 1 (Nat.le_of_ble_eq_true rfl) fl_206 rfl rfl dX6_lays_41 ?_
        refine rx_icmp_ge hx hb 106 dX6_lays_44 rfl hd (fun hd => ?_) (fun hd => ?_)
        · refine lv_iload_n hx hb dX6_lays_106 rfl (lv_at hl 2 rfl) ?_
          exact rx_retUi (u := (s_o, s_h)) (w1 := (fun u : (Nat → Int32) × PS => (wGO a_g a_h a_q a_k a_p a_x a_s s_g ++ (wGT cI a_g u.1 ++ (wP cI cJ a_h u.2 ++ (wSH cJ cQ a_s s_s)))))) hx hb hr hlocks hd hK hP hD hS dX6_lays_107
        refine lv_iload hx hb dX6_lays_47 (lv_at hl 3 rfl) ?_
        refine lv_aload_n hx hb dX6_lays_49 rfl (lv_at hl 0 rfl) ?_
        refine rx_get hx hb hts fiX6_lays_X6 hown hK hP 0 rfl rfl 1 (Nat.le_of_ble_eq_true rfl) fl_16 rfl rfl dX6_lays_50 ?_
        refine rx_get hx hb hts fiX6_lays_X1 hown hK hP 2 rfl rfl 7 (Nat.le_of_ble_eq_true rfl) fl_84 rfl rfl dX6_lays_53 ?_
        refine rx_icmp_ge hx hb 106 dX6_lays_56 rfl hd (fun hd => ?_) (fun hd => ?_)
        · refine lv_iload_n hx hb dX6_lays_106 rfl (lv_at hl 2 rfl) ?_
          exact rx_retUi (u := (s_o, s_h)) (w1 := (fun u : (Nat → Int32) × PS => (wGO a_g a_h a_q a_k a_p a_x a_s s_g ++ (wGT cI a_g u.1 ++ (wP cI cJ a_h u.2 ++ (wSH cJ cQ a_s s_s)))))) hx hb hr hlocks hd hK hP hD hS dX6_lays_107
        refine lv_aload_n hx hb dX6_lays_59 rfl (lv_at hl 1 rfl) ?_
        refine rx_get hx hb hts fiX6_lays_X3 hown hK hP (1 + (1 + (10 + (1 + q2)))) (g_four (P := fun k => (wGO a_g a_h a_q a_k a_p a_x a_s s_g ++ (wGT cI a_g s_o ++ (wP cI cJ a_h s_h ++ (wSH cJ cQ a_s s_s))))[(1 + (1 + (10 + (1 + k))))]? = some (a_s (1 + k), .inr (2, [.int (sgBits s_s k), .int (sgSize s_s k), .ref (a_s (5 + k))]))) rfl rfl rfl rfl q2 hq2) rfl 2 (Nat.le_of_ble_eq_true rfl) fl_213 rfl rfl dX6_lays_60 ?_
        refine lv_iload hx hb dX6_lays_63 (lv_at hl 3 rfl) ?_
        refine rx_lald (f := (sgNumbers s_s q2)) hx hb hK hP (1 + (1 + (10 + (5 + q2)))) 1 (g_four (P := fun k => (wGO a_g a_h a_q a_k a_p a_x a_s s_g ++ (wGT cI a_g s_o ++ (wP cI cJ a_h s_h ++ (wSH cJ cQ a_s s_s))))[(1 + (1 + (10 + (5 + k))))]? = some (a_s (5 + k), .inl (cJ, 40, .inr (.inl (sgNumbers s_s k))))) rfl rfl rfl rfl q2 hq2) rfl hd dX6_lays_65 (fun v65 hd => ?_)
        refine lv_lstore (lv' := [(5, .long v65), (0, .ref (a_g 0)), (2, .ref (a_s (1 + q2))), (3, .int x3), (4, .int x4)]) hx hb dX6_lays_66 hl (Nat.le_of_ble_eq_true rfl) rfl (fun ls hl => ?_)
        refine lv_lload hx hb dX6_lays_68 (lv_at hl 0 rfl) ?_
        refine lv_lconst (v := 0) hx hb dX6_lays_70 rfl ?_
        refine W.lcmp hx hb dX6_lays_71 ?_
        refine rx_if_lt hx hb 100 dX6_lays_72 rfl hd (fun hd => ?_) (fun hd => ?_)
        · refine rx_iinc (lv' := fun z => (4, .int z) :: [(5, .long v65), (0, .ref (a_g 0)), (2, .ref (a_s (1 + q2))), (3, .int x3)]) hx hb (j := 4) dX6_lays_100 hl rfl ki_1 hd (Nat.le_of_ble_eq_true rfl) (fun _ => rfl) (fun x4_100 hd ls hl => ?_)
          refine lv_goto (tgt := 38) hx hb dX6_lays_103 rfl ?_
          exact k38 s_o s_h x3 x4_100 hd _ _ _ hP hD hS (lv_sub hl [2, 3, 4, 0] rfl)
        refine lv_lload hx hb dX6_lays_75 (lv_at hl 0 rfl) ?_
        refine lv_ldc2 hx hb hown kc_233 dX6_lays_77 ?_
        refine W.lcmp hx hb dX6_lays_80 ?_
        refine rx_if_gt hx hb 100 dX6_lays_81 rfl hd (fun hd => ?_) (fun hd => ?_)
        · refine rx_iinc (lv' := fun z => (4, .int z) :: [(5, .long v65), (0, .ref (a_g 0)), (2, .ref (a_s (1 + q2))), (3, .int x3)]) hx hb (j := 4) dX6_lays_100 hl rfl ki_1 hd (Nat.le_of_ble_eq_true rfl) (fun _ => rfl) (fun x4_100 hd ls hl => ?_)
          refine lv_goto (tgt := 38) hx hb dX6_lays_103 rfl ?_
          exact k38 s_o s_h x3 x4_100 hd _ _ _ hP hD hS (lv_sub hl [2, 3, 4, 0] rfl)
        refine lv_aload_n hx hb dX6_lays_84 rfl (lv_at hl 1 rfl) ?_
        refine rx_get hx hb hts fiX6_lays_X6 hown hK hP 0 rfl rfl 1 (Nat.le_of_ble_eq_true rfl) fl_16 rfl rfl dX6_lays_85 ?_
        refine rx_get hx hb hts fiX6_lays_X1 hown hK hP 2 rfl rfl 9 (Nat.le_of_ble_eq_true rfl) fl_113 rfl rfl dX6_lays_88 ?_
        refine lv_iload hx hb dX6_lays_91 (lv_at hl 4 rfl) ?_
        refine lv_lload hx hb dX6_lays_93 (lv_at hl 0 rfl) ?_
        refine lv_l2i hx hb dX6_lays_95 rfl ?_
        refine rx_iast (wGO a_g a_h a_q a_k a_p a_x a_s s_g ++ (wGT cI a_g s_o ++ (wP cI cJ a_h (puDeeds s_h (Int32.toNatClampNeg x4) (Int64.toInt32 v65)) ++ (wSH cJ cQ a_s s_s)))) hx hb hK hP hD hS 9 0 rfl rfl hd (g_setR (j := 8) rfl (g_setR (j := 7) rfl (g_setL (Nat.le_of_ble_eq_true rfl) (wP_uDeeds ..)))) dX6_lays_96 (fun hd H locs hP hD hS => ?_)
        refine rx_iinc (lv' := fun z => (3, .int z) :: [(5, .long v65), (0, .ref (a_g 0)), (2, .ref (a_s (1 + q2))), (4, .int x4)]) hx hb (j := 3) dX6_lays_97 hl rfl ki_1 hd (Nat.le_of_ble_eq_true rfl) (fun _ => rfl) (fun x3_97 hd ls hl => ?_)
        refine rx_iinc (lv' := fun z => (4, .int z) :: [(3, .int x3_97), (5, .long v65), (0, .ref (a_g 0)), (2, .ref (a_s (1 + q2)))]) hx hb (j := 4) dX6_lays_100 hl rfl ki_1 hd (Nat.le_of_ble_eq_true rfl) (fun _ => rfl) (fun x4_100 hd ls hl => ?_)
        refine lv_goto (tgt := 38) hx hb dX6_lays_103 rfl ?_
        exact k38 s_o (puDeeds s_h (Int32.toNatClampNeg x4) (Int64.toInt32 v65)) x3_97 x4_100 hd _ _ _ hP hD hS (lv_sub hl [3, 4, 1, 0] rfl)
    exact fun s_o s_h x3 x4 => L fu s_o s_h x3 x4
  refine lv_iload_n hx hb dX6_lays_0 rfl (lv_at hl 1 rfl) ?_
  refine rx_roi hd (fun v hv => W.runS (As := [.int x1]) (rest := []) hcf (c_X6_isSheet l dC dI cI cJ cQ fu    x1 v hv) (va_cwS 1 hts gX6_lays_X6_isSheet rfl rfl rfl cd_X6_isSheet ⟨(Nat.le_of_ble_eq_true rfl), (Nat.le_of_ble_eq_true rfl)⟩) (cq_R_S hK hP [] rfl) rfl rfl hl.1 rfl (lv_room (Nat.le_of_ble_eq_true rfl)) dX6_lays_1 ⟨Nat.le_refl _, Nat.le_refl _⟩) (fun u1 hd => ?_)
  refine rx_if_ne hx hb 13 dX6_lays_4 rfl hd (fun hd => ?_) (fun hd => ?_)
  · refine lv_aload_n hx hb dX6_lays_13 rfl (lv_at hl 0 rfl) ?_
    refine rx_get hx hb hts fiX6_lays_X6 hown hK hP 0 rfl rfl 7 (Nat.le_of_ble_eq_true rfl) fl_46 rfl rfl dX6_lays_14 ?_
    refine lv_iload_n hx hb dX6_lays_17 rfl (lv_at hl 1 rfl) ?_
    refine rx_aald (b := a_s) hx hb hK hP 12 2 rfl rfl hd dX6_lays_18 (fun k18 hk18 hd => ?_)
    refine lv_astore_n (lv' := [(2, .ref (a_s (1 + k18))), (0, .ref (a_g 0)), (1, .int x1)]) hx hb dX6_lays_19 rfl hl (Nat.le_of_ble_eq_true rfl) rfl (fun ls hl => ?_)
    refine lv_aload_n hx hb dX6_lays_20 rfl (lv_at hl 0 rfl) ?_
    refine rx_roi hd (fun v hv => W.runV (As := []) (rest := []) hcf (c_X3_isMissing l dC dI cI cJ cQ fu (fun j => a_s (1 + 4 * j + k18))  (sGet s_s k18)  v hv) (cwV 0 hts gX6_lays_X3_isMissing rfl rfl rfl cd_X3_isMissing ⟨(Nat.le_of_ble_eq_true rfl), (Nat.le_of_ble_eq_true rfl)⟩) (cq_R_V (q0 := (1 + (1 + (10 + (1 + k18))))) (ci := 2) hK hP [(1 + (1 + (10 + (1 + k18)))), (1 + (1 + (10 + (5 + k18))))] (g_four (P := fun k => [(1 + (1 + (10 + (1 + k)))), (1 + (1 + (10 + (5 + k))))].map (fun i => (wGO a_g a_h a_q a_k a_p a_x a_s s_g ++ (wGT cI a_g s_o ++ (wP cI cJ a_h s_h ++ (wSH cJ cQ a_s s_s))))[i]?) = (wS1 cI cJ (fun j => a_s (1 + 4 * j + k)) (sGet s_s k)).map some) rfl rfl rfl rfl k18 hk18) rfl (g_four (P := fun k => (wGO a_g a_h a_q a_k a_p a_x a_s s_g ++ (wGT cI a_g s_o ++ (wP cI cJ a_h s_h ++ (wSH cJ cQ a_s s_s))))[(1 + (1 + (10 + (1 + k))))]? = some (a_s (1 + k), .inr (2, [.int (sgBits s_s k), .int (sgSize s_s k), .ref (a_s (5 + k))]))) rfl rfl rfl rfl k18 hk18)) rfl rfl hl.1 rfl (lv_room (Nat.le_of_ble_eq_true rfl)) dX6_lays_21 ⟨Nat.le_refl _, Nat.le_refl _⟩) (fun u21 hd => ?_)
    refine rx_if_eq hx hb 33 dX6_lays_24 rfl hd (fun hd => ?_) (fun hd => ?_)
    · refine lv_iconst (v := 0) hx hb dX6_lays_33 ki_0 ?_
      refine lv_istore_n (lv' := [(3, .int (0 : Int32)), (2, .ref (a_s (1 + k18))), (0, .ref (a_g 0)), (1, .int x1)]) hx hb dX6_lays_34 rfl hl (Nat.le_of_ble_eq_true rfl) rfl (fun ls hl => ?_)
      refine lv_iconst (v := 0) hx hb dX6_lays_35 ki_0 ?_
      refine lv_istore (lv' := [(4, .int (0 : Int32)), (3, .int (0 : Int32)), (2, .ref (a_s (1 + k18))), (0, .ref (a_g 0)), (1, .int x1)]) hx hb dX6_lays_36 hl (Nat.le_of_ble_eq_true rfl) rfl (fun ls hl => ?_)
      exact b38   k18 hk18 s_o s_h (0 : Int32) (0 : Int32) hd _ _ _ hP hD hS (lv_sub hl [3, 2, 1, 0] rfl)
    refine lv_aload_n hx hb dX6_lays_27 rfl (lv_at hl 1 rfl) ?_
    refine lv_iconst (v := 5) hx hb dX6_lays_28 ki_5 ?_
    refine rx_upi (fun u => (wGO a_g a_h a_q a_k a_p a_x a_s s_g ++ (wGT cI a_g u ++ (wP cI cJ a_h s_h ++ (wSH cJ cQ a_s s_s))))) hd hP hD hS hA ⟨[0, 1], [2, 3, 4, 5, 6, 7, 8, 9, 10, 11, 12, 13, 14, 15, 16, 17, 18, 19, 20], [19, 20, 0, 1, 2, 3, 4, 5, 6, 7, 8, 9, 10, 11, 12, 13, 14, 15, 16, 17, 18], wP cI cJ a_h s_h ++ (wSH cJ cQ a_s s_s), rfl, rfl, rfl, by decide, rfl, fun _ => rfl⟩ (fun v hv => va_runV (As := [.int (5 : Int32)]) (rest := []) hcf (c_X6_finding l dC dI cI cJ cQ fu a_g a_h a_q a_k a_p a_x a_s _  s_g s_o (5 : Int32) v hv) (cwV 1 hts gX6_lays_X6_finding rfl rfl rfl cd_X6_finding ⟨(Nat.le_of_ble_eq_true rfl), (Nat.le_of_ble_eq_true rfl)⟩) (cq_U_V (q0 := 0) (ci := 5) hK hP hD [0, 1] rfl rfl rfl rfl) rfl rfl hl.1 rfl (lv_room (Nat.le_of_ble_eq_true rfl)) dX6_lays_29 ⟨Nat.le_refl _, Nat.le_refl _⟩) (fun u29 hd H locs hP hD hS => ?_)
    exact rx_retUi (u := (u29.2, s_h)) (w1 := (fun u : (Nat → Int32) × PS => (wGO a_g a_h a_q a_k a_p a_x a_s s_g ++ (wGT cI a_g u.1 ++ (wP cI cJ a_h u.2 ++ (wSH cJ cQ a_s s_s)))))) hx hb hr hlocks hd hK hP hD hS dX6_lays_32
  refine lv_aload_n hx hb dX6_lays_7 rfl (lv_at hl 0 rfl) ?_
  refine lv_iconst (v := 0) hx hb dX6_lays_8 ki_0 ?_
  refine rx_upi (fun u => (wGO a_g a_h a_q a_k a_p a_x a_s s_g ++ (wGT cI a_g u ++ (wP cI cJ a_h s_h ++ (wSH cJ cQ a_s s_s))))) hd hP hD hS hA ⟨[0, 1], [2, 3, 4, 5, 6, 7, 8, 9, 10, 11, 12, 13, 14, 15, 16, 17, 18, 19, 20], [19, 20, 0, 1, 2, 3, 4, 5, 6, 7, 8, 9, 10, 11, 12, 13, 14, 15, 16, 17, 18], wP cI cJ a_h s_h ++ (wSH cJ cQ a_s s_s), rfl, rfl, rfl, by decide, rfl, fun _ => rfl⟩ (fun v hv => va_runV (As := [.int (0 : Int32)]) (rest := []) hcf (c_X6_finding l dC dI cI cJ cQ fu a_g a_h a_q a_k a_p a_x a_s _  s_g s_o (0 : Int32) v hv) (cwV 1 hts gX6_lays_X6_finding rfl rfl rfl cd_X6_finding ⟨(Nat.le_of_ble_eq_true rfl), (Nat.le_of_ble_eq_true rfl)⟩) (cq_U_V (q0 := 0) (ci := 5) hK hP hD [0, 1] rfl rfl rfl rfl) rfl rfl hl.1 rfl (lv_room (Nat.le_of_ble_eq_true rfl)) dX6_lays_9 ⟨Nat.le_refl _, Nat.le_refl _⟩) (fun u9 hd H locs hP hD hS => ?_)
  exact rx_retUi (u := (u9.2, s_h)) (w1 := (fun u : (Nat → Int32) × PS => (wGO a_g a_h a_q a_k a_p a_x a_s s_g ++ (wGT cI a_g u.1 ++ (wP cI cJ a_h u.2 ++ (wSH cJ cQ a_s s_s)))))) hx hb hr hlocks hd hK hP hD hS dX6_lays_12
theorem fiX6_book_X1 : ∀ w ∈ wsX10, w ∈ wsX6_book := mem_r _ [104, 105, 106, 107, 108, 109, 110, 111, 112, 113, 114, 115] rfl
theorem fiX6_book_X3 : ∀ w ∈ wsX30, w ∈ wsX6_book := mem_r _ [101, 102, 103] rfl
theorem fiX6_book_X6 : ∀ w ∈ wsX60, w ∈ wsX6_book := mem_r _ [93, 94, 95, 96, 97, 98, 99, 100] rfl
set_option maxHeartbeats 8000000 in
set_option maxRecDepth 100000 in
theorem c_X6_book (l : Launch) (dC : Nat → ClassId) (dI : Nat → Nat → Nat) (cI cJ cQ : ClassId) (fu : Nat) (a_g a_h a_q a_k a_p a_x a_s : Nat → Nat) (sz : Nat) (s_g : Int32) (s_o : (Nat → Int32)) (s_h : PS) (s_q : PS) (s_s : SHS) (x1 : Int32) (x2 : Int32) (r : Int32 × (Nat → Int32) × PS × SHS) (hd : fX6_book fu  s_g s_o s_h s_q s_s x1 x2 = some r) : mUi l yX6_book wsX6_book (gRm 5 113) [.ref (a_g 0), .int x1, .int x2] (dC, dI) vwCl (gty cI cJ cQ) (wGO a_g a_h a_q a_k a_p a_x a_s s_g ++ (wGT cI a_g s_o ++ (wP cI cJ a_h s_h ++ (wP cI cJ a_q s_q ++ (wSH cJ cQ a_s s_s))))) sz (fun u : (Nat → Int32) × PS × SHS => (wGO a_g a_h a_q a_k a_p a_x a_s s_g ++ (wGT cI a_g u.1 ++ (wP cI cJ a_h s_h ++ (wP cI cJ a_q u.2.1 ++ (wSH cJ cQ a_s u.2.2)))))) r := by
  refine Met.ofW (cc := cX6_book) (maxL := 5) (ret := (some .int)) (by decide) rfl ?_
  intro p e s m args below meth c s₁ B hml hv
  obtain ⟨hav, hsz, hP, hK, hD0⟩ := hv
  subst hsz
  have hD := hD0.self (sz := s.heap.size)
  generalize hAe : va_A (wGO a_g a_h a_q a_k a_p a_x a_s s_g ++ (wGT cI a_g s_o ++ (wP cI cJ a_h s_h ++ (wP cI cJ a_q s_q ++ (wSH cJ cQ a_s s_s))))) s.heap.size = A at hD ⊢
  have hA : ∀ q : Nat, s.heap.size ≤ q → A q := fun q h => by rw [← hAe]; exact Or.inr h
  have hS : va_S A s.heap s.heap [] := va_S.rf
  have hx := B.exec
  have hb := B.bytes
  have hr := B.returns
  have hts := atoms_spec (ws := wsX6_book) B.pre
  have hown : s.vm.findClass RX6 = some m.cls := findClass_of_methodNamed B.named
  have hlocks := B.notSynchronized
  have hcf : CallFix p m c cX6_book 5 s args wsX6_book RX6 := ⟨hx, hb, hml, hown, hts⟩
  have fl_46 := hts (.fieldLink RX6 46 "BucketGift" "sheets" "[LBucketGift$Sheet;") (List.mem_of_getElem? (i := 1) rfl)
  have fl_20 := hts (.fieldLink RX6 20 "BucketGift" "trial" "LBucketGift$Parish;") (List.mem_of_getElem? (i := 2) rfl)
  have fl_16 := hts (.fieldLink RX6 16 "BucketGift" "here" "LBucketGift$Parish;") (List.mem_of_getElem? (i := 3) rfl)
  have fl_206 := hts (.fieldLink RX6 206 "BucketGift$Sheet" "size" "I") (List.mem_of_getElem? (i := 4) rfl)
  have fl_133 := hts (.fieldLink RX6 133 "BucketGift$Parish" "store" "[I") (List.mem_of_getElem? (i := 5) rfl)
  have hg : entryFrame m args 5 = entryFrame m ([.ref (a_g 0), .int x1, .int x2] : List Value).toArray 5 := by rw [hav]
  rw [hg, lg_entry_eq]
  have hl := lv_entry ([.ref (a_g 0), .int x1, .int x2]) (n := 5) (Nat.le_of_ble_eq_true rfl)
  generalize (lg_sl ([.ref (a_g 0), .int x1, .int x2]) ++ List.replicate (5 - (lg_sl ([.ref (a_g 0), .int x1, .int x2])).length) Slot.unset).toArray = ls at hl ⊢
  have hl : lv_has ls 5 [(0, .ref (a_g 0)), (1, .int x1), (2, .int x2)] := hl
  clear hg
  unfold fX6_book at hd
  have b60 : ∀ (x2 : Int32) (q3 : Nat) (hq3 : q3 < 4) (s_o : (Nat → Int32)) (s_q : PS) (s_s : SHS) (x4 : Int32), fX6_book_b60 fu s_g s_h   x2 q3 s_o s_q s_s x4 = some r → bk_U p l e (headSpec wsX6_book (gRm 5 113)).room s m args below meth c (qUi below args s (dC, dI) vwCl (gty cI cJ cQ) A (fun u : (Nat → Int32) × PS × SHS => (wGO a_g a_h a_q a_k a_p a_x a_s s_g ++ (wGT cI a_g u.1 ++ (wP cI cJ a_h s_h ++ (wP cI cJ a_q u.2.1 ++ (wSH cJ cQ a_s u.2.2)))))) r) (dC, dI) vwCl A 5 (wGO a_g a_h a_q a_k a_p a_x a_s s_g ++ (wGT cI a_g s_o ++ (wP cI cJ a_h s_h ++ (wP cI cJ a_q s_q ++ (wSH cJ cQ a_s s_s))))) 60 [(0, .ref (a_g 0)), (2, .int x2), (3, .ref (a_s (1 + q3))), (4, .int x4)] [] := by
    intro x2 q3 hq3
    have L : ∀ (n : Nat) (s_o : (Nat → Int32)) (s_q : PS) (s_s : SHS) (x4 : Int32), g_lp (fun _ _ _ _ => none) (fX6_book_b60B fu s_g s_h   x2 q3) n s_o s_q s_s x4 = some r → bk_U p l e (headSpec wsX6_book (gRm 5 113)).room s m args below meth c (qUi below args s (dC, dI) vwCl (gty cI cJ cQ) A (fun u : (Nat → Int32) × PS × SHS => (wGO a_g a_h a_q a_k a_p a_x a_s s_g ++ (wGT cI a_g u.1 ++ (wP cI cJ a_h s_h ++ (wP cI cJ a_q u.2.1 ++ (wSH cJ cQ a_s u.2.2)))))) r) (dC, dI) vwCl A 5 (wGO a_g a_h a_q a_k a_p a_x a_s s_g ++ (wGT cI a_g s_o ++ (wP cI cJ a_h s_h ++ (wP cI cJ a_q s_q ++ (wSH cJ cQ a_s s_s))))) 60 [(0, .ref (a_g 0)), (2, .int x2), (3, .ref (a_s (1 + q3))), (4, .int x4)] [] := by
      intro n
      induction n with
      | zero => intro s_o s_q s_s x4 hd; exact absurd hd (by intro h; cases h)
      | succ n k60 =>
        intro s_o s_q s_s x4 hd
        intro H locs ls hP hD hS hl
        have hd : fX6_book_b60B fu s_g s_h   x2 q3 (g_lp (fun _ _ _ _ => none) (fX6_book_b60B fu s_g s_h   x2 q3) n) s_o s_q s_s x4 = some r := hd
        unfold fX6_book_b60B at hd
        refine lv_iload hx hb dX6_book_60 (lv_at hl 3 rfl) ?_
        refine lv_aload_n hx hb dX6_book_62 rfl (lv_at hl 2 rfl) ?_
        refine rx_get hx hb hts fiX6_book_X3 hown hK hP (1 + (1 + (10 + (10 + (1 + q3))))) (g_four (P := fun k => (wGO a_g a_h a_q a_k a_p a_x a_s s_g ++ (wGT cI a_g s_o ++ (wP cI cJ a_h s_h ++ (wP cI cJ a_q s_q ++ (wSH cJ cQ a_s s_s)))))[(1 + (1 + (10 + (10 + (1 + k)))))]? = some (a_s (1 + k), .inr (2, [.int (sgBits s_s k), .int (sgSize s_s k), .ref (a_s (5 + k))]))) rfl rfl rfl rfl q3 hq3) rfl 1 (Nat.le_of_ble_eq_true rfl) fl_206 rfl rfl dX6_book_63 ?_
        refine rx_icmp_ge hx hb 98 dX6_book_66 rfl hd (fun hd => ?_) (fun hd => ?_)
        · refine lv_aload_n hx hb dX6_book_98 rfl (lv_at hl 2 rfl) ?_
          refine rx_get hx hb hts fiX6_book_X3 hown hK hP (1 + (1 + (10 + (10 + (1 + q3))))) (g_four (P := fun k => (wGO a_g a_h a_q a_k a_p a_x a_s s_g ++ (wGT cI a_g s_o ++ (wP cI cJ a_h s_h ++ (wP cI cJ a_q s_q ++ (wSH cJ cQ a_s s_s)))))[(1 + (1 + (10 + (10 + (1 + k)))))]? = some (a_s (1 + k), .inr (2, [.int (sgBits s_s k), .int (sgSize s_s k), .ref (a_s (5 + k))]))) rfl rfl rfl rfl q3 hq3) rfl 1 (Nat.le_of_ble_eq_true rfl) fl_206 rfl rfl dX6_book_99 ?_
          exact rx_retUi (u := (s_o, s_q, s_s)) (w1 := (fun u : (Nat → Int32) × PS × SHS => (wGO a_g a_h a_q a_k a_p a_x a_s s_g ++ (wGT cI a_g u.1 ++ (wP cI cJ a_h s_h ++ (wP cI cJ a_q u.2.1 ++ (wSH cJ cQ a_s u.2.2))))))) hx hb hr hlocks hd hK hP hD hS dX6_book_102
        refine lv_aload_n hx hb dX6_book_69 rfl (lv_at hl 2 rfl) ?_
        refine lv_iload hx hb dX6_book_70 (lv_at hl 3 rfl) ?_
        refine lv_aload_n hx hb dX6_book_72 rfl (lv_at hl 0 rfl) ?_
        refine rx_get hx hb hts fiX6_book_X6 hown hK hP 0 rfl rfl 2 (Nat.le_of_ble_eq_true rfl) fl_20 rfl rfl dX6_book_73 ?_
        refine rx_get hx hb hts fiX6_book_X1 hown hK hP 12 rfl rfl 1 (Nat.le_of_ble_eq_true rfl) fl_133 rfl rfl dX6_book_76 ?_
        refine lv_iload_n hx hb dX6_book_79 rfl (lv_at hl 1 rfl) ?_
        refine rx_iald hx hb hK hP 14 0 rfl rfl hd dX6_book_80 (fun v80 hd => ?_)
        refine lv_i2l hx hb dX6_book_81 rfl ?_
        refine rx_upv (fun u => (wGO a_g a_h a_q a_k a_p a_x a_s s_g ++ (wGT cI a_g s_o ++ (wP cI cJ a_h s_h ++ (wP cI cJ a_q s_q ++ (wSH cJ cQ a_s (sSet s_s q3 u))))))) hd hP hD hS hA (g_four (P := fun k => cq_J (S := S1S) (wGO a_g a_h a_q a_k a_p a_x a_s s_g ++ (wGT cI a_g s_o ++ (wP cI cJ a_h s_h ++ (wP cI cJ a_q s_q ++ (wSH cJ cQ a_s s_s))))) (wS1 cI cJ (fun j => a_s (1 + 4 * j + k)) (sGet s_s k)) (fun u => (wS1 cI cJ (fun j => a_s (1 + 4 * j + k)) u)) (fun u => (wGO a_g a_h a_q a_k a_p a_x a_s s_g ++ (wGT cI a_g s_o ++ (wP cI cJ a_h s_h ++ (wP cI cJ a_q s_q ++ (wSH cJ cQ a_s (sSet s_s k u)))))))) ⟨[23, 27], [0, 1, 2, 3, 4, 5, 6, 7, 8, 9, 10, 11, 12, 13, 14, 15, 16, 17, 18, 19, 20, 21, 22, 24, 25, 26, 28, 29, 30], [0, 1, 2, 3, 4, 5, 6, 7, 8, 9, 10, 11, 12, 13, 14, 15, 16, 17, 18, 19, 20, 21, 22, 29, 23, 24, 25, 30, 26, 27, 28], wGO a_g a_h a_q a_k a_p a_x a_s s_g ++ (wGT cI a_g s_o ++ (wP cI cJ a_h s_h ++ (wP cI cJ a_q s_q ++ ([(a_s 0, .inl (cQ, 4, .inr (.inr (.inr (.inr (fun k => some (a_s (1 + k)))))))), (a_s 2, .inr (2, [.int (sgBits s_s 1), .int (sgSize s_s 1), .ref (a_s 6)])), (a_s 3, .inr (2, [.int (sgBits s_s 2), .int (sgSize s_s 2), .ref (a_s 7)])), (a_s 4, .inr (2, [.int (sgBits s_s 3), .int (sgSize s_s 3), .ref (a_s 8)])), (a_s 6, .inl (cJ, 40, .inr (.inl (sgNumbers s_s 1)))), (a_s 7, .inl (cJ, 40, .inr (.inl (sgNumbers s_s 2)))), (a_s 8, .inl (cJ, 40, .inr (.inl (sgNumbers s_s 3))))])))), rfl, rfl, rfl, by decide, rfl, fun _ => rfl⟩ ⟨[24, 28], [0, 1, 2, 3, 4, 5, 6, 7, 8, 9, 10, 11, 12, 13, 14, 15, 16, 17, 18, 19, 20, 21, 22, 23, 25, 26, 27, 29, 30], [0, 1, 2, 3, 4, 5, 6, 7, 8, 9, 10, 11, 12, 13, 14, 15, 16, 17, 18, 19, 20, 21, 22, 23, 29, 24, 25, 26, 30, 27, 28], wGO a_g a_h a_q a_k a_p a_x a_s s_g ++ (wGT cI a_g s_o ++ (wP cI cJ a_h s_h ++ (wP cI cJ a_q s_q ++ ([(a_s 0, .inl (cQ, 4, .inr (.inr (.inr (.inr (fun k => some (a_s (1 + k)))))))), (a_s 1, .inr (2, [.int (sgBits s_s 0), .int (sgSize s_s 0), .ref (a_s 5)])), (a_s 3, .inr (2, [.int (sgBits s_s 2), .int (sgSize s_s 2), .ref (a_s 7)])), (a_s 4, .inr (2, [.int (sgBits s_s 3), .int (sgSize s_s 3), .ref (a_s 8)])), (a_s 5, .inl (cJ, 40, .inr (.inl (sgNumbers s_s 0)))), (a_s 7, .inl (cJ, 40, .inr (.inl (sgNumbers s_s 2)))), (a_s 8, .inl (cJ, 40, .inr (.inl (sgNumbers s_s 3))))])))), rfl, rfl, rfl, by decide, rfl, fun _ => rfl⟩ ⟨[25, 29], [0, 1, 2, 3, 4, 5, 6, 7, 8, 9, 10, 11, 12, 13, 14, 15, 16, 17, 18, 19, 20, 21, 22, 23, 24, 26, 27, 28, 30], [0, 1, 2, 3, 4, 5, 6, 7, 8, 9, 10, 11, 12, 13, 14, 15, 16, 17, 18, 19, 20, 21, 22, 23, 24, 29, 25, 26, 27, 30, 28], wGO a_g a_h a_q a_k a_p a_x a_s s_g ++ (wGT cI a_g s_o ++ (wP cI cJ a_h s_h ++ (wP cI cJ a_q s_q ++ ([(a_s 0, .inl (cQ, 4, .inr (.inr (.inr (.inr (fun k => some (a_s (1 + k)))))))), (a_s 1, .inr (2, [.int (sgBits s_s 0), .int (sgSize s_s 0), .ref (a_s 5)])), (a_s 2, .inr (2, [.int (sgBits s_s 1), .int (sgSize s_s 1), .ref (a_s 6)])), (a_s 4, .inr (2, [.int (sgBits s_s 3), .int (sgSize s_s 3), .ref (a_s 8)])), (a_s 5, .inl (cJ, 40, .inr (.inl (sgNumbers s_s 0)))), (a_s 6, .inl (cJ, 40, .inr (.inl (sgNumbers s_s 1)))), (a_s 8, .inl (cJ, 40, .inr (.inl (sgNumbers s_s 3))))])))), rfl, rfl, rfl, by decide, rfl, fun _ => rfl⟩ ⟨[26, 30], [0, 1, 2, 3, 4, 5, 6, 7, 8, 9, 10, 11, 12, 13, 14, 15, 16, 17, 18, 19, 20, 21, 22, 23, 24, 25, 27, 28, 29], [0, 1, 2, 3, 4, 5, 6, 7, 8, 9, 10, 11, 12, 13, 14, 15, 16, 17, 18, 19, 20, 21, 22, 23, 24, 25, 29, 26, 27, 28, 30], wGO a_g a_h a_q a_k a_p a_x a_s s_g ++ (wGT cI a_g s_o ++ (wP cI cJ a_h s_h ++ (wP cI cJ a_q s_q ++ ([(a_s 0, .inl (cQ, 4, .inr (.inr (.inr (.inr (fun k => some (a_s (1 + k)))))))), (a_s 1, .inr (2, [.int (sgBits s_s 0), .int (sgSize s_s 0), .ref (a_s 5)])), (a_s 2, .inr (2, [.int (sgBits s_s 1), .int (sgSize s_s 1), .ref (a_s 6)])), (a_s 3, .inr (2, [.int (sgBits s_s 2), .int (sgSize s_s 2), .ref (a_s 7)])), (a_s 5, .inl (cJ, 40, .inr (.inl (sgNumbers s_s 0)))), (a_s 6, .inl (cJ, 40, .inr (.inl (sgNumbers s_s 1)))), (a_s 7, .inl (cJ, 40, .inr (.inl (sgNumbers s_s 2))))])))), rfl, rfl, rfl, by decide, rfl, fun _ => rfl⟩ q3 hq3) (fun v hv => va_runV (As := [.int x4, .long (Int32.toInt64 v80)]) (rest := []) hcf (c_X3_put l dC dI cI cJ cQ fu (fun j => a_s (1 + 4 * j + q3)) _  (sGet s_s q3) x4 (Int32.toInt64 v80) v hv) (cwV 2 hts gX6_book_X3_put rfl rfl rfl cd_X3_put ⟨(Nat.le_of_ble_eq_true rfl), (Nat.le_of_ble_eq_true rfl)⟩) (cq_U_V (q0 := (1 + (1 + (10 + (10 + (1 + q3)))))) (ci := 2) hK hP hD [(1 + (1 + (10 + (10 + (1 + q3))))), (1 + (1 + (10 + (10 + (5 + q3)))))] (g_four (P := fun k => va_nd [(1 + (1 + (10 + (10 + (1 + k))))), (1 + (1 + (10 + (10 + (5 + k)))))] = true) rfl rfl rfl rfl q3 hq3) (g_four (P := fun k => [(1 + (1 + (10 + (10 + (1 + k))))), (1 + (1 + (10 + (10 + (5 + k)))))].map (fun i => (wGO a_g a_h a_q a_k a_p a_x a_s s_g ++ (wGT cI a_g s_o ++ (wP cI cJ a_h s_h ++ (wP cI cJ a_q s_q ++ (wSH cJ cQ a_s s_s)))))[i]?) = (wS1 cI cJ (fun j => a_s (1 + 4 * j + k)) (sGet s_s k)).map some) rfl rfl rfl rfl q3 hq3) rfl (g_four (P := fun k => (wGO a_g a_h a_q a_k a_p a_x a_s s_g ++ (wGT cI a_g s_o ++ (wP cI cJ a_h s_h ++ (wP cI cJ a_q s_q ++ (wSH cJ cQ a_s s_s)))))[(1 + (1 + (10 + (10 + (1 + k)))))]? = some (a_s (1 + k), .inr (2, [.int (sgBits s_s k), .int (sgSize s_s k), .ref (a_s (5 + k))]))) rfl rfl rfl rfl q3 hq3)) rfl rfl hl.1 rfl (lv_room (Nat.le_of_ble_eq_true rfl)) dX6_book_82 ⟨Nat.le_refl _, Nat.le_refl _⟩) (fun u82 hd H locs hP hD hS => ?_)
        refine lv_aload_n hx hb dX6_book_85 rfl (lv_at hl 0 rfl) ?_
        refine rx_get hx hb hts fiX6_book_X6 hown hK hP 0 rfl rfl 2 (Nat.le_of_ble_eq_true rfl) fl_20 rfl rfl dX6_book_86 ?_
        refine rx_upv (fun u => (wGO a_g a_h a_q a_k a_p a_x a_s s_g ++ (wGT cI a_g s_o ++ (wP cI cJ a_h s_h ++ (wP cI cJ a_q u ++ (wSH cJ cQ a_s (sSet s_s q3 u82))))))) hd hP hD hS hA ⟨[12, 13, 14, 15, 16, 17, 18, 19, 20, 21], [0, 1, 2, 3, 4, 5, 6, 7, 8, 9, 10, 11, 22, 23, 24, 25, 26, 27, 28, 29, 30], [0, 1, 2, 3, 4, 5, 6, 7, 8, 9, 10, 11, 21, 22, 23, 24, 25, 26, 27, 28, 29, 30, 12, 13, 14, 15, 16, 17, 18, 19, 20], wGO a_g a_h a_q a_k a_p a_x a_s s_g ++ (wGT cI a_g s_o ++ (wP cI cJ a_h s_h ++ (wSH cJ cQ a_s (sSet s_s q3 u82)))), rfl, rfl, rfl, by decide, rfl, fun _ => rfl⟩ (fun v hv => va_runV (As := []) (rest := []) hcf (c_X1_passDay l dC dI cI cJ cQ fu a_q _  s_q  v hv) (cwV 0 hts gX6_book_X1_passDay rfl rfl rfl cd_X1_passDay ⟨(Nat.le_of_ble_eq_true rfl), (Nat.le_of_ble_eq_true rfl)⟩) (cq_U_V (q0 := 12) (ci := 0) hK hP hD [12, 13, 14, 15, 16, 17, 18, 19, 20, 21] rfl rfl rfl rfl) rfl rfl hl.1 rfl (lv_room (Nat.le_of_ble_eq_true rfl)) dX6_book_89 ⟨Nat.le_refl _, Nat.le_refl _⟩) (fun u89 hd H locs hP hD hS => ?_)
        refine rx_iinc (lv' := fun z => (4, .int z) :: [(0, .ref (a_g 0)), (2, .int x2), (3, .ref (a_s (1 + q3)))]) hx hb (j := 3) dX6_book_92 hl rfl ki_1 hd (Nat.le_of_ble_eq_true rfl) (fun _ => rfl) (fun x4_92 hd ls hl => ?_)
        refine lv_goto (tgt := 60) hx hb dX6_book_95 rfl ?_
        exact k60 s_o u89 (sSet s_s q3 u82) x4_92 hd _ _ _ hP hD hS (lv_sub hl [1, 2, 3, 0] rfl)
    exact fun s_o s_q s_s x4 => L fu s_o s_q s_s x4
  refine lv_iload_n hx hb dX6_book_0 rfl (lv_at hl 1 rfl) ?_
  refine rx_roi hd (fun v hv => W.runS (As := [.int x1]) (rest := []) hcf (c_X6_isSheet l dC dI cI cJ cQ fu    x1 v hv) (va_cwS 1 hts gX6_book_X6_isSheet rfl rfl rfl cd_X6_isSheet ⟨(Nat.le_of_ble_eq_true rfl), (Nat.le_of_ble_eq_true rfl)⟩) (cq_R_S hK hP [] rfl) rfl rfl hl.1 rfl (lv_room (Nat.le_of_ble_eq_true rfl)) dX6_book_1 ⟨Nat.le_refl _, Nat.le_refl _⟩) (fun u1 hd => ?_)
  refine rx_if_ne hx hb 13 dX6_book_4 rfl hd (fun hd => ?_) (fun hd => ?_)
  · refine lv_aload_n hx hb dX6_book_13 rfl (lv_at hl 0 rfl) ?_
    refine rx_get hx hb hts fiX6_book_X6 hown hK hP 0 rfl rfl 7 (Nat.le_of_ble_eq_true rfl) fl_46 rfl rfl dX6_book_14 ?_
    refine lv_iload_n hx hb dX6_book_17 rfl (lv_at hl 1 rfl) ?_
    refine rx_aald (b := a_s) hx hb hK hP 22 2 rfl rfl hd dX6_book_18 (fun k18 hk18 hd => ?_)
    refine lv_astore_n (lv' := [(3, .ref (a_s (1 + k18))), (0, .ref (a_g 0)), (1, .int x1), (2, .int x2)]) hx hb dX6_book_19 rfl hl (Nat.le_of_ble_eq_true rfl) rfl (fun ls hl => ?_)
    refine lv_aload_n hx hb dX6_book_20 rfl (lv_at hl 0 rfl) ?_
    refine rx_roi hd (fun v hv => W.runV (As := []) (rest := []) hcf (c_X3_isMissing l dC dI cI cJ cQ fu (fun j => a_s (1 + 4 * j + k18))  (sGet s_s k18)  v hv) (cwV 0 hts gX6_book_X3_isMissing rfl rfl rfl cd_X3_isMissing ⟨(Nat.le_of_ble_eq_true rfl), (Nat.le_of_ble_eq_true rfl)⟩) (cq_R_V (q0 := (1 + (1 + (10 + (10 + (1 + k18)))))) (ci := 2) hK hP [(1 + (1 + (10 + (10 + (1 + k18))))), (1 + (1 + (10 + (10 + (5 + k18)))))] (g_four (P := fun k => [(1 + (1 + (10 + (10 + (1 + k))))), (1 + (1 + (10 + (10 + (5 + k)))))].map (fun i => (wGO a_g a_h a_q a_k a_p a_x a_s s_g ++ (wGT cI a_g s_o ++ (wP cI cJ a_h s_h ++ (wP cI cJ a_q s_q ++ (wSH cJ cQ a_s s_s)))))[i]?) = (wS1 cI cJ (fun j => a_s (1 + 4 * j + k)) (sGet s_s k)).map some) rfl rfl rfl rfl k18 hk18) rfl (g_four (P := fun k => (wGO a_g a_h a_q a_k a_p a_x a_s s_g ++ (wGT cI a_g s_o ++ (wP cI cJ a_h s_h ++ (wP cI cJ a_q s_q ++ (wSH cJ cQ a_s s_s)))))[(1 + (1 + (10 + (10 + (1 + k)))))]? = some (a_s (1 + k), .inr (2, [.int (sgBits s_s k), .int (sgSize s_s k), .ref (a_s (5 + k))]))) rfl rfl rfl rfl k18 hk18)) rfl rfl hl.1 rfl (lv_room (Nat.le_of_ble_eq_true rfl)) dX6_book_21 ⟨Nat.le_refl _, Nat.le_refl _⟩) (fun u21 hd => ?_)
    refine rx_if_eq hx hb 33 dX6_book_24 rfl hd (fun hd => ?_) (fun hd => ?_)
    · refine lv_iload_n hx hb dX6_book_33 rfl (lv_at hl 3 rfl) ?_
      refine rx_roi hd (fun v hv => W.runS (As := [.int x2]) (rest := []) hcf (c_X6_isFarm l dC dI cI cJ cQ fu    x2 v hv) (va_cwS 1 hts gX6_book_X6_isFarm rfl rfl rfl cd_X6_isFarm ⟨(Nat.le_of_ble_eq_true rfl), (Nat.le_of_ble_eq_true rfl)⟩) (cq_R_S hK hP [] rfl) rfl rfl hl.1 rfl (lv_room (Nat.le_of_ble_eq_true rfl)) dX6_book_34 ⟨Nat.le_refl _, Nat.le_refl _⟩) (fun u34 hd => ?_)
      refine rx_if_ne hx hb 46 dX6_book_37 rfl hd (fun hd => ?_) (fun hd => ?_)
      · refine lv_aload_n hx hb dX6_book_46 rfl (lv_at hl 1 rfl) ?_
        refine rx_get hx hb hts fiX6_book_X6 hown hK hP 0 rfl rfl 2 (Nat.le_of_ble_eq_true rfl) fl_20 rfl rfl dX6_book_47 ?_
        refine lv_aload_n hx hb dX6_book_50 rfl (lv_at hl 1 rfl) ?_
        refine rx_get hx hb hts fiX6_book_X6 hown hK hP 0 rfl rfl 1 (Nat.le_of_ble_eq_true rfl) fl_16 rfl rfl dX6_book_51 ?_
        refine rx_upv (fun u => (wGO a_g a_h a_q a_k a_p a_x a_s s_g ++ (wGT cI a_g s_o ++ (wP cI cJ a_h s_h ++ (wP cI cJ a_q u ++ (wSH cJ cQ a_s s_s)))))) hd hP hD hS hA ⟨[12, 13, 14, 15, 16, 17, 18, 19, 20, 21, 2, 3, 4, 5, 6, 7, 8, 9, 10, 11], [0, 1, 22, 23, 24, 25, 26, 27, 28, 29, 30], [0, 1, 21, 22, 23, 24, 25, 26, 27, 28, 29, 30, 11, 12, 13, 14, 15, 16, 17, 18, 19, 20, 2, 3, 4, 5, 6, 7, 8, 9, 10], wGO a_g a_h a_q a_k a_p a_x a_s s_g ++ (wGT cI a_g s_o ++ (wSH cJ cQ a_s s_s)), rfl, rfl, rfl, by decide, rfl, fun _ => rfl⟩ (fun v hv => va_runV (As := [.ref (a_h 0)]) (rest := []) hcf (c_X1_become l dC dI cI cJ cQ fu a_q a_h _  s_q s_h  v hv) (cwV 1 hts gX6_book_X1_become rfl rfl rfl cd_X1_become ⟨(Nat.le_of_ble_eq_true rfl), (Nat.le_of_ble_eq_true rfl)⟩) (cq_U_V (q0 := 12) (ci := 0) hK hP hD [12, 13, 14, 15, 16, 17, 18, 19, 20, 21, 2, 3, 4, 5, 6, 7, 8, 9, 10, 11] rfl rfl rfl rfl) rfl rfl hl.1 rfl (lv_room (Nat.le_of_ble_eq_true rfl)) dX6_book_54 ⟨Nat.le_refl _, Nat.le_refl _⟩) (fun u54 hd H locs hP hD hS => ?_)
        refine lv_iconst (v := 0) hx hb dX6_book_57 ki_0 ?_
        refine lv_istore (lv' := [(4, .int (0 : Int32)), (3, .ref (a_s (1 + k18))), (0, .ref (a_g 0)), (1, .int x1), (2, .int x2)]) hx hb dX6_book_58 hl (Nat.le_of_ble_eq_true rfl) rfl (fun ls hl => ?_)
        exact b60   x2 k18 hk18 s_o u54 s_s (0 : Int32) hd _ _ _ hP hD hS (lv_sub hl [2, 4, 1, 0] rfl)
      refine lv_aload_n hx hb dX6_book_40 rfl (lv_at hl 1 rfl) ?_
      refine lv_iconst (v := 0) hx hb dX6_book_41 ki_0 ?_
      refine rx_upi (fun u => (wGO a_g a_h a_q a_k a_p a_x a_s s_g ++ (wGT cI a_g u ++ (wP cI cJ a_h s_h ++ (wP cI cJ a_q s_q ++ (wSH cJ cQ a_s s_s)))))) hd hP hD hS hA ⟨[0, 1], [2, 3, 4, 5, 6, 7, 8, 9, 10, 11, 12, 13, 14, 15, 16, 17, 18, 19, 20, 21, 22, 23, 24, 25, 26, 27, 28, 29, 30], [29, 30, 0, 1, 2, 3, 4, 5, 6, 7, 8, 9, 10, 11, 12, 13, 14, 15, 16, 17, 18, 19, 20, 21, 22, 23, 24, 25, 26, 27, 28], wP cI cJ a_h s_h ++ (wP cI cJ a_q s_q ++ (wSH cJ cQ a_s s_s)), rfl, rfl, rfl, by decide, rfl, fun _ => rfl⟩ (fun v hv => va_runV (As := [.int (0 : Int32)]) (rest := []) hcf (c_X6_finding l dC dI cI cJ cQ fu a_g a_h a_q a_k a_p a_x a_s _  s_g s_o (0 : Int32) v hv) (cwV 1 hts gX6_book_X6_finding rfl rfl rfl cd_X6_finding ⟨(Nat.le_of_ble_eq_true rfl), (Nat.le_of_ble_eq_true rfl)⟩) (cq_U_V (q0 := 0) (ci := 5) hK hP hD [0, 1] rfl rfl rfl rfl) rfl rfl hl.1 rfl (lv_room (Nat.le_of_ble_eq_true rfl)) dX6_book_42 ⟨Nat.le_refl _, Nat.le_refl _⟩) (fun u42 hd H locs hP hD hS => ?_)
      exact rx_retUi (u := (u42.2, s_q, s_s)) (w1 := (fun u : (Nat → Int32) × PS × SHS => (wGO a_g a_h a_q a_k a_p a_x a_s s_g ++ (wGT cI a_g u.1 ++ (wP cI cJ a_h s_h ++ (wP cI cJ a_q u.2.1 ++ (wSH cJ cQ a_s u.2.2))))))) hx hb hr hlocks hd hK hP hD hS dX6_book_45
    refine lv_aload_n hx hb dX6_book_27 rfl (lv_at hl 1 rfl) ?_
    refine lv_iconst (v := 5) hx hb dX6_book_28 ki_5 ?_
    refine rx_upi (fun u => (wGO a_g a_h a_q a_k a_p a_x a_s s_g ++ (wGT cI a_g u ++ (wP cI cJ a_h s_h ++ (wP cI cJ a_q s_q ++ (wSH cJ cQ a_s s_s)))))) hd hP hD hS hA ⟨[0, 1], [2, 3, 4, 5, 6, 7, 8, 9, 10, 11, 12, 13, 14, 15, 16, 17, 18, 19, 20, 21, 22, 23, 24, 25, 26, 27, 28, 29, 30], [29, 30, 0, 1, 2, 3, 4, 5, 6, 7, 8, 9, 10, 11, 12, 13, 14, 15, 16, 17, 18, 19, 20, 21, 22, 23, 24, 25, 26, 27, 28], wP cI cJ a_h s_h ++ (wP cI cJ a_q s_q ++ (wSH cJ cQ a_s s_s)), rfl, rfl, rfl, by decide, rfl, fun _ => rfl⟩ (fun v hv => va_runV (As := [.int (5 : Int32)]) (rest := []) hcf (c_X6_finding l dC dI cI cJ cQ fu a_g a_h a_q a_k a_p a_x a_s _  s_g s_o (5 : Int32) v hv) (cwV 1 hts gX6_book_X6_finding rfl rfl rfl cd_X6_finding ⟨(Nat.le_of_ble_eq_true rfl), (Nat.le_of_ble_eq_true rfl)⟩) (cq_U_V (q0 := 0) (ci := 5) hK hP hD [0, 1] rfl rfl rfl rfl) rfl rfl hl.1 rfl (lv_room (Nat.le_of_ble_eq_true rfl)) dX6_book_29 ⟨Nat.le_refl _, Nat.le_refl _⟩) (fun u29 hd H locs hP hD hS => ?_)
    exact rx_retUi (u := (u29.2, s_q, s_s)) (w1 := (fun u : (Nat → Int32) × PS × SHS => (wGO a_g a_h a_q a_k a_p a_x a_s s_g ++ (wGT cI a_g u.1 ++ (wP cI cJ a_h s_h ++ (wP cI cJ a_q u.2.1 ++ (wSH cJ cQ a_s u.2.2))))))) hx hb hr hlocks hd hK hP hD hS dX6_book_32
  refine lv_aload_n hx hb dX6_book_7 rfl (lv_at hl 0 rfl) ?_
  refine lv_iconst (v := 0) hx hb dX6_book_8 ki_0 ?_
  refine rx_upi (fun u => (wGO a_g a_h a_q a_k a_p a_x a_s s_g ++ (wGT cI a_g u ++ (wP cI cJ a_h s_h ++ (wP cI cJ a_q s_q ++ (wSH cJ cQ a_s s_s)))))) hd hP hD hS hA ⟨[0, 1], [2, 3, 4, 5, 6, 7, 8, 9, 10, 11, 12, 13, 14, 15, 16, 17, 18, 19, 20, 21, 22, 23, 24, 25, 26, 27, 28, 29, 30], [29, 30, 0, 1, 2, 3, 4, 5, 6, 7, 8, 9, 10, 11, 12, 13, 14, 15, 16, 17, 18, 19, 20, 21, 22, 23, 24, 25, 26, 27, 28], wP cI cJ a_h s_h ++ (wP cI cJ a_q s_q ++ (wSH cJ cQ a_s s_s)), rfl, rfl, rfl, by decide, rfl, fun _ => rfl⟩ (fun v hv => va_runV (As := [.int (0 : Int32)]) (rest := []) hcf (c_X6_finding l dC dI cI cJ cQ fu a_g a_h a_q a_k a_p a_x a_s _  s_g s_o (0 : Int32) v hv) (cwV 1 hts gX6_book_X6_finding rfl rfl rfl cd_X6_finding ⟨(Nat.le_of_ble_eq_true rfl), (Nat.le_of_ble_eq_true rfl)⟩) (cq_U_V (q0 := 0) (ci := 5) hK hP hD [0, 1] rfl rfl rfl rfl) rfl rfl hl.1 rfl (lv_room (Nat.le_of_ble_eq_true rfl)) dX6_book_9 ⟨Nat.le_refl _, Nat.le_refl _⟩) (fun u9 hd H locs hP hD hS => ?_)
  exact rx_retUi (u := (u9.2, s_q, s_s)) (w1 := (fun u : (Nat → Int32) × PS × SHS => (wGO a_g a_h a_q a_k a_p a_x a_s s_g ++ (wGT cI a_g u.1 ++ (wP cI cJ a_h s_h ++ (wP cI cJ a_q u.2.1 ++ (wSH cJ cQ a_s u.2.2))))))) hx hb hr hlocks hd hK hP hD hS dX6_book_12
