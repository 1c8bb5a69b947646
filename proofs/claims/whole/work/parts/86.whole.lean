set_option maxHeartbeats 8000000 in
set_option maxRecDepth 100000 in
theorem whole_start {p : Program} {e : Env} {s : State} {m : MethodId} {below : List Frame} {meth : Method} {c : Code} (l : Launch) {b L : Nat} {xs : Nat → Int32} (hL : L ≤ 3072) (C0 : lw_At p s m meth c b L xs) : W p l e room_1 s m #[Value.ref b] below meth c s.heap [] 0 0 (lw_Z below #[Value.ref b] s) (entryFrame m ([Value.ref b] : List Value).toArray 4) := by
  obtain ⟨hx, hb, hr, hml, hown, hts0, hX, hbl, hlocks, hgv⟩ := id C0
  have hts : ∀ w ∈ wsL_law, w.before #[Value.ref b] s = true := fun w h => hts0 w (wsL_law_in w h)
  have hA : ∀ q : Nat, s.heap.size ≤ q → (fun q : Nat => s.heap.size ≤ q) q := fun _ h => h
  have hcf : CallFix p m c cL_law 4 s #[Value.ref b] wsL_law RL := ⟨hx, hb, hml, hown, hts⟩
  obtain ⟨dC, dI, cI, cJ, cQ, hK⟩ := start_K hts0
  obtain ⟨gz, hG⟩ := start_G hts0 hgv
  have hE := start_E hts0
  have hS : va_S (fun q : Nat => s.heap.size ≤ q) s.heap s.heap [] := va_S.rf
  have hP : va_P (dC, dI) vwCl [] s.heap := fun k q h => by simp at h
  have hD : va_D (fun q : Nat => s.heap.size ≤ q) [] := ⟨fun i j p q h => by simp at h, fun k q h => by simp at h⟩
  have hl := lv_entry ([.ref b]) (n := 4) (Nat.le_of_ble_eq_true rfl)
  rw [lg_entry_eq]
  generalize (lg_sl ([.ref b]) ++ List.replicate (4 - (lg_sl ([.ref b])).length) Slot.unset).toArray = ls at hl ⊢
  have hl : lv_has ls 4 [(0, .ref b)] := hl
  refine va_new (ci := 5) (fs := [.null, .null, .null, .null, .int 0, .null, .null, .null]) (C := RX6) (T := TX6) (N := 8) hx hb hts fiL_X6 tyX6 tyX6_ok hown (hts0 _ tw_l7) (hts0 _ tw_iX6) (hts0 _ tw_nX6) hK hP hD hS hA rfl (fun j hj => by rcases (show j = 0 ∨ j = 1 ∨ j = 2 ∨ j = 3 ∨ j = 4 ∨ j = 5 ∨ j = 6 ∨ j = 7 by omega) with rfl | rfl | rfl | rfl | rfl | rfl | rfl | rfl <;> rfl) (Nat.le_of_ble_eq_true rfl) (Nat.le_of_ble_eq_true rfl) dL_law_0 (fun q0 H hP hD hS => ?_)
  refine W.widen (k := 1) (n := 8) (Nat.le_of_ble_eq_true rfl) (Nat.le_of_ble_eq_true rfl) ?_
  refine lv_dup hx hb dL_law_3 rfl ?_
  refine rx_ctor (wr := []) hP hD hS hA (va_runI (As := []) (rest := [.ref q0]) hcf (c_X6_init l dC dI cI cJ cQ q0 H.size) (cwI 0 hts gL_law_X6_init rfl rfl rfl (hts0 _ tw_nX6) (hts0 _ tw_m9) (hts0 _ tw_o6) rfl cdI_X6_init ⟨(Nat.le_of_ble_eq_true rfl), (Nat.le_of_ble_eq_true rfl)⟩) (cq_C_pre (wr := []) ex_6_ok hE hK hP) rfl rfl hl.1 rfl (lv_room (Nat.le_of_ble_eq_true rfl)) dL_law_4 ⟨(Nat.le_of_ble_eq_true rfl), (Nat.le_of_ble_eq_true rfl)⟩) (fun u hu H locs hP2 hD2 hS2 => ?_)
  refine W.widen (k := 50) (n := 1114) (Nat.le_of_ble_eq_true rfl) (Nat.le_of_ble_eq_true rfl) ?_
  clear hP hD hS
  subst hu
  have hP : va_P (dC, dI) vwCl (wGO u.1 u.2.1 u.2.2.1 u.2.2.2.1 u.2.2.2.2.1 u.2.2.2.2.2.1 u.2.2.2.2.2.2.2 0 ++ (wGT cI u.1 (fun _ => 0) ++ (wP cI cJ u.2.1 P0 ++ (wP cI cJ u.2.2.1 P0 ++ (wP cI cJ u.2.2.2.1 P0 ++ (wTP cI cJ u.2.2.2.2.1 TP0 ++ (wTX u.2.2.2.2.2.1 u.2.2.2.2.2.2.1 ++ (wTK cI cJ u.2.2.2.2.2.2.1 TK0 ++ wSH cJ cQ u.2.2.2.2.2.2.2 SH0)))))))) H := hP2
  have hD : va_D (fun q : Nat => s.heap.size ≤ q) (wGO u.1 u.2.1 u.2.2.1 u.2.2.2.1 u.2.2.2.2.1 u.2.2.2.2.2.1 u.2.2.2.2.2.2.2 0 ++ (wGT cI u.1 (fun _ => 0) ++ (wP cI cJ u.2.1 P0 ++ (wP cI cJ u.2.2.1 P0 ++ (wP cI cJ u.2.2.2.1 P0 ++ (wTP cI cJ u.2.2.2.2.1 TP0 ++ (wTX u.2.2.2.2.2.1 u.2.2.2.2.2.2.1 ++ (wTK cI cJ u.2.2.2.2.2.2.1 TK0 ++ wSH cJ cQ u.2.2.2.2.2.2.2 SH0)))))))) := hD2
  have hS := hS2
  clear hP2 hD2 hS2
  refine lv_astore_n (lv' := [(1, .ref (u.1 0)), (0, .ref b)]) hx hb dL_law_7 rfl hl (Nat.le_of_ble_eq_true rfl) rfl (fun ls hl => ?_)
  refine va_new (ci := 6) (fs := [.null, .null, .null, .null, .null, .int 0, .int 0, .null, .null, .int 0, .int 0, .int 0, .int 0, .int 0, .null, .null, .null, .null]) (C := RX7) (T := TX7) (N := 18) hx hb hts fiL_X7 tyX7 tyX7_ok hown (hts0 _ tw_l10) (hts0 _ tw_iX7) (hts0 _ tw_nX7) hK hP hD hS hA rfl (fun j hj => by rcases (show j = 0 ∨ j = 1 ∨ j = 2 ∨ j = 3 ∨ j = 4 ∨ j = 5 ∨ j = 6 ∨ j = 7 ∨ j = 8 ∨ j = 9 ∨ j = 10 ∨ j = 11 ∨ j = 12 ∨ j = 13 ∨ j = 14 ∨ j = 15 ∨ j = 16 ∨ j = 17 by omega) with rfl | rfl | rfl | rfl | rfl | rfl | rfl | rfl | rfl | rfl | rfl | rfl | rfl | rfl | rfl | rfl | rfl | rfl <;> rfl) (Nat.le_of_ble_eq_true rfl) (Nat.le_of_ble_eq_true rfl) dL_law_8 (fun q1 H hP hD hS => ?_)
  refine W.widen (k := 51) (n := 1132) (Nat.le_of_ble_eq_true rfl) (Nat.le_of_ble_eq_true rfl) ?_
  refine lv_dup hx hb dL_law_11 rfl ?_
  refine rx_ctor (wr := (wGO u.1 u.2.1 u.2.2.1 u.2.2.2.1 u.2.2.2.2.1 u.2.2.2.2.2.1 u.2.2.2.2.2.2.2 0 ++ (wGT cI u.1 (fun _ => 0) ++ (wP cI cJ u.2.1 P0 ++ (wP cI cJ u.2.2.1 P0 ++ (wP cI cJ u.2.2.2.1 P0 ++ (wTP cI cJ u.2.2.2.2.1 TP0 ++ (wTX u.2.2.2.2.2.1 u.2.2.2.2.2.2.1 ++ (wTK cI cJ u.2.2.2.2.2.2.1 TK0 ++ wSH cJ cQ u.2.2.2.2.2.2.2 SH0))))))))) hP hD hS hA (va_runI (As := []) (rest := [.ref q1]) hcf (c_X7_init l dC dI cI cJ cQ q1 H.size) (cwI 0 hts gL_law_X7_init rfl rfl rfl (hts0 _ tw_nX7) (hts0 _ tw_m12) (hts0 _ tw_o7) rfl cdI_X7_init ⟨(Nat.le_of_ble_eq_true rfl), (Nat.le_of_ble_eq_true rfl)⟩) (cq_C_pre (wr := (wGO u.1 u.2.1 u.2.2.1 u.2.2.2.1 u.2.2.2.2.1 u.2.2.2.2.2.1 u.2.2.2.2.2.2.2 0 ++ (wGT cI u.1 (fun _ => 0) ++ (wP cI cJ u.2.1 P0 ++ (wP cI cJ u.2.2.1 P0 ++ (wP cI cJ u.2.2.2.1 P0 ++ (wTP cI cJ u.2.2.2.2.1 TP0 ++ (wTX u.2.2.2.2.2.1 u.2.2.2.2.2.2.1 ++ (wTK cI cJ u.2.2.2.2.2.2.1 TK0 ++ wSH cJ cQ u.2.2.2.2.2.2.2 SH0))))))))) ex_T trivial hK hP) rfl rfl hl.1 rfl (lv_room (Nat.le_of_ble_eq_true rfl)) dL_law_12 ⟨(Nat.le_of_ble_eq_true rfl), (Nat.le_of_ble_eq_true rfl)⟩) (fun v hv H locs hP2 hD2 hS2 => ?_)
  refine W.widen (k := 62) (n := 1683) (Nat.le_of_ble_eq_true rfl) (Nat.le_of_ble_eq_true rfl) ?_
  clear hP hD hS
  subst hv
  have hP : va_P (dC, dI) vwCl (wGO u.1 u.2.1 u.2.2.1 u.2.2.2.1 u.2.2.2.2.1 u.2.2.2.2.2.1 u.2.2.2.2.2.2.2 0 ++ (wGT cI u.1 (fun _ => 0) ++ (wP cI cJ u.2.1 P0 ++ (wP cI cJ u.2.2.1 P0 ++ (wP cI cJ u.2.2.2.1 P0 ++ (wTP cI cJ u.2.2.2.2.1 TP0 ++ (wTX u.2.2.2.2.2.1 u.2.2.2.2.2.2.1 ++ (wTK cI cJ u.2.2.2.2.2.2.1 TK0 ++ (wSH cJ cQ u.2.2.2.2.2.2.2 SH0 ++ wM cI cJ v M0))))))))) H := by simpa only [List.append_assoc] using hP2
  have hD : va_D (fun q : Nat => s.heap.size ≤ q) (wGO u.1 u.2.1 u.2.2.1 u.2.2.2.1 u.2.2.2.2.1 u.2.2.2.2.2.1 u.2.2.2.2.2.2.2 0 ++ (wGT cI u.1 (fun _ => 0) ++ (wP cI cJ u.2.1 P0 ++ (wP cI cJ u.2.2.1 P0 ++ (wP cI cJ u.2.2.2.1 P0 ++ (wTP cI cJ u.2.2.2.2.1 TP0 ++ (wTX u.2.2.2.2.2.1 u.2.2.2.2.2.2.1 ++ (wTK cI cJ u.2.2.2.2.2.2.1 TK0 ++ (wSH cJ cQ u.2.2.2.2.2.2.2 SH0 ++ wM cI cJ v M0))))))))) := by simpa only [List.append_assoc] using hD2
  have hS := hS2
  clear hP2 hD2 hS2
  refine lv_astore_n (lv' := [(2, .ref (v 0)), (1, .ref (u.1 0)), (0, .ref b)]) hx hb dL_law_15 rfl hl (Nat.le_of_ble_eq_true rfl) rfl (fun ls hl => ?_)
  refine lv_iconst (v := 0) hx hb dL_law_16 (by decide) ?_
  refine lv_istore_n (lv' := [(3, .int 0), (2, .ref (v 0)), (1, .ref (u.1 0)), (0, .ref b)]) hx hb dL_law_17 rfl hl (Nat.le_of_ble_eq_true rfl) rfl (fun ls hl => ?_)
  exact law_loop l C0 dC dI cI cJ cQ 5000 gz u.1 u.2.1 u.2.2.1 u.2.2.2.1 u.2.2.2.2.1 u.2.2.2.2.2.1 u.2.2.2.2.2.2.2 u.2.2.2.2.2.2.1 v hK hG 0 (fun _ => 0) P0 P0 P0 TP0 TK0 SH0 M0 0 (law_one hL JJ_0) H locs ls hP hD hS (lv_sub hl [3, 2, 1, 0] rfl)
