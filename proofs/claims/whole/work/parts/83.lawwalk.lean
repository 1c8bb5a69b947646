set_option maxHeartbeats 40000000 in
set_option maxRecDepth 100000 in
theorem law_loop {p : Program} {e : Env} {s : State} {m : MethodId} {below : List Frame} {meth : Method} {c : Code} (l : Launch) {b L : Nat} {xs : Nat → Int32} (C0 : lw_At p s m meth c b L xs) (dC : Nat → ClassId) (dI : Nat → Nat → Nat) (cI cJ cQ : ClassId) (fu : Nat) (gz : GZ) (a_g a_h a_q a_k a_p a_x a_s : Nat → Nat) (a_z : Nat → Nat) (a_m : Nat → Nat) (hK : va_K (dC, dI) vwCl (gty cI cJ cQ) s) (hG : gs gz (fun q : Nat => s.heap.size ≤ q) s s.heap) : ∀ (s_g : Int32) (s_o : (Nat → Int32)) (s_h : PS) (s_q : PS) (s_k : PS) (s_p : TPS) (s_z : TKS) (s_s : SHS) (s_m : MS) (x3 : Int32), fL_law_b18 fu L xs    s_g s_o s_h s_q s_k s_p s_z s_s s_m x3 = some (1 : Int32) → bk_L p l e s m b below meth c (dC, dI) vwCl 62 1683 4 (wGO a_g a_h a_q a_k a_p a_x a_s s_g ++ (wGT cI a_g s_o ++ (wP cI cJ a_h s_h ++ (wP cI cJ a_q s_q ++ (wP cI cJ a_k s_k ++ (wTP cI cJ a_p s_p ++ (wTX a_x a_z ++ (wTK cI cJ a_z s_z ++ (wSH cJ cQ a_s s_s ++ (wM cI cJ a_m s_m)))))))))) 18 [(0, .ref b), (1, .ref (a_g 0)), (2, .ref (a_m 0)), (3, .int x3)] [] := by
  obtain ⟨hx, hb, hr, hml, hown, hts0, hX, hbl, hlocks, hgv⟩ := C0
  have hts : ∀ w ∈ wsL_law, w.before #[Value.ref b] s = true := fun w h => hts0 w (wsL_law_in w h)
  have hA : ∀ q : Nat, s.heap.size ≤ q → (fun q : Nat => s.heap.size ≤ q) q := fun _ h => h
  have hbA : ¬ (fun q : Nat => s.heap.size ≤ q) b := Nat.not_le.mpr hbl
  have hcf : CallFix p m c cL_law 4 s #[Value.ref b] wsL_law RL := ⟨hx, hb, hml, hown, hts⟩
  have kc_129 := hts (.constantLong RL 129 (4294967295)) (List.mem_of_getElem? (i := 6) rfl)
  have b18 : ∀ (s_g : Int32) (s_o : (Nat → Int32)) (s_h : PS) (s_q : PS) (s_k : PS) (s_p : TPS) (s_z : TKS) (s_s : SHS) (s_m : MS) (x3 : Int32), fL_law_b18 fu L xs    s_g s_o s_h s_q s_k s_p s_z s_s s_m x3 = some (1 : Int32) → bk_L p l e s m b below meth c (dC, dI) vwCl 62 1683 4 (wGO a_g a_h a_q a_k a_p a_x a_s s_g ++ (wGT cI a_g s_o ++ (wP cI cJ a_h s_h ++ (wP cI cJ a_q s_q ++ (wP cI cJ a_k s_k ++ (wTP cI cJ a_p s_p ++ (wTX a_x a_z ++ (wTK cI cJ a_z s_z ++ (wSH cJ cQ a_s s_s ++ (wM cI cJ a_m s_m)))))))))) 18 [(0, .ref b), (1, .ref (a_g 0)), (2, .ref (a_m 0)), (3, .int x3)] [] := by
    have L : ∀ (n : Nat) (s_g : Int32) (s_o : (Nat → Int32)) (s_h : PS) (s_q : PS) (s_k : PS) (s_p : TPS) (s_z : TKS) (s_s : SHS) (s_m : MS) (x3 : Int32), g_lp (fun _ _ _ _ _ _ _ _ _ _ => none) (fL_law_b18B fu L xs   ) n s_g s_o s_h s_q s_k s_p s_z s_s s_m x3 = some (1 : Int32) → bk_L p l e s m b below meth c (dC, dI) vwCl 62 1683 4 (wGO a_g a_h a_q a_k a_p a_x a_s s_g ++ (wGT cI a_g s_o ++ (wP cI cJ a_h s_h ++ (wP cI cJ a_q s_q ++ (wP cI cJ a_k s_k ++ (wTP cI cJ a_p s_p ++ (wTX a_x a_z ++ (wTK cI cJ a_z s_z ++ (wSH cJ cQ a_s s_s ++ (wM cI cJ a_m s_m)))))))))) 18 [(0, .ref b), (1, .ref (a_g 0)), (2, .ref (a_m 0)), (3, .int x3)] [] := by
      intro n
      induction n with
      | zero => intro s_g s_o s_h s_q s_k s_p s_z s_s s_m x3 hd; exact absurd hd (by intro h; cases h)
      | succ n k18 =>
        intro s_g s_o s_h s_q s_k s_p s_z s_s s_m x3 hd
        intro H locs ls hP hD hS hl
        have hd : fL_law_b18B fu L xs    (g_lp (fun _ _ _ _ _ _ _ _ _ _ => none) (fL_law_b18B fu L xs   ) n) s_g s_o s_h s_q s_k s_p s_z s_s s_m x3 = some (1 : Int32) := hd
        unfold fL_law_b18B at hd
        refine lv_iload_n hx hb dL_law_18 rfl (lv_at hl 3 rfl) ?_
        refine lv_aload_n hx hb dL_law_19 rfl (lv_at hl 0 rfl) ?_
        refine va_slen hx hb hX hbl hbA hS dL_law_20 ?_
        refine lv_bipush (v := 6) hx hb dL_law_21 kb_6 ?_
        refine lv_isub hx hb dL_law_23 ?_
        refine rx_icmp_gt hx hb 1341 dL_law_24 rfl hd (fun hd => ?_) (fun hd => ?_)
        · refine lv_iconst (v := 1) hx hb dL_law_1341 ki_1 ?_
          exact va_forget hS.2.2 (W.widen (Nat.le_of_ble_eq_true rfl) (Nat.le_of_ble_eq_true rfl) (lw_ret hx hb hr hlocks dL_law_1342))
        refine lv_aload_n hx hb dL_law_27 rfl (lv_at hl 0 rfl) ?_
        refine lv_iload_n hx hb dL_law_28 rfl (lv_at hl 3 rfl) ?_
        refine rx_sld hx hb hX hbl hbA hS hd dL_law_29 (fun v29 hd => ?_)
        refine lv_bipush (v := 63) hx hb dL_law_30 kb_63 ?_
        refine lv_iand hx hb dL_law_32 ?_
        refine rx_topi hd (fun x_33 hd => ?_)
        refine rx_tab hx hb (0 : Int32) (0) rfl 200 dL_law_33 (by decide) (by decide) rfl rfl hd (fun hd => ?_) (fun n_0 hd => ?_)
        · refine lv_aload_n hx hb dL_law_200 rfl (lv_at hl 1 rfl) ?_
          refine lv_aload_n hx hb dL_law_201 rfl (lv_at hl 0 rfl) ?_
          refine lv_iload_n hx hb dL_law_202 rfl (lv_at hl 3 rfl) ?_
          refine lv_iconst (v := 1) hx hb dL_law_203 ki_1 ?_
          refine lv_iadd hx hb dL_law_204 ?_
          refine rx_sld hx hb hX hbl hbA hS hd dL_law_205 (fun v205 hd => ?_)
          refine lv_aload_n hx hb dL_law_206 rfl (lv_at hl 0 rfl) ?_
          refine lv_iload_n hx hb dL_law_207 rfl (lv_at hl 3 rfl) ?_
          refine lv_iconst (v := 2) hx hb dL_law_208 ki_2 ?_
          refine lv_iadd hx hb dL_law_209 ?_
          refine rx_sld hx hb hX hbl hbA hS hd dL_law_210 (fun v210 hd => ?_)
          refine lv_aload_n hx hb dL_law_211 rfl (lv_at hl 0 rfl) ?_
          refine lv_iload_n hx hb dL_law_212 rfl (lv_at hl 3 rfl) ?_
          refine lv_iconst (v := 3) hx hb dL_law_213 ki_3 ?_
          refine lv_iadd hx hb dL_law_214 ?_
          refine rx_sld hx hb hX hbl hbA hS hd dL_law_215 (fun v215 hd => ?_)
          refine rx_upi (fun u => (wGO a_g a_h a_q a_k a_p a_x a_s s_g ++ (wGT cI a_g u.1 ++ (wP cI cJ a_h u.2 ++ (wP cI cJ a_q s_q ++ (wP cI cJ a_k s_k ++ (wTP cI cJ a_p s_p ++ (wTX a_x a_z ++ (wTK cI cJ a_z s_z ++ (wSH cJ cQ a_s s_s ++ (wM cI cJ a_m s_m))))))))))) hd hP hD hS hA ⟨[0, 1, 2, 3, 4, 5, 6, 7, 8, 9, 10, 11], [12, 13, 14, 15, 16, 17, 18, 19, 20, 21, 22, 23, 24, 25, 26, 27, 28, 29, 30, 31, 32, 33, 34, 35, 36, 37, 38, 39, 40, 41, 42, 43, 44, 45, 46, 47, 48, 49, 50, 51, 52, 53, 54, 55, 56, 57, 58, 59, 60, 61], [50, 51, 52, 53, 54, 55, 56, 57, 58, 59, 60, 61, 0, 1, 2, 3, 4, 5, 6, 7, 8, 9, 10, 11, 12, 13, 14, 15, 16, 17, 18, 19, 20, 21, 22, 23, 24, 25, 26, 27, 28, 29, 30, 31, 32, 33, 34, 35, 36, 37, 38, 39, 40, 41, 42, 43, 44, 45, 46, 47, 48, 49], wP cI cJ a_q s_q ++ (wP cI cJ a_k s_k ++ (wTP cI cJ a_p s_p ++ (wTX a_x a_z ++ (wTK cI cJ a_z s_z ++ (wSH cJ cQ a_s s_s ++ (wM cI cJ a_m s_m)))))), rfl, rfl, rfl, by decide, rfl, fun _ => rfl⟩ (fun v hv => va_runV (As := [.int v205, .int v210, .int v215]) (rest := []) hcf (c_X6_farm l dC dI cI cJ cQ fu a_g a_h a_q a_k a_p a_x a_s _  s_g s_o s_h v205 v210 v215 v hv) (cwV 3 hts gL_law_X6_farm rfl rfl rfl cd_X6_farm ⟨(Nat.le_of_ble_eq_true rfl), (Nat.le_of_ble_eq_true rfl)⟩) (cq_U_V (q0 := 0) (ci := 5) hK hP hD [0, 1, 2, 3, 4, 5, 6, 7, 8, 9, 10, 11] rfl rfl rfl rfl) rfl rfl hl.1 rfl (lv_room (Nat.le_of_ble_eq_true rfl)) dL_law_216 ⟨(Nat.le_of_ble_eq_true rfl), (Nat.le_of_ble_eq_true rfl)⟩) (fun u216 hd H locs hP hD hS => ?_)
          refine lv_aload_n hx hb dL_law_219 rfl (lv_at hl 2 rfl) ?_
          refine lv_aload_n hx hb dL_law_220 rfl (lv_at hl 0 rfl) ?_
          refine lv_iload_n hx hb dL_law_221 rfl (lv_at hl 3 rfl) ?_
          refine lv_iconst (v := 1) hx hb dL_law_222 ki_1 ?_
          refine lv_iadd hx hb dL_law_223 ?_
          refine rx_sld hx hb hX hbl hbA hS hd dL_law_224 (fun v224 hd => ?_)
          refine lv_aload_n hx hb dL_law_225 rfl (lv_at hl 0 rfl) ?_
          refine lv_iload_n hx hb dL_law_226 rfl (lv_at hl 3 rfl) ?_
          refine lv_iconst (v := 2) hx hb dL_law_227 ki_2 ?_
          refine lv_iadd hx hb dL_law_228 ?_
          refine rx_sld hx hb hX hbl hbA hS hd dL_law_229 (fun v229 hd => ?_)
          refine lv_aload_n hx hb dL_law_230 rfl (lv_at hl 0 rfl) ?_
          refine lv_iload_n hx hb dL_law_231 rfl (lv_at hl 3 rfl) ?_
          refine lv_iconst (v := 3) hx hb dL_law_232 ki_3 ?_
          refine lv_iadd hx hb dL_law_233 ?_
          refine rx_sld hx hb hX hbl hbA hS hd dL_law_234 (fun v234 hd => ?_)
          refine rx_upi (fun u => (wGO a_g a_h a_q a_k a_p a_x a_s s_g ++ (wGT cI a_g u216.2.1 ++ (wP cI cJ a_h u216.2.2 ++ (wP cI cJ a_q s_q ++ (wP cI cJ a_k s_k ++ (wTP cI cJ a_p s_p ++ (wTX a_x a_z ++ (wTK cI cJ a_z s_z ++ (wSH cJ cQ a_s s_s ++ (wM cI cJ a_m u))))))))))) hd hP hD hS hA ⟨[50, 51, 52, 53, 54, 55, 56, 57, 58, 59, 60, 61], [0, 1, 2, 3, 4, 5, 6, 7, 8, 9, 10, 11, 12, 13, 14, 15, 16, 17, 18, 19, 20, 21, 22, 23, 24, 25, 26, 27, 28, 29, 30, 31, 32, 33, 34, 35, 36, 37, 38, 39, 40, 41, 42, 43, 44, 45, 46, 47, 48, 49], [0, 1, 2, 3, 4, 5, 6, 7, 8, 9, 10, 11, 12, 13, 14, 15, 16, 17, 18, 19, 20, 21, 22, 23, 24, 25, 26, 27, 28, 29, 30, 31, 32, 33, 34, 35, 36, 37, 38, 39, 40, 41, 42, 43, 44, 45, 46, 47, 48, 49, 50, 51, 52, 53, 54, 55, 56, 57, 58, 59, 60, 61], wGO a_g a_h a_q a_k a_p a_x a_s s_g ++ (wGT cI a_g u216.2.1 ++ (wP cI cJ a_h u216.2.2 ++ (wP cI cJ a_q s_q ++ (wP cI cJ a_k s_k ++ (wTP cI cJ a_p s_p ++ (wTX a_x a_z ++ (wTK cI cJ a_z s_z ++ (wSH cJ cQ a_s s_s)))))))), rfl, rfl, rfl, by decide, rfl, fun _ => rfl⟩ (fun v hv => va_runV (As := [.int v224, .int v229, .int v234]) (rest := [.int u216.1]) hcf (c_X7_farm l dC dI cI cJ cQ fu a_m _  s_m v224 v229 v234 v hv) (cwV 3 hts gL_law_X7_farm rfl rfl rfl cd_X7_farm ⟨(Nat.le_of_ble_eq_true rfl), (Nat.le_of_ble_eq_true rfl)⟩) (cq_U_V (q0 := 50) (ci := 6) hK hP hD [50, 51, 52, 53, 54, 55, 56, 57, 58, 59, 60, 61] rfl rfl rfl rfl) rfl rfl hl.1 rfl (lv_room (Nat.le_of_ble_eq_true rfl)) dL_law_235 ⟨(Nat.le_of_ble_eq_true rfl), (Nat.le_of_ble_eq_true rfl)⟩) (fun u235 hd H locs hP hD hS => ?_)
          refine rx_icmp_eq hx hb 1335 dL_law_238 rfl hd (fun hd => ?_) (fun hd => ?_)
          · refine rx_iinc (lv' := fun z => (3, .int z) :: [(0, .ref b), (1, .ref (a_g 0)), (2, .ref (a_m 0))]) hx hb (j := 3) dL_law_1335 hl rfl ki_6 hd (Nat.le_of_ble_eq_true rfl) (fun _ => rfl) (fun x3_1335 hd ls hl => ?_)
            refine lv_goto (tgt := 18) hx hb dL_law_1338 rfl ?_
            exact k18 s_g u216.2.1 u216.2.2 s_q s_k s_p s_z s_s u235.2 x3_1335 hd _ _ _ hP hD hS (lv_sub hl [1, 2, 3, 0] rfl)
          refine lv_iconst (v := 0) hx hb dL_law_241 ki_0 ?_
          exact absurd (Option.some.inj hd) (by decide)
        refine rx_tab hx hb (1 : Int32) (1) rfl 243 dL_law_33 (by decide) (by decide) rfl rfl hd (fun hd => ?_) (fun n_1 hd => ?_)
        · refine lv_aload_n hx hb dL_law_243 rfl (lv_at hl 1 rfl) ?_
          refine lv_aload_n hx hb dL_law_244 rfl (lv_at hl 0 rfl) ?_
          refine lv_iload_n hx hb dL_law_245 rfl (lv_at hl 3 rfl) ?_
          refine lv_iconst (v := 1) hx hb dL_law_246 ki_1 ?_
          refine lv_iadd hx hb dL_law_247 ?_
          refine rx_sld hx hb hX hbl hbA hS hd dL_law_248 (fun v248 hd => ?_)
          refine lv_aload_n hx hb dL_law_249 rfl (lv_at hl 0 rfl) ?_
          refine lv_iload_n hx hb dL_law_250 rfl (lv_at hl 3 rfl) ?_
          refine lv_iconst (v := 2) hx hb dL_law_251 ki_2 ?_
          refine lv_iadd hx hb dL_law_252 ?_
          refine rx_sld hx hb hX hbl hbA hS hd dL_law_253 (fun v253 hd => ?_)
          refine rx_upi (fun u => (wGO a_g a_h a_q a_k a_p a_x a_s s_g ++ (wGT cI a_g u ++ (wP cI cJ a_h s_h ++ (wP cI cJ a_q s_q ++ (wP cI cJ a_k s_k ++ (wTP cI cJ a_p s_p ++ (wTX a_x a_z ++ (wTK cI cJ a_z s_z ++ (wSH cJ cQ a_s s_s ++ (wM cI cJ a_m s_m))))))))))) hd hP hD hS hA ⟨[0, 1, 2, 3, 4, 5, 6, 7, 8, 9, 10, 11], [12, 13, 14, 15, 16, 17, 18, 19, 20, 21, 22, 23, 24, 25, 26, 27, 28, 29, 30, 31, 32, 33, 34, 35, 36, 37, 38, 39, 40, 41, 42, 43, 44, 45, 46, 47, 48, 49, 50, 51, 52, 53, 54, 55, 56, 57, 58, 59, 60, 61], [50, 51, 52, 53, 54, 55, 56, 57, 58, 59, 60, 61, 0, 1, 2, 3, 4, 5, 6, 7, 8, 9, 10, 11, 12, 13, 14, 15, 16, 17, 18, 19, 20, 21, 22, 23, 24, 25, 26, 27, 28, 29, 30, 31, 32, 33, 34, 35, 36, 37, 38, 39, 40, 41, 42, 43, 44, 45, 46, 47, 48, 49], wP cI cJ a_q s_q ++ (wP cI cJ a_k s_k ++ (wTP cI cJ a_p s_p ++ (wTX a_x a_z ++ (wTK cI cJ a_z s_z ++ (wSH cJ cQ a_s s_s ++ (wM cI cJ a_m s_m)))))), rfl, rfl, rfl, by decide, rfl, fun _ => rfl⟩ (fun v hv => va_runV (As := [.int v248, .int v253]) (rest := []) hcf (c_X6_farmOf l dC dI cI cJ cQ fu a_g a_h a_q a_k a_p a_x a_s _  s_g s_o s_h v248 v253 v hv) (cwV 2 hts gL_law_X6_farmOf rfl rfl rfl cd_X6_farmOf ⟨(Nat.le_of_ble_eq_true rfl), (Nat.le_of_ble_eq_true rfl)⟩) (cq_U_V (q0 := 0) (ci := 5) hK hP hD [0, 1, 2, 3, 4, 5, 6, 7, 8, 9, 10, 11] rfl rfl rfl rfl) rfl rfl hl.1 rfl (lv_room (Nat.le_of_ble_eq_true rfl)) dL_law_254 ⟨(Nat.le_of_ble_eq_true rfl), (Nat.le_of_ble_eq_true rfl)⟩) (fun u254 hd H locs hP hD hS => ?_)
          refine lv_aload_n hx hb dL_law_257 rfl (lv_at hl 2 rfl) ?_
          refine lv_aload_n hx hb dL_law_258 rfl (lv_at hl 0 rfl) ?_
          refine lv_iload_n hx hb dL_law_259 rfl (lv_at hl 3 rfl) ?_
          refine lv_iconst (v := 1) hx hb dL_law_260 ki_1 ?_
          refine lv_iadd hx hb dL_law_261 ?_
          refine rx_sld hx hb hX hbl hbA hS hd dL_law_262 (fun v262 hd => ?_)
          refine lv_aload_n hx hb dL_law_263 rfl (lv_at hl 0 rfl) ?_
          refine lv_iload_n hx hb dL_law_264 rfl (lv_at hl 3 rfl) ?_
          refine lv_iconst (v := 2) hx hb dL_law_265 ki_2 ?_
          refine lv_iadd hx hb dL_law_266 ?_
          refine rx_sld hx hb hX hbl hbA hS hd dL_law_267 (fun v267 hd => ?_)
          refine rx_upi (fun u => (wGO a_g a_h a_q a_k a_p a_x a_s s_g ++ (wGT cI a_g u254.2 ++ (wP cI cJ a_h s_h ++ (wP cI cJ a_q s_q ++ (wP cI cJ a_k s_k ++ (wTP cI cJ a_p s_p ++ (wTX a_x a_z ++ (wTK cI cJ a_z s_z ++ (wSH cJ cQ a_s s_s ++ (wM cI cJ a_m u))))))))))) hd hP hD hS hA ⟨[50, 51, 52, 53, 54, 55, 56, 57, 58, 59, 60, 61], [0, 1, 2, 3, 4, 5, 6, 7, 8, 9, 10, 11, 12, 13, 14, 15, 16, 17, 18, 19, 20, 21, 22, 23, 24, 25, 26, 27, 28, 29, 30, 31, 32, 33, 34, 35, 36, 37, 38, 39, 40, 41, 42, 43, 44, 45, 46, 47, 48, 49], [0, 1, 2, 3, 4, 5, 6, 7, 8, 9, 10, 11, 12, 13, 14, 15, 16, 17, 18, 19, 20, 21, 22, 23, 24, 25, 26, 27, 28, 29, 30, 31, 32, 33, 34, 35, 36, 37, 38, 39, 40, 41, 42, 43, 44, 45, 46, 47, 48, 49, 50, 51, 52, 53, 54, 55, 56, 57, 58, 59, 60, 61], wGO a_g a_h a_q a_k a_p a_x a_s s_g ++ (wGT cI a_g u254.2 ++ (wP cI cJ a_h s_h ++ (wP cI cJ a_q s_q ++ (wP cI cJ a_k s_k ++ (wTP cI cJ a_p s_p ++ (wTX a_x a_z ++ (wTK cI cJ a_z s_z ++ (wSH cJ cQ a_s s_s)))))))), rfl, rfl, rfl, by decide, rfl, fun _ => rfl⟩ (fun v hv => va_runV (As := [.int v262, .int v267]) (rest := [.int u254.1]) hcf (c_X7_farmOf l dC dI cI cJ cQ fu a_m _  s_m v262 v267 v hv) (cwV 2 hts gL_law_X7_farmOf rfl rfl rfl cd_X7_farmOf ⟨(Nat.le_of_ble_eq_true rfl), (Nat.le_of_ble_eq_true rfl)⟩) (cq_U_V (q0 := 50) (ci := 6) hK hP hD [50, 51, 52, 53, 54, 55, 56, 57, 58, 59, 60, 61] rfl rfl rfl rfl) rfl rfl hl.1 rfl (lv_room (Nat.le_of_ble_eq_true rfl)) dL_law_268 ⟨(Nat.le_of_ble_eq_true rfl), (Nat.le_of_ble_eq_true rfl)⟩) (fun u268 hd H locs hP hD hS => ?_)
          refine rx_icmp_eq hx hb 1335 dL_law_271 rfl hd (fun hd => ?_) (fun hd => ?_)
          · refine rx_iinc (lv' := fun z => (3, .int z) :: [(0, .ref b), (1, .ref (a_g 0)), (2, .ref (a_m 0))]) hx hb (j := 3) dL_law_1335 hl rfl ki_6 hd (Nat.le_of_ble_eq_true rfl) (fun _ => rfl) (fun x3_1335 hd ls hl => ?_)
            refine lv_goto (tgt := 18) hx hb dL_law_1338 rfl ?_
            exact k18 s_g u254.2 s_h s_q s_k s_p s_z s_s u268.2 x3_1335 hd _ _ _ hP hD hS (lv_sub hl [1, 2, 3, 0] rfl)
          refine lv_iconst (v := 0) hx hb dL_law_274 ki_0 ?_
          exact absurd (Option.some.inj hd) (by decide)
        refine rx_tab hx hb (2 : Int32) (2) rfl 276 dL_law_33 (by decide) (by decide) rfl rfl hd (fun hd => ?_) (fun n_2 hd => ?_)
        · refine lv_aload_n hx hb dL_law_276 rfl (lv_at hl 1 rfl) ?_
          refine lv_aload_n hx hb dL_law_277 rfl (lv_at hl 0 rfl) ?_
          refine lv_iload_n hx hb dL_law_278 rfl (lv_at hl 3 rfl) ?_
          refine lv_iconst (v := 1) hx hb dL_law_279 ki_1 ?_
          refine lv_iadd hx hb dL_law_280 ?_
          refine rx_sld hx hb hX hbl hbA hS hd dL_law_281 (fun v281 hd => ?_)
          refine lv_aload_n hx hb dL_law_282 rfl (lv_at hl 0 rfl) ?_
          refine lv_iload_n hx hb dL_law_283 rfl (lv_at hl 3 rfl) ?_
          refine lv_iconst (v := 2) hx hb dL_law_284 ki_2 ?_
          refine lv_iadd hx hb dL_law_285 ?_
          refine rx_sld hx hb hX hbl hbA hS hd dL_law_286 (fun v286 hd => ?_)
          refine rx_upi (fun u => (wGO a_g a_h a_q a_k a_p a_x a_s s_g ++ (wGT cI a_g u.1 ++ (wP cI cJ a_h u.2 ++ (wP cI cJ a_q s_q ++ (wP cI cJ a_k s_k ++ (wTP cI cJ a_p s_p ++ (wTX a_x a_z ++ (wTK cI cJ a_z s_z ++ (wSH cJ cQ a_s s_s ++ (wM cI cJ a_m s_m))))))))))) hd hP hD hS hA ⟨[0, 1, 2, 3, 4, 5, 6, 7, 8, 9, 10, 11], [12, 13, 14, 15, 16, 17, 18, 19, 20, 21, 22, 23, 24, 25, 26, 27, 28, 29, 30, 31, 32, 33, 34, 35, 36, 37, 38, 39, 40, 41, 42, 43, 44, 45, 46, 47, 48, 49, 50, 51, 52, 53, 54, 55, 56, 57, 58, 59, 60, 61], [50, 51, 52, 53, 54, 55, 56, 57, 58, 59, 60, 61, 0, 1, 2, 3, 4, 5, 6, 7, 8, 9, 10, 11, 12, 13, 14, 15, 16, 17, 18, 19, 20, 21, 22, 23, 24, 25, 26, 27, 28, 29, 30, 31, 32, 33, 34, 35, 36, 37, 38, 39, 40, 41, 42, 43, 44, 45, 46, 47, 48, 49], wP cI cJ a_q s_q ++ (wP cI cJ a_k s_k ++ (wTP cI cJ a_p s_p ++ (wTX a_x a_z ++ (wTK cI cJ a_z s_z ++ (wSH cJ cQ a_s s_s ++ (wM cI cJ a_m s_m)))))), rfl, rfl, rfl, by decide, rfl, fun _ => rfl⟩ (fun v hv => va_runV (As := [.int v281, .int v286]) (rest := []) hcf (c_X6_water l dC dI cI cJ cQ fu gz a_g a_h a_q a_k a_p a_x a_s _  s_g s_o s_h v281 v286 v hv) (cwV 2 hts gL_law_X6_water rfl rfl rfl cd_X6_water ⟨(Nat.le_of_ble_eq_true rfl), (Nat.le_of_ble_eq_true rfl)⟩) (cq_UG_V (q0 := 0) (ci := 5) hG hS hA hK hP hD [0, 1, 2, 3, 4, 5, 6, 7, 8, 9, 10, 11] rfl rfl rfl rfl) rfl rfl hl.1 rfl (lv_room (Nat.le_of_ble_eq_true rfl)) dL_law_287 ⟨(Nat.le_of_ble_eq_true rfl), (Nat.le_of_ble_eq_true rfl)⟩) (fun u287 hd H locs hP hD hS => ?_)
          refine lv_aload_n hx hb dL_law_290 rfl (lv_at hl 2 rfl) ?_
          refine lv_aload_n hx hb dL_law_291 rfl (lv_at hl 0 rfl) ?_
          refine lv_iload_n hx hb dL_law_292 rfl (lv_at hl 3 rfl) ?_
          refine lv_iconst (v := 1) hx hb dL_law_293 ki_1 ?_
          refine lv_iadd hx hb dL_law_294 ?_
          refine rx_sld hx hb hX hbl hbA hS hd dL_law_295 (fun v295 hd => ?_)
          refine lv_aload_n hx hb dL_law_296 rfl (lv_at hl 0 rfl) ?_
          refine lv_iload_n hx hb dL_law_297 rfl (lv_at hl 3 rfl) ?_
          refine lv_iconst (v := 2) hx hb dL_law_298 ki_2 ?_
          refine lv_iadd hx hb dL_law_299 ?_
          refine rx_sld hx hb hX hbl hbA hS hd dL_law_300 (fun v300 hd => ?_)
          refine rx_upi (fun u => (wGO a_g a_h a_q a_k a_p a_x a_s s_g ++ (wGT cI a_g u287.2.1 ++ (wP cI cJ a_h u287.2.2 ++ (wP cI cJ a_q s_q ++ (wP cI cJ a_k s_k ++ (wTP cI cJ a_p s_p ++ (wTX a_x a_z ++ (wTK cI cJ a_z s_z ++ (wSH cJ cQ a_s s_s ++ (wM cI cJ a_m u))))))))))) hd hP hD hS hA ⟨[50, 51, 52, 53, 54, 55, 56, 57, 58, 59, 60, 61], [0, 1, 2, 3, 4, 5, 6, 7, 8, 9, 10, 11, 12, 13, 14, 15, 16, 17, 18, 19, 20, 21, 22, 23, 24, 25, 26, 27, 28, 29, 30, 31, 32, 33, 34, 35, 36, 37, 38, 39, 40, 41, 42, 43, 44, 45, 46, 47, 48, 49], [0, 1, 2, 3, 4, 5, 6, 7, 8, 9, 10, 11, 12, 13, 14, 15, 16, 17, 18, 19, 20, 21, 22, 23, 24, 25, 26, 27, 28, 29, 30, 31, 32, 33, 34, 35, 36, 37, 38, 39, 40, 41, 42, 43, 44, 45, 46, 47, 48, 49, 50, 51, 52, 53, 54, 55, 56, 57, 58, 59, 60, 61], wGO a_g a_h a_q a_k a_p a_x a_s s_g ++ (wGT cI a_g u287.2.1 ++ (wP cI cJ a_h u287.2.2 ++ (wP cI cJ a_q s_q ++ (wP cI cJ a_k s_k ++ (wTP cI cJ a_p s_p ++ (wTX a_x a_z ++ (wTK cI cJ a_z s_z ++ (wSH cJ cQ a_s s_s)))))))), rfl, rfl, rfl, by decide, rfl, fun _ => rfl⟩ (fun v hv => va_runV (As := [.int v295, .int v300]) (rest := [.int u287.1]) hcf (c_X7_water l dC dI cI cJ cQ fu a_m _  s_m v295 v300 v hv) (cwV 2 hts gL_law_X7_water rfl rfl rfl cd_X7_water ⟨(Nat.le_of_ble_eq_true rfl), (Nat.le_of_ble_eq_true rfl)⟩) (cq_U_V (q0 := 50) (ci := 6) hK hP hD [50, 51, 52, 53, 54, 55, 56, 57, 58, 59, 60, 61] rfl rfl rfl rfl) rfl rfl hl.1 rfl (lv_room (Nat.le_of_ble_eq_true rfl)) dL_law_301 ⟨(Nat.le_of_ble_eq_true rfl), (Nat.le_of_ble_eq_true rfl)⟩) (fun u301 hd H locs hP hD hS => ?_)
          refine rx_icmp_eq hx hb 1335 dL_law_304 rfl hd (fun hd => ?_) (fun hd => ?_)
          · refine rx_iinc (lv' := fun z => (3, .int z) :: [(0, .ref b), (1, .ref (a_g 0)), (2, .ref (a_m 0))]) hx hb (j := 3) dL_law_1335 hl rfl ki_6 hd (Nat.le_of_ble_eq_true rfl) (fun _ => rfl) (fun x3_1335 hd ls hl => ?_)
            refine lv_goto (tgt := 18) hx hb dL_law_1338 rfl ?_
            exact k18 s_g u287.2.1 u287.2.2 s_q s_k s_p s_z s_s u301.2 x3_1335 hd _ _ _ hP hD hS (lv_sub hl [1, 2, 3, 0] rfl)
          refine lv_iconst (v := 0) hx hb dL_law_307 ki_0 ?_
          exact absurd (Option.some.inj hd) (by decide)
        refine rx_tab hx hb (3 : Int32) (3) rfl 309 dL_law_33 (by decide) (by decide) rfl rfl hd (fun hd => ?_) (fun n_3 hd => ?_)
        · refine lv_aload_n hx hb dL_law_309 rfl (lv_at hl 1 rfl) ?_
          refine lv_aload_n hx hb dL_law_310 rfl (lv_at hl 0 rfl) ?_
          refine lv_iload_n hx hb dL_law_311 rfl (lv_at hl 3 rfl) ?_
          refine lv_iconst (v := 1) hx hb dL_law_312 ki_1 ?_
          refine lv_iadd hx hb dL_law_313 ?_
          refine rx_sld hx hb hX hbl hbA hS hd dL_law_314 (fun v314 hd => ?_)
          refine rx_upi (fun u => (wGO a_g a_h a_q a_k a_p a_x a_s s_g ++ (wGT cI a_g u.1 ++ (wP cI cJ a_h u.2 ++ (wP cI cJ a_q s_q ++ (wP cI cJ a_k s_k ++ (wTP cI cJ a_p s_p ++ (wTX a_x a_z ++ (wTK cI cJ a_z s_z ++ (wSH cJ cQ a_s s_s ++ (wM cI cJ a_m s_m))))))))))) hd hP hD hS hA ⟨[0, 1, 2, 3, 4, 5, 6, 7, 8, 9, 10, 11], [12, 13, 14, 15, 16, 17, 18, 19, 20, 21, 22, 23, 24, 25, 26, 27, 28, 29, 30, 31, 32, 33, 34, 35, 36, 37, 38, 39, 40, 41, 42, 43, 44, 45, 46, 47, 48, 49, 50, 51, 52, 53, 54, 55, 56, 57, 58, 59, 60, 61], [50, 51, 52, 53, 54, 55, 56, 57, 58, 59, 60, 61, 0, 1, 2, 3, 4, 5, 6, 7, 8, 9, 10, 11, 12, 13, 14, 15, 16, 17, 18, 19, 20, 21, 22, 23, 24, 25, 26, 27, 28, 29, 30, 31, 32, 33, 34, 35, 36, 37, 38, 39, 40, 41, 42, 43, 44, 45, 46, 47, 48, 49], wP cI cJ a_q s_q ++ (wP cI cJ a_k s_k ++ (wTP cI cJ a_p s_p ++ (wTX a_x a_z ++ (wTK cI cJ a_z s_z ++ (wSH cJ cQ a_s s_s ++ (wM cI cJ a_m s_m)))))), rfl, rfl, rfl, by decide, rfl, fun _ => rfl⟩ (fun v hv => va_runV (As := [.int v314]) (rest := []) hcf (c_X6_person l dC dI cI cJ cQ fu a_g a_h a_q a_k a_p a_x a_s _  s_g s_o s_h v314 v hv) (cwV 1 hts gL_law_X6_person rfl rfl rfl cd_X6_person ⟨(Nat.le_of_ble_eq_true rfl), (Nat.le_of_ble_eq_true rfl)⟩) (cq_U_V (q0 := 0) (ci := 5) hK hP hD [0, 1, 2, 3, 4, 5, 6, 7, 8, 9, 10, 11] rfl rfl rfl rfl) rfl rfl hl.1 rfl (lv_room (Nat.le_of_ble_eq_true rfl)) dL_law_315 ⟨(Nat.le_of_ble_eq_true rfl), (Nat.le_of_ble_eq_true rfl)⟩) (fun u315 hd H locs hP hD hS => ?_)
          refine lv_aload_n hx hb dL_law_318 rfl (lv_at hl 2 rfl) ?_
          refine lv_aload_n hx hb dL_law_319 rfl (lv_at hl 0 rfl) ?_
          refine lv_iload_n hx hb dL_law_320 rfl (lv_at hl 3 rfl) ?_
          refine lv_iconst (v := 1) hx hb dL_law_321 ki_1 ?_
          refine lv_iadd hx hb dL_law_322 ?_
          refine rx_sld hx hb hX hbl hbA hS hd dL_law_323 (fun v323 hd => ?_)
          refine rx_upi (fun u => (wGO a_g a_h a_q a_k a_p a_x a_s s_g ++ (wGT cI a_g u315.2.1 ++ (wP cI cJ a_h u315.2.2 ++ (wP cI cJ a_q s_q ++ (wP cI cJ a_k s_k ++ (wTP cI cJ a_p s_p ++ (wTX a_x a_z ++ (wTK cI cJ a_z s_z ++ (wSH cJ cQ a_s s_s ++ (wM cI cJ a_m u))))))))))) hd hP hD hS hA ⟨[50, 51, 52, 53, 54, 55, 56, 57, 58, 59, 60, 61], [0, 1, 2, 3, 4, 5, 6, 7, 8, 9, 10, 11, 12, 13, 14, 15, 16, 17, 18, 19, 20, 21, 22, 23, 24, 25, 26, 27, 28, 29, 30, 31, 32, 33, 34, 35, 36, 37, 38, 39, 40, 41, 42, 43, 44, 45, 46, 47, 48, 49], [0, 1, 2, 3, 4, 5, 6, 7, 8, 9, 10, 11, 12, 13, 14, 15, 16, 17, 18, 19, 20, 21, 22, 23, 24, 25, 26, 27, 28, 29, 30, 31, 32, 33, 34, 35, 36, 37, 38, 39, 40, 41, 42, 43, 44, 45, 46, 47, 48, 49, 50, 51, 52, 53, 54, 55, 56, 57, 58, 59, 60, 61], wGO a_g a_h a_q a_k a_p a_x a_s s_g ++ (wGT cI a_g u315.2.1 ++ (wP cI cJ a_h u315.2.2 ++ (wP cI cJ a_q s_q ++ (wP cI cJ a_k s_k ++ (wTP cI cJ a_p s_p ++ (wTX a_x a_z ++ (wTK cI cJ a_z s_z ++ (wSH cJ cQ a_s s_s)))))))), rfl, rfl, rfl, by decide, rfl, fun _ => rfl⟩ (fun v hv => va_runV (As := [.int v323]) (rest := [.int u315.1]) hcf (c_X7_person l dC dI cI cJ cQ fu a_m _  s_m v323 v hv) (cwV 1 hts gL_law_X7_person rfl rfl rfl cd_X7_person ⟨(Nat.le_of_ble_eq_true rfl), (Nat.le_of_ble_eq_true rfl)⟩) (cq_U_V (q0 := 50) (ci := 6) hK hP hD [50, 51, 52, 53, 54, 55, 56, 57, 58, 59, 60, 61] rfl rfl rfl rfl) rfl rfl hl.1 rfl (lv_room (Nat.le_of_ble_eq_true rfl)) dL_law_324 ⟨(Nat.le_of_ble_eq_true rfl), (Nat.le_of_ble_eq_true rfl)⟩) (fun u324 hd H locs hP hD hS => ?_)
          refine rx_icmp_eq hx hb 1335 dL_law_327 rfl hd (fun hd => ?_) (fun hd => ?_)
          · refine rx_iinc (lv' := fun z => (3, .int z) :: [(0, .ref b), (1, .ref (a_g 0)), (2, .ref (a_m 0))]) hx hb (j := 3) dL_law_1335 hl rfl ki_6 hd (Nat.le_of_ble_eq_true rfl) (fun _ => rfl) (fun x3_1335 hd ls hl => ?_)
            refine lv_goto (tgt := 18) hx hb dL_law_1338 rfl ?_
            exact k18 s_g u315.2.1 u315.2.2 s_q s_k s_p s_z s_s u324.2 x3_1335 hd _ _ _ hP hD hS (lv_sub hl [1, 2, 3, 0] rfl)
          refine lv_iconst (v := 0) hx hb dL_law_330 ki_0 ?_
          exact absurd (Option.some.inj hd) (by decide)
        refine rx_tab hx hb (4 : Int32) (4) rfl 332 dL_law_33 (by decide) (by decide) rfl rfl hd (fun hd => ?_) (fun n_4 hd => ?_)
        · refine lv_aload_n hx hb dL_law_332 rfl (lv_at hl 1 rfl) ?_
          refine lv_aload_n hx hb dL_law_333 rfl (lv_at hl 0 rfl) ?_
          refine lv_iload_n hx hb dL_law_334 rfl (lv_at hl 3 rfl) ?_
          refine lv_iconst (v := 1) hx hb dL_law_335 ki_1 ?_
          refine lv_iadd hx hb dL_law_336 ?_
          refine rx_sld hx hb hX hbl hbA hS hd dL_law_337 (fun v337 hd => ?_)
          refine lv_aload_n hx hb dL_law_338 rfl (lv_at hl 0 rfl) ?_
          refine lv_iload_n hx hb dL_law_339 rfl (lv_at hl 3 rfl) ?_
          refine lv_iconst (v := 2) hx hb dL_law_340 ki_2 ?_
          refine lv_iadd hx hb dL_law_341 ?_
          refine rx_sld hx hb hX hbl hbA hS hd dL_law_342 (fun v342 hd => ?_)
          refine rx_upi (fun u => (wGO a_g a_h a_q a_k a_p a_x a_s s_g ++ (wGT cI a_g u ++ (wP cI cJ a_h s_h ++ (wP cI cJ a_q s_q ++ (wP cI cJ a_k s_k ++ (wTP cI cJ a_p s_p ++ (wTX a_x a_z ++ (wTK cI cJ a_z s_z ++ (wSH cJ cQ a_s s_s ++ (wM cI cJ a_m s_m))))))))))) hd hP hD hS hA ⟨[0, 1, 2, 3, 4, 5, 6, 7, 8, 9, 10, 11], [12, 13, 14, 15, 16, 17, 18, 19, 20, 21, 22, 23, 24, 25, 26, 27, 28, 29, 30, 31, 32, 33, 34, 35, 36, 37, 38, 39, 40, 41, 42, 43, 44, 45, 46, 47, 48, 49, 50, 51, 52, 53, 54, 55, 56, 57, 58, 59, 60, 61], [50, 51, 52, 53, 54, 55, 56, 57, 58, 59, 60, 61, 0, 1, 2, 3, 4, 5, 6, 7, 8, 9, 10, 11, 12, 13, 14, 15, 16, 17, 18, 19, 20, 21, 22, 23, 24, 25, 26, 27, 28, 29, 30, 31, 32, 33, 34, 35, 36, 37, 38, 39, 40, 41, 42, 43, 44, 45, 46, 47, 48, 49], wP cI cJ a_q s_q ++ (wP cI cJ a_k s_k ++ (wTP cI cJ a_p s_p ++ (wTX a_x a_z ++ (wTK cI cJ a_z s_z ++ (wSH cJ cQ a_s s_s ++ (wM cI cJ a_m s_m)))))), rfl, rfl, rfl, by decide, rfl, fun _ => rfl⟩ (fun v hv => va_runV (As := [.int v337, .int v342]) (rest := []) hcf (c_X6_of l dC dI cI cJ cQ fu a_g a_h a_q a_k a_p a_x a_s _  s_g s_o s_h v337 v342 v hv) (cwV 2 hts gL_law_X6_of rfl rfl rfl cd_X6_of ⟨(Nat.le_of_ble_eq_true rfl), (Nat.le_of_ble_eq_true rfl)⟩) (cq_U_V (q0 := 0) (ci := 5) hK hP hD [0, 1, 2, 3, 4, 5, 6, 7, 8, 9, 10, 11] rfl rfl rfl rfl) rfl rfl hl.1 rfl (lv_room (Nat.le_of_ble_eq_true rfl)) dL_law_343 ⟨(Nat.le_of_ble_eq_true rfl), (Nat.le_of_ble_eq_true rfl)⟩) (fun u343 hd H locs hP hD hS => ?_)
          refine lv_aload_n hx hb dL_law_346 rfl (lv_at hl 2 rfl) ?_
          refine lv_aload_n hx hb dL_law_347 rfl (lv_at hl 0 rfl) ?_
          refine lv_iload_n hx hb dL_law_348 rfl (lv_at hl 3 rfl) ?_
          refine lv_iconst (v := 1) hx hb dL_law_349 ki_1 ?_
          refine lv_iadd hx hb dL_law_350 ?_
          refine rx_sld hx hb hX hbl hbA hS hd dL_law_351 (fun v351 hd => ?_)
          refine lv_aload_n hx hb dL_law_352 rfl (lv_at hl 0 rfl) ?_
          refine lv_iload_n hx hb dL_law_353 rfl (lv_at hl 3 rfl) ?_
          refine lv_iconst (v := 2) hx hb dL_law_354 ki_2 ?_
          refine lv_iadd hx hb dL_law_355 ?_
          refine rx_sld hx hb hX hbl hbA hS hd dL_law_356 (fun v356 hd => ?_)
          refine rx_upi (fun u => (wGO a_g a_h a_q a_k a_p a_x a_s s_g ++ (wGT cI a_g u343.2 ++ (wP cI cJ a_h s_h ++ (wP cI cJ a_q s_q ++ (wP cI cJ a_k s_k ++ (wTP cI cJ a_p s_p ++ (wTX a_x a_z ++ (wTK cI cJ a_z s_z ++ (wSH cJ cQ a_s s_s ++ (wM cI cJ a_m u))))))))))) hd hP hD hS hA ⟨[50, 51, 52, 53, 54, 55, 56, 57, 58, 59, 60, 61], [0, 1, 2, 3, 4, 5, 6, 7, 8, 9, 10, 11, 12, 13, 14, 15, 16, 17, 18, 19, 20, 21, 22, 23, 24, 25, 26, 27, 28, 29, 30, 31, 32, 33, 34, 35, 36, 37, 38, 39, 40, 41, 42, 43, 44, 45, 46, 47, 48, 49], [0, 1, 2, 3, 4, 5, 6, 7, 8, 9, 10, 11, 12, 13, 14, 15, 16, 17, 18, 19, 20, 21, 22, 23, 24, 25, 26, 27, 28, 29, 30, 31, 32, 33, 34, 35, 36, 37, 38, 39, 40, 41, 42, 43, 44, 45, 46, 47, 48, 49, 50, 51, 52, 53, 54, 55, 56, 57, 58, 59, 60, 61], wGO a_g a_h a_q a_k a_p a_x a_s s_g ++ (wGT cI a_g u343.2 ++ (wP cI cJ a_h s_h ++ (wP cI cJ a_q s_q ++ (wP cI cJ a_k s_k ++ (wTP cI cJ a_p s_p ++ (wTX a_x a_z ++ (wTK cI cJ a_z s_z ++ (wSH cJ cQ a_s s_s)))))))), rfl, rfl, rfl, by decide, rfl, fun _ => rfl⟩ (fun v hv => va_runV (As := [.int v351, .int v356]) (rest := [.int u343.1]) hcf (c_X7_of l dC dI cI cJ cQ fu a_m _  s_m v351 v356 v hv) (cwV 2 hts gL_law_X7_of rfl rfl rfl cd_X7_of ⟨(Nat.le_of_ble_eq_true rfl), (Nat.le_of_ble_eq_true rfl)⟩) (cq_U_V (q0 := 50) (ci := 6) hK hP hD [50, 51, 52, 53, 54, 55, 56, 57, 58, 59, 60, 61] rfl rfl rfl rfl) rfl rfl hl.1 rfl (lv_room (Nat.le_of_ble_eq_true rfl)) dL_law_357 ⟨(Nat.le_of_ble_eq_true rfl), (Nat.le_of_ble_eq_true rfl)⟩) (fun u357 hd H locs hP hD hS => ?_)
          refine rx_icmp_eq hx hb 1335 dL_law_360 rfl hd (fun hd => ?_) (fun hd => ?_)
          · refine rx_iinc (lv' := fun z => (3, .int z) :: [(0, .ref b), (1, .ref (a_g 0)), (2, .ref (a_m 0))]) hx hb (j := 3) dL_law_1335 hl rfl ki_6 hd (Nat.le_of_ble_eq_true rfl) (fun _ => rfl) (fun x3_1335 hd ls hl => ?_)
            refine lv_goto (tgt := 18) hx hb dL_law_1338 rfl ?_
            exact k18 s_g u343.2 s_h s_q s_k s_p s_z s_s u357.2 x3_1335 hd _ _ _ hP hD hS (lv_sub hl [1, 2, 3, 0] rfl)
          refine lv_iconst (v := 0) hx hb dL_law_363 ki_0 ?_
          exact absurd (Option.some.inj hd) (by decide)
        refine rx_tab hx hb (5 : Int32) (5) rfl 365 dL_law_33 (by decide) (by decide) rfl rfl hd (fun hd => ?_) (fun n_5 hd => ?_)
        · refine lv_aload_n hx hb dL_law_365 rfl (lv_at hl 1 rfl) ?_
          refine lv_aload_n hx hb dL_law_366 rfl (lv_at hl 0 rfl) ?_
          refine lv_iload_n hx hb dL_law_367 rfl (lv_at hl 3 rfl) ?_
          refine lv_iconst (v := 1) hx hb dL_law_368 ki_1 ?_
          refine lv_iadd hx hb dL_law_369 ?_
          refine rx_sld hx hb hX hbl hbA hS hd dL_law_370 (fun v370 hd => ?_)
          refine lv_aload_n hx hb dL_law_371 rfl (lv_at hl 0 rfl) ?_
          refine lv_iload_n hx hb dL_law_372 rfl (lv_at hl 3 rfl) ?_
          refine lv_iconst (v := 2) hx hb dL_law_373 ki_2 ?_
          refine lv_iadd hx hb dL_law_374 ?_
          refine rx_sld hx hb hX hbl hbA hS hd dL_law_375 (fun v375 hd => ?_)
          refine lv_aload_n hx hb dL_law_376 rfl (lv_at hl 0 rfl) ?_
          refine lv_iload_n hx hb dL_law_377 rfl (lv_at hl 3 rfl) ?_
          refine lv_iconst (v := 3) hx hb dL_law_378 ki_3 ?_
          refine lv_iadd hx hb dL_law_379 ?_
          refine rx_sld hx hb hX hbl hbA hS hd dL_law_380 (fun v380 hd => ?_)
          refine rx_upi (fun u => (wGO a_g a_h a_q a_k a_p a_x a_s s_g ++ (wGT cI a_g u.1 ++ (wP cI cJ a_h u.2 ++ (wP cI cJ a_q s_q ++ (wP cI cJ a_k s_k ++ (wTP cI cJ a_p s_p ++ (wTX a_x a_z ++ (wTK cI cJ a_z s_z ++ (wSH cJ cQ a_s s_s ++ (wM cI cJ a_m s_m))))))))))) hd hP hD hS hA ⟨[0, 1, 2, 3, 4, 5, 6, 7, 8, 9, 10, 11], [12, 13, 14, 15, 16, 17, 18, 19, 20, 21, 22, 23, 24, 25, 26, 27, 28, 29, 30, 31, 32, 33, 34, 35, 36, 37, 38, 39, 40, 41, 42, 43, 44, 45, 46, 47, 48, 49, 50, 51, 52, 53, 54, 55, 56, 57, 58, 59, 60, 61], [50, 51, 52, 53, 54, 55, 56, 57, 58, 59, 60, 61, 0, 1, 2, 3, 4, 5, 6, 7, 8, 9, 10, 11, 12, 13, 14, 15, 16, 17, 18, 19, 20, 21, 22, 23, 24, 25, 26, 27, 28, 29, 30, 31, 32, 33, 34, 35, 36, 37, 38, 39, 40, 41, 42, 43, 44, 45, 46, 47, 48, 49], wP cI cJ a_q s_q ++ (wP cI cJ a_k s_k ++ (wTP cI cJ a_p s_p ++ (wTX a_x a_z ++ (wTK cI cJ a_z s_z ++ (wSH cJ cQ a_s s_s ++ (wM cI cJ a_m s_m)))))), rfl, rfl, rfl, by decide, rfl, fun _ => rfl⟩ (fun v hv => va_runV (As := [.int v370, .int v375, .int v380]) (rest := []) hcf (c_X6_set l dC dI cI cJ cQ fu a_g a_h a_q a_k a_p a_x a_s _  s_g s_o s_h v370 v375 v380 v hv) (cwV 3 hts gL_law_X6_set rfl rfl rfl cd_X6_set ⟨(Nat.le_of_ble_eq_true rfl), (Nat.le_of_ble_eq_true rfl)⟩) (cq_U_V (q0 := 0) (ci := 5) hK hP hD [0, 1, 2, 3, 4, 5, 6, 7, 8, 9, 10, 11] rfl rfl rfl rfl) rfl rfl hl.1 rfl (lv_room (Nat.le_of_ble_eq_true rfl)) dL_law_381 ⟨(Nat.le_of_ble_eq_true rfl), (Nat.le_of_ble_eq_true rfl)⟩) (fun u381 hd H locs hP hD hS => ?_)
          refine lv_aload_n hx hb dL_law_384 rfl (lv_at hl 2 rfl) ?_
          refine lv_aload_n hx hb dL_law_385 rfl (lv_at hl 0 rfl) ?_
          refine lv_iload_n hx hb dL_law_386 rfl (lv_at hl 3 rfl) ?_
          refine lv_iconst (v := 1) hx hb dL_law_387 ki_1 ?_
          refine lv_iadd hx hb dL_law_388 ?_
          refine rx_sld hx hb hX hbl hbA hS hd dL_law_389 (fun v389 hd => ?_)
          refine lv_aload_n hx hb dL_law_390 rfl (lv_at hl 0 rfl) ?_
          refine lv_iload_n hx hb dL_law_391 rfl (lv_at hl 3 rfl) ?_
          refine lv_iconst (v := 2) hx hb dL_law_392 ki_2 ?_
          refine lv_iadd hx hb dL_law_393 ?_
          refine rx_sld hx hb hX hbl hbA hS hd dL_law_394 (fun v394 hd => ?_)
          refine lv_aload_n hx hb dL_law_395 rfl (lv_at hl 0 rfl) ?_
          refine lv_iload_n hx hb dL_law_396 rfl (lv_at hl 3 rfl) ?_
          refine lv_iconst (v := 3) hx hb dL_law_397 ki_3 ?_
          refine lv_iadd hx hb dL_law_398 ?_
          refine rx_sld hx hb hX hbl hbA hS hd dL_law_399 (fun v399 hd => ?_)
          refine rx_upi (fun u => (wGO a_g a_h a_q a_k a_p a_x a_s s_g ++ (wGT cI a_g u381.2.1 ++ (wP cI cJ a_h u381.2.2 ++ (wP cI cJ a_q s_q ++ (wP cI cJ a_k s_k ++ (wTP cI cJ a_p s_p ++ (wTX a_x a_z ++ (wTK cI cJ a_z s_z ++ (wSH cJ cQ a_s s_s ++ (wM cI cJ a_m u))))))))))) hd hP hD hS hA ⟨[50, 51, 52, 53, 54, 55, 56, 57, 58, 59, 60, 61], [0, 1, 2, 3, 4, 5, 6, 7, 8, 9, 10, 11, 12, 13, 14, 15, 16, 17, 18, 19, 20, 21, 22, 23, 24, 25, 26, 27, 28, 29, 30, 31, 32, 33, 34, 35, 36, 37, 38, 39, 40, 41, 42, 43, 44, 45, 46, 47, 48, 49], [0, 1, 2, 3, 4, 5, 6, 7, 8, 9, 10, 11, 12, 13, 14, 15, 16, 17, 18, 19, 20, 21, 22, 23, 24, 25, 26, 27, 28, 29, 30, 31, 32, 33, 34, 35, 36, 37, 38, 39, 40, 41, 42, 43, 44, 45, 46, 47, 48, 49, 50, 51, 52, 53, 54, 55, 56, 57, 58, 59, 60, 61], wGO a_g a_h a_q a_k a_p a_x a_s s_g ++ (wGT cI a_g u381.2.1 ++ (wP cI cJ a_h u381.2.2 ++ (wP cI cJ a_q s_q ++ (wP cI cJ a_k s_k ++ (wTP cI cJ a_p s_p ++ (wTX a_x a_z ++ (wTK cI cJ a_z s_z ++ (wSH cJ cQ a_s s_s)))))))), rfl, rfl, rfl, by decide, rfl, fun _ => rfl⟩ (fun v hv => va_runV (As := [.int v389, .int v394, .int v399]) (rest := [.int u381.1]) hcf (c_X7_set l dC dI cI cJ cQ fu a_m _  s_m v389 v394 v399 v hv) (cwV 3 hts gL_law_X7_set rfl rfl rfl cd_X7_set ⟨(Nat.le_of_ble_eq_true rfl), (Nat.le_of_ble_eq_true rfl)⟩) (cq_U_V (q0 := 50) (ci := 6) hK hP hD [50, 51, 52, 53, 54, 55, 56, 57, 58, 59, 60, 61] rfl rfl rfl rfl) rfl rfl hl.1 rfl (lv_room (Nat.le_of_ble_eq_true rfl)) dL_law_400 ⟨(Nat.le_of_ble_eq_true rfl), (Nat.le_of_ble_eq_true rfl)⟩) (fun u400 hd H locs hP hD hS => ?_)
          refine rx_icmp_eq hx hb 1335 dL_law_403 rfl hd (fun hd => ?_) (fun hd => ?_)
          · refine rx_iinc (lv' := fun z => (3, .int z) :: [(0, .ref b), (1, .ref (a_g 0)), (2, .ref (a_m 0))]) hx hb (j := 3) dL_law_1335 hl rfl ki_6 hd (Nat.le_of_ble_eq_true rfl) (fun _ => rfl) (fun x3_1335 hd ls hl => ?_)
            refine lv_goto (tgt := 18) hx hb dL_law_1338 rfl ?_
            exact k18 s_g u381.2.1 u381.2.2 s_q s_k s_p s_z s_s u400.2 x3_1335 hd _ _ _ hP hD hS (lv_sub hl [1, 2, 3, 0] rfl)
          refine lv_iconst (v := 0) hx hb dL_law_406 ki_0 ?_
          exact absurd (Option.some.inj hd) (by decide)
        refine rx_tab hx hb (6 : Int32) (6) rfl 408 dL_law_33 (by decide) (by decide) rfl rfl hd (fun hd => ?_) (fun n_6 hd => ?_)
        · refine lv_aload_n hx hb dL_law_408 rfl (lv_at hl 1 rfl) ?_
          refine lv_aload_n hx hb dL_law_409 rfl (lv_at hl 0 rfl) ?_
          refine lv_iload_n hx hb dL_law_410 rfl (lv_at hl 3 rfl) ?_
          refine lv_iconst (v := 1) hx hb dL_law_411 ki_1 ?_
          refine lv_iadd hx hb dL_law_412 ?_
          refine rx_sld hx hb hX hbl hbA hS hd dL_law_413 (fun v413 hd => ?_)
          refine lv_aload_n hx hb dL_law_414 rfl (lv_at hl 0 rfl) ?_
          refine lv_iload_n hx hb dL_law_415 rfl (lv_at hl 3 rfl) ?_
          refine lv_iconst (v := 2) hx hb dL_law_416 ki_2 ?_
          refine lv_iadd hx hb dL_law_417 ?_
          refine rx_sld hx hb hX hbl hbA hS hd dL_law_418 (fun v418 hd => ?_)
          refine rx_upi (fun u => (wGO a_g a_h a_q a_k a_p a_x a_s s_g ++ (wGT cI a_g u.1 ++ (wP cI cJ a_h u.2 ++ (wP cI cJ a_q s_q ++ (wP cI cJ a_k s_k ++ (wTP cI cJ a_p s_p ++ (wTX a_x a_z ++ (wTK cI cJ a_z s_z ++ (wSH cJ cQ a_s s_s ++ (wM cI cJ a_m s_m))))))))))) hd hP hD hS hA ⟨[0, 1, 2, 3, 4, 5, 6, 7, 8, 9, 10, 11], [12, 13, 14, 15, 16, 17, 18, 19, 20, 21, 22, 23, 24, 25, 26, 27, 28, 29, 30, 31, 32, 33, 34, 35, 36, 37, 38, 39, 40, 41, 42, 43, 44, 45, 46, 47, 48, 49, 50, 51, 52, 53, 54, 55, 56, 57, 58, 59, 60, 61], [50, 51, 52, 53, 54, 55, 56, 57, 58, 59, 60, 61, 0, 1, 2, 3, 4, 5, 6, 7, 8, 9, 10, 11, 12, 13, 14, 15, 16, 17, 18, 19, 20, 21, 22, 23, 24, 25, 26, 27, 28, 29, 30, 31, 32, 33, 34, 35, 36, 37, 38, 39, 40, 41, 42, 43, 44, 45, 46, 47, 48, 49], wP cI cJ a_q s_q ++ (wP cI cJ a_k s_k ++ (wTP cI cJ a_p s_p ++ (wTX a_x a_z ++ (wTK cI cJ a_z s_z ++ (wSH cJ cQ a_s s_s ++ (wM cI cJ a_m s_m)))))), rfl, rfl, rfl, by decide, rfl, fun _ => rfl⟩ (fun v hv => va_runV (As := [.int v413, .int v418]) (rest := []) hcf (c_X6_turn l dC dI cI cJ cQ fu a_g a_h a_q a_k a_p a_x a_s _  s_g s_o s_h v413 v418 v hv) (cwV 2 hts gL_law_X6_turn rfl rfl rfl cd_X6_turn ⟨(Nat.le_of_ble_eq_true rfl), (Nat.le_of_ble_eq_true rfl)⟩) (cq_U_V (q0 := 0) (ci := 5) hK hP hD [0, 1, 2, 3, 4, 5, 6, 7, 8, 9, 10, 11] rfl rfl rfl rfl) rfl rfl hl.1 rfl (lv_room (Nat.le_of_ble_eq_true rfl)) dL_law_419 ⟨(Nat.le_of_ble_eq_true rfl), (Nat.le_of_ble_eq_true rfl)⟩) (fun u419 hd H locs hP hD hS => ?_)
          refine lv_aload_n hx hb dL_law_422 rfl (lv_at hl 2 rfl) ?_
          refine lv_aload_n hx hb dL_law_423 rfl (lv_at hl 0 rfl) ?_
          refine lv_iload_n hx hb dL_law_424 rfl (lv_at hl 3 rfl) ?_
          refine lv_iconst (v := 1) hx hb dL_law_425 ki_1 ?_
          refine lv_iadd hx hb dL_law_426 ?_
          refine rx_sld hx hb hX hbl hbA hS hd dL_law_427 (fun v427 hd => ?_)
          refine lv_aload_n hx hb dL_law_428 rfl (lv_at hl 0 rfl) ?_
          refine lv_iload_n hx hb dL_law_429 rfl (lv_at hl 3 rfl) ?_
          refine lv_iconst (v := 2) hx hb dL_law_430 ki_2 ?_
          refine lv_iadd hx hb dL_law_431 ?_
          refine rx_sld hx hb hX hbl hbA hS hd dL_law_432 (fun v432 hd => ?_)
          refine rx_upi (fun u => (wGO a_g a_h a_q a_k a_p a_x a_s s_g ++ (wGT cI a_g u419.2.1 ++ (wP cI cJ a_h u419.2.2 ++ (wP cI cJ a_q s_q ++ (wP cI cJ a_k s_k ++ (wTP cI cJ a_p s_p ++ (wTX a_x a_z ++ (wTK cI cJ a_z s_z ++ (wSH cJ cQ a_s s_s ++ (wM cI cJ a_m u))))))))))) hd hP hD hS hA ⟨[50, 51, 52, 53, 54, 55, 56, 57, 58, 59, 60, 61], [0, 1, 2, 3, 4, 5, 6, 7, 8, 9, 10, 11, 12, 13, 14, 15, 16, 17, 18, 19, 20, 21, 22, 23, 24, 25, 26, 27, 28, 29, 30, 31, 32, 33, 34, 35, 36, 37, 38, 39, 40, 41, 42, 43, 44, 45, 46, 47, 48, 49], [0, 1, 2, 3, 4, 5, 6, 7, 8, 9, 10, 11, 12, 13, 14, 15, 16, 17, 18, 19, 20, 21, 22, 23, 24, 25, 26, 27, 28, 29, 30, 31, 32, 33, 34, 35, 36, 37, 38, 39, 40, 41, 42, 43, 44, 45, 46, 47, 48, 49, 50, 51, 52, 53, 54, 55, 56, 57, 58, 59, 60, 61], wGO a_g a_h a_q a_k a_p a_x a_s s_g ++ (wGT cI a_g u419.2.1 ++ (wP cI cJ a_h u419.2.2 ++ (wP cI cJ a_q s_q ++ (wP cI cJ a_k s_k ++ (wTP cI cJ a_p s_p ++ (wTX a_x a_z ++ (wTK cI cJ a_z s_z ++ (wSH cJ cQ a_s s_s)))))))), rfl, rfl, rfl, by decide, rfl, fun _ => rfl⟩ (fun v hv => va_runV (As := [.int v427, .int v432]) (rest := [.int u419.1]) hcf (c_X7_turn l dC dI cI cJ cQ fu a_m _  s_m v427 v432 v hv) (cwV 2 hts gL_law_X7_turn rfl rfl rfl cd_X7_turn ⟨(Nat.le_of_ble_eq_true rfl), (Nat.le_of_ble_eq_true rfl)⟩) (cq_U_V (q0 := 50) (ci := 6) hK hP hD [50, 51, 52, 53, 54, 55, 56, 57, 58, 59, 60, 61] rfl rfl rfl rfl) rfl rfl hl.1 rfl (lv_room (Nat.le_of_ble_eq_true rfl)) dL_law_433 ⟨(Nat.le_of_ble_eq_true rfl), (Nat.le_of_ble_eq_true rfl)⟩) (fun u433 hd H locs hP hD hS => ?_)
          refine rx_icmp_eq hx hb 1335 dL_law_436 rfl hd (fun hd => ?_) (fun hd => ?_)
          · refine rx_iinc (lv' := fun z => (3, .int z) :: [(0, .ref b), (1, .ref (a_g 0)), (2, .ref (a_m 0))]) hx hb (j := 3) dL_law_1335 hl rfl ki_6 hd (Nat.le_of_ble_eq_true rfl) (fun _ => rfl) (fun x3_1335 hd ls hl => ?_)
            refine lv_goto (tgt := 18) hx hb dL_law_1338 rfl ?_
            exact k18 s_g u419.2.1 u419.2.2 s_q s_k s_p s_z s_s u433.2 x3_1335 hd _ _ _ hP hD hS (lv_sub hl [1, 2, 3, 0] rfl)
          refine lv_iconst (v := 0) hx hb dL_law_439 ki_0 ?_
          exact absurd (Option.some.inj hd) (by decide)
        refine rx_tab hx hb (7 : Int32) (7) rfl 441 dL_law_33 (by decide) (by decide) rfl rfl hd (fun hd => ?_) (fun n_7 hd => ?_)
        · refine lv_aload_n hx hb dL_law_441 rfl (lv_at hl 1 rfl) ?_
          refine lv_aload_n hx hb dL_law_442 rfl (lv_at hl 0 rfl) ?_
          refine lv_iload_n hx hb dL_law_443 rfl (lv_at hl 3 rfl) ?_
          refine lv_iconst (v := 1) hx hb dL_law_444 ki_1 ?_
          refine lv_iadd hx hb dL_law_445 ?_
          refine rx_sld hx hb hX hbl hbA hS hd dL_law_446 (fun v446 hd => ?_)
          refine lv_aload_n hx hb dL_law_447 rfl (lv_at hl 0 rfl) ?_
          refine lv_iload_n hx hb dL_law_448 rfl (lv_at hl 3 rfl) ?_
          refine lv_iconst (v := 2) hx hb dL_law_449 ki_2 ?_
          refine lv_iadd hx hb dL_law_450 ?_
          refine rx_sld hx hb hX hbl hbA hS hd dL_law_451 (fun v451 hd => ?_)
          refine rx_upi (fun u => (wGO a_g a_h a_q a_k a_p a_x a_s s_g ++ (wGT cI a_g u ++ (wP cI cJ a_h s_h ++ (wP cI cJ a_q s_q ++ (wP cI cJ a_k s_k ++ (wTP cI cJ a_p s_p ++ (wTX a_x a_z ++ (wTK cI cJ a_z s_z ++ (wSH cJ cQ a_s s_s ++ (wM cI cJ a_m s_m))))))))))) hd hP hD hS hA ⟨[0, 1, 2, 3, 4, 5, 6, 7, 8, 9, 10, 11], [12, 13, 14, 15, 16, 17, 18, 19, 20, 21, 22, 23, 24, 25, 26, 27, 28, 29, 30, 31, 32, 33, 34, 35, 36, 37, 38, 39, 40, 41, 42, 43, 44, 45, 46, 47, 48, 49, 50, 51, 52, 53, 54, 55, 56, 57, 58, 59, 60, 61], [50, 51, 52, 53, 54, 55, 56, 57, 58, 59, 60, 61, 0, 1, 2, 3, 4, 5, 6, 7, 8, 9, 10, 11, 12, 13, 14, 15, 16, 17, 18, 19, 20, 21, 22, 23, 24, 25, 26, 27, 28, 29, 30, 31, 32, 33, 34, 35, 36, 37, 38, 39, 40, 41, 42, 43, 44, 45, 46, 47, 48, 49], wP cI cJ a_q s_q ++ (wP cI cJ a_k s_k ++ (wTP cI cJ a_p s_p ++ (wTX a_x a_z ++ (wTK cI cJ a_z s_z ++ (wSH cJ cQ a_s s_s ++ (wM cI cJ a_m s_m)))))), rfl, rfl, rfl, by decide, rfl, fun _ => rfl⟩ (fun v hv => va_runV (As := [.int v446, .int v451]) (rest := []) hcf (c_X6_as l dC dI cI cJ cQ fu gz a_g a_h a_q a_k a_p a_x a_s _  s_g s_o s_h v446 v451 v hv) (cwV 2 hts gL_law_X6_as rfl rfl rfl cd_X6_as ⟨(Nat.le_of_ble_eq_true rfl), (Nat.le_of_ble_eq_true rfl)⟩) (cq_UG_V (q0 := 0) (ci := 5) hG hS hA hK hP hD [0, 1, 2, 3, 4, 5, 6, 7, 8, 9, 10, 11] rfl rfl rfl rfl) rfl rfl hl.1 rfl (lv_room (Nat.le_of_ble_eq_true rfl)) dL_law_452 ⟨(Nat.le_of_ble_eq_true rfl), (Nat.le_of_ble_eq_true rfl)⟩) (fun u452 hd H locs hP hD hS => ?_)
          refine lv_aload_n hx hb dL_law_455 rfl (lv_at hl 2 rfl) ?_
          refine lv_aload_n hx hb dL_law_456 rfl (lv_at hl 0 rfl) ?_
          refine lv_iload_n hx hb dL_law_457 rfl (lv_at hl 3 rfl) ?_
          refine lv_iconst (v := 1) hx hb dL_law_458 ki_1 ?_
          refine lv_iadd hx hb dL_law_459 ?_
          refine rx_sld hx hb hX hbl hbA hS hd dL_law_460 (fun v460 hd => ?_)
          refine lv_aload_n hx hb dL_law_461 rfl (lv_at hl 0 rfl) ?_
          refine lv_iload_n hx hb dL_law_462 rfl (lv_at hl 3 rfl) ?_
          refine lv_iconst (v := 2) hx hb dL_law_463 ki_2 ?_
          refine lv_iadd hx hb dL_law_464 ?_
          refine rx_sld hx hb hX hbl hbA hS hd dL_law_465 (fun v465 hd => ?_)
          refine rx_upi (fun u => (wGO a_g a_h a_q a_k a_p a_x a_s s_g ++ (wGT cI a_g u452.2 ++ (wP cI cJ a_h s_h ++ (wP cI cJ a_q s_q ++ (wP cI cJ a_k s_k ++ (wTP cI cJ a_p s_p ++ (wTX a_x a_z ++ (wTK cI cJ a_z s_z ++ (wSH cJ cQ a_s s_s ++ (wM cI cJ a_m u))))))))))) hd hP hD hS hA ⟨[50, 51, 52, 53, 54, 55, 56, 57, 58, 59, 60, 61], [0, 1, 2, 3, 4, 5, 6, 7, 8, 9, 10, 11, 12, 13, 14, 15, 16, 17, 18, 19, 20, 21, 22, 23, 24, 25, 26, 27, 28, 29, 30, 31, 32, 33, 34, 35, 36, 37, 38, 39, 40, 41, 42, 43, 44, 45, 46, 47, 48, 49], [0, 1, 2, 3, 4, 5, 6, 7, 8, 9, 10, 11, 12, 13, 14, 15, 16, 17, 18, 19, 20, 21, 22, 23, 24, 25, 26, 27, 28, 29, 30, 31, 32, 33, 34, 35, 36, 37, 38, 39, 40, 41, 42, 43, 44, 45, 46, 47, 48, 49, 50, 51, 52, 53, 54, 55, 56, 57, 58, 59, 60, 61], wGO a_g a_h a_q a_k a_p a_x a_s s_g ++ (wGT cI a_g u452.2 ++ (wP cI cJ a_h s_h ++ (wP cI cJ a_q s_q ++ (wP cI cJ a_k s_k ++ (wTP cI cJ a_p s_p ++ (wTX a_x a_z ++ (wTK cI cJ a_z s_z ++ (wSH cJ cQ a_s s_s)))))))), rfl, rfl, rfl, by decide, rfl, fun _ => rfl⟩ (fun v hv => va_runV (As := [.int v460, .int v465]) (rest := [.int u452.1]) hcf (c_X7_as l dC dI cI cJ cQ fu a_m _  s_m v460 v465 v hv) (cwV 2 hts gL_law_X7_as rfl rfl rfl cd_X7_as ⟨(Nat.le_of_ble_eq_true rfl), (Nat.le_of_ble_eq_true rfl)⟩) (cq_U_V (q0 := 50) (ci := 6) hK hP hD [50, 51, 52, 53, 54, 55, 56, 57, 58, 59, 60, 61] rfl rfl rfl rfl) rfl rfl hl.1 rfl (lv_room (Nat.le_of_ble_eq_true rfl)) dL_law_466 ⟨(Nat.le_of_ble_eq_true rfl), (Nat.le_of_ble_eq_true rfl)⟩) (fun u466 hd H locs hP hD hS => ?_)
          refine rx_icmp_eq hx hb 1335 dL_law_469 rfl hd (fun hd => ?_) (fun hd => ?_)
          · refine rx_iinc (lv' := fun z => (3, .int z) :: [(0, .ref b), (1, .ref (a_g 0)), (2, .ref (a_m 0))]) hx hb (j := 3) dL_law_1335 hl rfl ki_6 hd (Nat.le_of_ble_eq_true rfl) (fun _ => rfl) (fun x3_1335 hd ls hl => ?_)
            refine lv_goto (tgt := 18) hx hb dL_law_1338 rfl ?_
            exact k18 s_g u452.2 s_h s_q s_k s_p s_z s_s u466.2 x3_1335 hd _ _ _ hP hD hS (lv_sub hl [1, 2, 3, 0] rfl)
          refine lv_iconst (v := 0) hx hb dL_law_472 ki_0 ?_
          exact absurd (Option.some.inj hd) (by decide)
        refine rx_tab hx hb (8 : Int32) (8) rfl 474 dL_law_33 (by decide) (by decide) rfl rfl hd (fun hd => ?_) (fun n_8 hd => ?_)
        · refine lv_aload_n hx hb dL_law_474 rfl (lv_at hl 1 rfl) ?_
          refine lv_aload_n hx hb dL_law_475 rfl (lv_at hl 0 rfl) ?_
          refine lv_iload_n hx hb dL_law_476 rfl (lv_at hl 3 rfl) ?_
          refine lv_iconst (v := 1) hx hb dL_law_477 ki_1 ?_
          refine lv_iadd hx hb dL_law_478 ?_
          refine rx_sld hx hb hX hbl hbA hS hd dL_law_479 (fun v479 hd => ?_)
          refine lv_aload_n hx hb dL_law_480 rfl (lv_at hl 0 rfl) ?_
          refine lv_iload_n hx hb dL_law_481 rfl (lv_at hl 3 rfl) ?_
          refine lv_iconst (v := 2) hx hb dL_law_482 ki_2 ?_
          refine lv_iadd hx hb dL_law_483 ?_
          refine rx_sld hx hb hX hbl hbA hS hd dL_law_484 (fun v484 hd => ?_)
          refine rx_upi (fun u => (wGO a_g a_h a_q a_k a_p a_x a_s s_g ++ (wGT cI a_g u.1 ++ (wP cI cJ a_h u.2 ++ (wP cI cJ a_q s_q ++ (wP cI cJ a_k s_k ++ (wTP cI cJ a_p s_p ++ (wTX a_x a_z ++ (wTK cI cJ a_z s_z ++ (wSH cJ cQ a_s s_s ++ (wM cI cJ a_m s_m))))))))))) hd hP hD hS hA ⟨[0, 1, 2, 3, 4, 5, 6, 7, 8, 9, 10, 11], [12, 13, 14, 15, 16, 17, 18, 19, 20, 21, 22, 23, 24, 25, 26, 27, 28, 29, 30, 31, 32, 33, 34, 35, 36, 37, 38, 39, 40, 41, 42, 43, 44, 45, 46, 47, 48, 49, 50, 51, 52, 53, 54, 55, 56, 57, 58, 59, 60, 61], [50, 51, 52, 53, 54, 55, 56, 57, 58, 59, 60, 61, 0, 1, 2, 3, 4, 5, 6, 7, 8, 9, 10, 11, 12, 13, 14, 15, 16, 17, 18, 19, 20, 21, 22, 23, 24, 25, 26, 27, 28, 29, 30, 31, 32, 33, 34, 35, 36, 37, 38, 39, 40, 41, 42, 43, 44, 45, 46, 47, 48, 49], wP cI cJ a_q s_q ++ (wP cI cJ a_k s_k ++ (wTP cI cJ a_p s_p ++ (wTX a_x a_z ++ (wTK cI cJ a_z s_z ++ (wSH cJ cQ a_s s_s ++ (wM cI cJ a_m s_m)))))), rfl, rfl, rfl, by decide, rfl, fun _ => rfl⟩ (fun v hv => va_runV (As := [.int v479, .int v484]) (rest := []) hcf (c_X6_does l dC dI cI cJ cQ fu a_g a_h a_q a_k a_p a_x a_s _  s_g s_o s_h v479 v484 v hv) (cwV 2 hts gL_law_X6_does rfl rfl rfl cd_X6_does ⟨(Nat.le_of_ble_eq_true rfl), (Nat.le_of_ble_eq_true rfl)⟩) (cq_U_V (q0 := 0) (ci := 5) hK hP hD [0, 1, 2, 3, 4, 5, 6, 7, 8, 9, 10, 11] rfl rfl rfl rfl) rfl rfl hl.1 rfl (lv_room (Nat.le_of_ble_eq_true rfl)) dL_law_485 ⟨(Nat.le_of_ble_eq_true rfl), (Nat.le_of_ble_eq_true rfl)⟩) (fun u485 hd H locs hP hD hS => ?_)
          refine lv_aload_n hx hb dL_law_488 rfl (lv_at hl 2 rfl) ?_
          refine lv_aload_n hx hb dL_law_489 rfl (lv_at hl 0 rfl) ?_
          refine lv_iload_n hx hb dL_law_490 rfl (lv_at hl 3 rfl) ?_
          refine lv_iconst (v := 1) hx hb dL_law_491 ki_1 ?_
          refine lv_iadd hx hb dL_law_492 ?_
          refine rx_sld hx hb hX hbl hbA hS hd dL_law_493 (fun v493 hd => ?_)
          refine lv_aload_n hx hb dL_law_494 rfl (lv_at hl 0 rfl) ?_
          refine lv_iload_n hx hb dL_law_495 rfl (lv_at hl 3 rfl) ?_
          refine lv_iconst (v := 2) hx hb dL_law_496 ki_2 ?_
          refine lv_iadd hx hb dL_law_497 ?_
          refine rx_sld hx hb hX hbl hbA hS hd dL_law_498 (fun v498 hd => ?_)
          refine rx_upi (fun u => (wGO a_g a_h a_q a_k a_p a_x a_s s_g ++ (wGT cI a_g u485.2.1 ++ (wP cI cJ a_h u485.2.2 ++ (wP cI cJ a_q s_q ++ (wP cI cJ a_k s_k ++ (wTP cI cJ a_p s_p ++ (wTX a_x a_z ++ (wTK cI cJ a_z s_z ++ (wSH cJ cQ a_s s_s ++ (wM cI cJ a_m u))))))))))) hd hP hD hS hA ⟨[50, 51, 52, 53, 54, 55, 56, 57, 58, 59, 60, 61], [0, 1, 2, 3, 4, 5, 6, 7, 8, 9, 10, 11, 12, 13, 14, 15, 16, 17, 18, 19, 20, 21, 22, 23, 24, 25, 26, 27, 28, 29, 30, 31, 32, 33, 34, 35, 36, 37, 38, 39, 40, 41, 42, 43, 44, 45, 46, 47, 48, 49], [0, 1, 2, 3, 4, 5, 6, 7, 8, 9, 10, 11, 12, 13, 14, 15, 16, 17, 18, 19, 20, 21, 22, 23, 24, 25, 26, 27, 28, 29, 30, 31, 32, 33, 34, 35, 36, 37, 38, 39, 40, 41, 42, 43, 44, 45, 46, 47, 48, 49, 50, 51, 52, 53, 54, 55, 56, 57, 58, 59, 60, 61], wGO a_g a_h a_q a_k a_p a_x a_s s_g ++ (wGT cI a_g u485.2.1 ++ (wP cI cJ a_h u485.2.2 ++ (wP cI cJ a_q s_q ++ (wP cI cJ a_k s_k ++ (wTP cI cJ a_p s_p ++ (wTX a_x a_z ++ (wTK cI cJ a_z s_z ++ (wSH cJ cQ a_s s_s)))))))), rfl, rfl, rfl, by decide, rfl, fun _ => rfl⟩ (fun v hv => va_runV (As := [.int v493, .int v498]) (rest := [.int u485.1]) hcf (c_X7_does l dC dI cI cJ cQ fu a_m _  s_m v493 v498 v hv) (cwV 2 hts gL_law_X7_does rfl rfl rfl cd_X7_does ⟨(Nat.le_of_ble_eq_true rfl), (Nat.le_of_ble_eq_true rfl)⟩) (cq_U_V (q0 := 50) (ci := 6) hK hP hD [50, 51, 52, 53, 54, 55, 56, 57, 58, 59, 60, 61] rfl rfl rfl rfl) rfl rfl hl.1 rfl (lv_room (Nat.le_of_ble_eq_true rfl)) dL_law_499 ⟨(Nat.le_of_ble_eq_true rfl), (Nat.le_of_ble_eq_true rfl)⟩) (fun u499 hd H locs hP hD hS => ?_)
          refine rx_icmp_eq hx hb 1335 dL_law_502 rfl hd (fun hd => ?_) (fun hd => ?_)
          · refine rx_iinc (lv' := fun z => (3, .int z) :: [(0, .ref b), (1, .ref (a_g 0)), (2, .ref (a_m 0))]) hx hb (j := 3) dL_law_1335 hl rfl ki_6 hd (Nat.le_of_ble_eq_true rfl) (fun _ => rfl) (fun x3_1335 hd ls hl => ?_)
            refine lv_goto (tgt := 18) hx hb dL_law_1338 rfl ?_
            exact k18 s_g u485.2.1 u485.2.2 s_q s_k s_p s_z s_s u499.2 x3_1335 hd _ _ _ hP hD hS (lv_sub hl [1, 2, 3, 0] rfl)
          refine lv_iconst (v := 0) hx hb dL_law_505 ki_0 ?_
          exact absurd (Option.some.inj hd) (by decide)
        refine rx_tab hx hb (9 : Int32) (9) rfl 507 dL_law_33 (by decide) (by decide) rfl rfl hd (fun hd => ?_) (fun n_9 hd => ?_)
        · refine lv_aload_n hx hb dL_law_507 rfl (lv_at hl 1 rfl) ?_
          refine lv_aload_n hx hb dL_law_508 rfl (lv_at hl 0 rfl) ?_
          refine lv_iload_n hx hb dL_law_509 rfl (lv_at hl 3 rfl) ?_
          refine lv_iconst (v := 1) hx hb dL_law_510 ki_1 ?_
          refine lv_iadd hx hb dL_law_511 ?_
          refine rx_sld hx hb hX hbl hbA hS hd dL_law_512 (fun v512 hd => ?_)
          refine lv_aload_n hx hb dL_law_513 rfl (lv_at hl 0 rfl) ?_
          refine lv_iload_n hx hb dL_law_514 rfl (lv_at hl 3 rfl) ?_
          refine lv_iconst (v := 2) hx hb dL_law_515 ki_2 ?_
          refine lv_iadd hx hb dL_law_516 ?_
          refine rx_sld hx hb hX hbl hbA hS hd dL_law_517 (fun v517 hd => ?_)
          refine rx_upi (fun u => (wGO a_g a_h a_q a_k a_p a_x a_s s_g ++ (wGT cI a_g u.1 ++ (wP cI cJ a_h u.2 ++ (wP cI cJ a_q s_q ++ (wP cI cJ a_k s_k ++ (wTP cI cJ a_p s_p ++ (wTX a_x a_z ++ (wTK cI cJ a_z s_z ++ (wSH cJ cQ a_s s_s ++ (wM cI cJ a_m s_m))))))))))) hd hP hD hS hA ⟨[0, 1, 2, 3, 4, 5, 6, 7, 8, 9, 10, 11], [12, 13, 14, 15, 16, 17, 18, 19, 20, 21, 22, 23, 24, 25, 26, 27, 28, 29, 30, 31, 32, 33, 34, 35, 36, 37, 38, 39, 40, 41, 42, 43, 44, 45, 46, 47, 48, 49, 50, 51, 52, 53, 54, 55, 56, 57, 58, 59, 60, 61], [50, 51, 52, 53, 54, 55, 56, 57, 58, 59, 60, 61, 0, 1, 2, 3, 4, 5, 6, 7, 8, 9, 10, 11, 12, 13, 14, 15, 16, 17, 18, 19, 20, 21, 22, 23, 24, 25, 26, 27, 28, 29, 30, 31, 32, 33, 34, 35, 36, 37, 38, 39, 40, 41, 42, 43, 44, 45, 46, 47, 48, 49], wP cI cJ a_q s_q ++ (wP cI cJ a_k s_k ++ (wTP cI cJ a_p s_p ++ (wTX a_x a_z ++ (wTK cI cJ a_z s_z ++ (wSH cJ cQ a_s s_s ++ (wM cI cJ a_m s_m)))))), rfl, rfl, rfl, by decide, rfl, fun _ => rfl⟩ (fun v hv => va_runV (As := [.int v512, .int v517]) (rest := []) hcf (c_X6_pull l dC dI cI cJ cQ fu a_g a_h a_q a_k a_p a_x a_s _  s_g s_o s_h v512 v517 v hv) (cwV 2 hts gL_law_X6_pull rfl rfl rfl cd_X6_pull ⟨(Nat.le_of_ble_eq_true rfl), (Nat.le_of_ble_eq_true rfl)⟩) (cq_U_V (q0 := 0) (ci := 5) hK hP hD [0, 1, 2, 3, 4, 5, 6, 7, 8, 9, 10, 11] rfl rfl rfl rfl) rfl rfl hl.1 rfl (lv_room (Nat.le_of_ble_eq_true rfl)) dL_law_518 ⟨(Nat.le_of_ble_eq_true rfl), (Nat.le_of_ble_eq_true rfl)⟩) (fun u518 hd H locs hP hD hS => ?_)
          refine lv_aload_n hx hb dL_law_521 rfl (lv_at hl 2 rfl) ?_
          refine lv_aload_n hx hb dL_law_522 rfl (lv_at hl 0 rfl) ?_
          refine lv_iload_n hx hb dL_law_523 rfl (lv_at hl 3 rfl) ?_
          refine lv_iconst (v := 1) hx hb dL_law_524 ki_1 ?_
          refine lv_iadd hx hb dL_law_525 ?_
          refine rx_sld hx hb hX hbl hbA hS hd dL_law_526 (fun v526 hd => ?_)
          refine lv_aload_n hx hb dL_law_527 rfl (lv_at hl 0 rfl) ?_
          refine lv_iload_n hx hb dL_law_528 rfl (lv_at hl 3 rfl) ?_
          refine lv_iconst (v := 2) hx hb dL_law_529 ki_2 ?_
          refine lv_iadd hx hb dL_law_530 ?_
          refine rx_sld hx hb hX hbl hbA hS hd dL_law_531 (fun v531 hd => ?_)
          refine rx_upi (fun u => (wGO a_g a_h a_q a_k a_p a_x a_s s_g ++ (wGT cI a_g u518.2.1 ++ (wP cI cJ a_h u518.2.2 ++ (wP cI cJ a_q s_q ++ (wP cI cJ a_k s_k ++ (wTP cI cJ a_p s_p ++ (wTX a_x a_z ++ (wTK cI cJ a_z s_z ++ (wSH cJ cQ a_s s_s ++ (wM cI cJ a_m u))))))))))) hd hP hD hS hA ⟨[50, 51, 52, 53, 54, 55, 56, 57, 58, 59, 60, 61], [0, 1, 2, 3, 4, 5, 6, 7, 8, 9, 10, 11, 12, 13, 14, 15, 16, 17, 18, 19, 20, 21, 22, 23, 24, 25, 26, 27, 28, 29, 30, 31, 32, 33, 34, 35, 36, 37, 38, 39, 40, 41, 42, 43, 44, 45, 46, 47, 48, 49], [0, 1, 2, 3, 4, 5, 6, 7, 8, 9, 10, 11, 12, 13, 14, 15, 16, 17, 18, 19, 20, 21, 22, 23, 24, 25, 26, 27, 28, 29, 30, 31, 32, 33, 34, 35, 36, 37, 38, 39, 40, 41, 42, 43, 44, 45, 46, 47, 48, 49, 50, 51, 52, 53, 54, 55, 56, 57, 58, 59, 60, 61], wGO a_g a_h a_q a_k a_p a_x a_s s_g ++ (wGT cI a_g u518.2.1 ++ (wP cI cJ a_h u518.2.2 ++ (wP cI cJ a_q s_q ++ (wP cI cJ a_k s_k ++ (wTP cI cJ a_p s_p ++ (wTX a_x a_z ++ (wTK cI cJ a_z s_z ++ (wSH cJ cQ a_s s_s)))))))), rfl, rfl, rfl, by decide, rfl, fun _ => rfl⟩ (fun v hv => va_runV (As := [.int v526, .int v531]) (rest := [.int u518.1]) hcf (c_X7_pull l dC dI cI cJ cQ fu a_m _  s_m v526 v531 v hv) (cwV 2 hts gL_law_X7_pull rfl rfl rfl cd_X7_pull ⟨(Nat.le_of_ble_eq_true rfl), (Nat.le_of_ble_eq_true rfl)⟩) (cq_U_V (q0 := 50) (ci := 6) hK hP hD [50, 51, 52, 53, 54, 55, 56, 57, 58, 59, 60, 61] rfl rfl rfl rfl) rfl rfl hl.1 rfl (lv_room (Nat.le_of_ble_eq_true rfl)) dL_law_532 ⟨(Nat.le_of_ble_eq_true rfl), (Nat.le_of_ble_eq_true rfl)⟩) (fun u532 hd H locs hP hD hS => ?_)
          refine rx_icmp_eq hx hb 1335 dL_law_535 rfl hd (fun hd => ?_) (fun hd => ?_)
          · refine rx_iinc (lv' := fun z => (3, .int z) :: [(0, .ref b), (1, .ref (a_g 0)), (2, .ref (a_m 0))]) hx hb (j := 3) dL_law_1335 hl rfl ki_6 hd (Nat.le_of_ble_eq_true rfl) (fun _ => rfl) (fun x3_1335 hd ls hl => ?_)
            refine lv_goto (tgt := 18) hx hb dL_law_1338 rfl ?_
            exact k18 s_g u518.2.1 u518.2.2 s_q s_k s_p s_z s_s u532.2 x3_1335 hd _ _ _ hP hD hS (lv_sub hl [1, 2, 3, 0] rfl)
          refine lv_iconst (v := 0) hx hb dL_law_538 ki_0 ?_
          exact absurd (Option.some.inj hd) (by decide)
        refine rx_tab hx hb (10 : Int32) (10) rfl 540 dL_law_33 (by decide) (by decide) rfl rfl hd (fun hd => ?_) (fun n_10 hd => ?_)
        · refine lv_aload_n hx hb dL_law_540 rfl (lv_at hl 1 rfl) ?_
          refine lv_aload_n hx hb dL_law_541 rfl (lv_at hl 0 rfl) ?_
          refine lv_iload_n hx hb dL_law_542 rfl (lv_at hl 3 rfl) ?_
          refine lv_iconst (v := 1) hx hb dL_law_543 ki_1 ?_
          refine lv_iadd hx hb dL_law_544 ?_
          refine rx_sld hx hb hX hbl hbA hS hd dL_law_545 (fun v545 hd => ?_)
          refine rx_upi (fun u => (wGO a_g a_h a_q a_k a_p a_x a_s s_g ++ (wGT cI a_g u.1 ++ (wP cI cJ a_h u.2 ++ (wP cI cJ a_q s_q ++ (wP cI cJ a_k s_k ++ (wTP cI cJ a_p s_p ++ (wTX a_x a_z ++ (wTK cI cJ a_z s_z ++ (wSH cJ cQ a_s s_s ++ (wM cI cJ a_m s_m))))))))))) hd hP hD hS hA ⟨[0, 1, 2, 3, 4, 5, 6, 7, 8, 9, 10, 11], [12, 13, 14, 15, 16, 17, 18, 19, 20, 21, 22, 23, 24, 25, 26, 27, 28, 29, 30, 31, 32, 33, 34, 35, 36, 37, 38, 39, 40, 41, 42, 43, 44, 45, 46, 47, 48, 49, 50, 51, 52, 53, 54, 55, 56, 57, 58, 59, 60, 61], [50, 51, 52, 53, 54, 55, 56, 57, 58, 59, 60, 61, 0, 1, 2, 3, 4, 5, 6, 7, 8, 9, 10, 11, 12, 13, 14, 15, 16, 17, 18, 19, 20, 21, 22, 23, 24, 25, 26, 27, 28, 29, 30, 31, 32, 33, 34, 35, 36, 37, 38, 39, 40, 41, 42, 43, 44, 45, 46, 47, 48, 49], wP cI cJ a_q s_q ++ (wP cI cJ a_k s_k ++ (wTP cI cJ a_p s_p ++ (wTX a_x a_z ++ (wTK cI cJ a_z s_z ++ (wSH cJ cQ a_s s_s ++ (wM cI cJ a_m s_m)))))), rfl, rfl, rfl, by decide, rfl, fun _ => rfl⟩ (fun v hv => va_runV (As := [.int v545]) (rest := []) hcf (c_X6_days l dC dI cI cJ cQ fu a_g a_h a_q a_k a_p a_x a_s _  s_g s_o s_h v545 v hv) (cwV 1 hts gL_law_X6_days rfl rfl rfl cd_X6_days ⟨(Nat.le_of_ble_eq_true rfl), (Nat.le_of_ble_eq_true rfl)⟩) (cq_U_V (q0 := 0) (ci := 5) hK hP hD [0, 1, 2, 3, 4, 5, 6, 7, 8, 9, 10, 11] rfl rfl rfl rfl) rfl rfl hl.1 rfl (lv_room (Nat.le_of_ble_eq_true rfl)) dL_law_546 ⟨(Nat.le_of_ble_eq_true rfl), (Nat.le_of_ble_eq_true rfl)⟩) (fun u546 hd H locs hP hD hS => ?_)
          refine lv_aload_n hx hb dL_law_549 rfl (lv_at hl 2 rfl) ?_
          refine lv_aload_n hx hb dL_law_550 rfl (lv_at hl 0 rfl) ?_
          refine lv_iload_n hx hb dL_law_551 rfl (lv_at hl 3 rfl) ?_
          refine lv_iconst (v := 1) hx hb dL_law_552 ki_1 ?_
          refine lv_iadd hx hb dL_law_553 ?_
          refine rx_sld hx hb hX hbl hbA hS hd dL_law_554 (fun v554 hd => ?_)
          refine rx_upi (fun u => (wGO a_g a_h a_q a_k a_p a_x a_s s_g ++ (wGT cI a_g u546.2.1 ++ (wP cI cJ a_h u546.2.2 ++ (wP cI cJ a_q s_q ++ (wP cI cJ a_k s_k ++ (wTP cI cJ a_p s_p ++ (wTX a_x a_z ++ (wTK cI cJ a_z s_z ++ (wSH cJ cQ a_s s_s ++ (wM cI cJ a_m u))))))))))) hd hP hD hS hA ⟨[50, 51, 52, 53, 54, 55, 56, 57, 58, 59, 60, 61], [0, 1, 2, 3, 4, 5, 6, 7, 8, 9, 10, 11, 12, 13, 14, 15, 16, 17, 18, 19, 20, 21, 22, 23, 24, 25, 26, 27, 28, 29, 30, 31, 32, 33, 34, 35, 36, 37, 38, 39, 40, 41, 42, 43, 44, 45, 46, 47, 48, 49], [0, 1, 2, 3, 4, 5, 6, 7, 8, 9, 10, 11, 12, 13, 14, 15, 16, 17, 18, 19, 20, 21, 22, 23, 24, 25, 26, 27, 28, 29, 30, 31, 32, 33, 34, 35, 36, 37, 38, 39, 40, 41, 42, 43, 44, 45, 46, 47, 48, 49, 50, 51, 52, 53, 54, 55, 56, 57, 58, 59, 60, 61], wGO a_g a_h a_q a_k a_p a_x a_s s_g ++ (wGT cI a_g u546.2.1 ++ (wP cI cJ a_h u546.2.2 ++ (wP cI cJ a_q s_q ++ (wP cI cJ a_k s_k ++ (wTP cI cJ a_p s_p ++ (wTX a_x a_z ++ (wTK cI cJ a_z s_z ++ (wSH cJ cQ a_s s_s)))))))), rfl, rfl, rfl, by decide, rfl, fun _ => rfl⟩ (fun v hv => va_runV (As := [.int v554]) (rest := [.int u546.1]) hcf (c_X7_days l dC dI cI cJ cQ fu a_m _  s_m v554 v hv) (cwV 1 hts gL_law_X7_days rfl rfl rfl cd_X7_days ⟨(Nat.le_of_ble_eq_true rfl), (Nat.le_of_ble_eq_true rfl)⟩) (cq_U_V (q0 := 50) (ci := 6) hK hP hD [50, 51, 52, 53, 54, 55, 56, 57, 58, 59, 60, 61] rfl rfl rfl rfl) rfl rfl hl.1 rfl (lv_room (Nat.le_of_ble_eq_true rfl)) dL_law_555 ⟨(Nat.le_of_ble_eq_true rfl), (Nat.le_of_ble_eq_true rfl)⟩) (fun u555 hd H locs hP hD hS => ?_)
          refine rx_icmp_eq hx hb 1335 dL_law_558 rfl hd (fun hd => ?_) (fun hd => ?_)
          · refine rx_iinc (lv' := fun z => (3, .int z) :: [(0, .ref b), (1, .ref (a_g 0)), (2, .ref (a_m 0))]) hx hb (j := 3) dL_law_1335 hl rfl ki_6 hd (Nat.le_of_ble_eq_true rfl) (fun _ => rfl) (fun x3_1335 hd ls hl => ?_)
            refine lv_goto (tgt := 18) hx hb dL_law_1338 rfl ?_
            exact k18 s_g u546.2.1 u546.2.2 s_q s_k s_p s_z s_s u555.2 x3_1335 hd _ _ _ hP hD hS (lv_sub hl [1, 2, 3, 0] rfl)
          refine lv_iconst (v := 0) hx hb dL_law_561 ki_0 ?_
          exact absurd (Option.some.inj hd) (by decide)
        refine rx_tab hx hb (11 : Int32) (11) rfl 563 dL_law_33 (by decide) (by decide) rfl rfl hd (fun hd => ?_) (fun n_11 hd => ?_)
        · refine lv_aload_n hx hb dL_law_563 rfl (lv_at hl 1 rfl) ?_
          refine lv_aload_n hx hb dL_law_564 rfl (lv_at hl 0 rfl) ?_
          refine lv_iload_n hx hb dL_law_565 rfl (lv_at hl 3 rfl) ?_
          refine lv_iconst (v := 1) hx hb dL_law_566 ki_1 ?_
          refine lv_iadd hx hb dL_law_567 ?_
          refine rx_sld hx hb hX hbl hbA hS hd dL_law_568 (fun v568 hd => ?_)
          refine rx_upi (fun u => (wGO a_g a_h a_q a_k a_p a_x a_s s_g ++ (wGT cI a_g u ++ (wP cI cJ a_h s_h ++ (wP cI cJ a_q s_q ++ (wP cI cJ a_k s_k ++ (wTP cI cJ a_p s_p ++ (wTX a_x a_z ++ (wTK cI cJ a_z s_z ++ (wSH cJ cQ a_s s_s ++ (wM cI cJ a_m s_m))))))))))) hd hP hD hS hA ⟨[0, 1, 2, 3, 4, 5, 6, 7, 8, 9, 10, 11], [12, 13, 14, 15, 16, 17, 18, 19, 20, 21, 22, 23, 24, 25, 26, 27, 28, 29, 30, 31, 32, 33, 34, 35, 36, 37, 38, 39, 40, 41, 42, 43, 44, 45, 46, 47, 48, 49, 50, 51, 52, 53, 54, 55, 56, 57, 58, 59, 60, 61], [50, 51, 52, 53, 54, 55, 56, 57, 58, 59, 60, 61, 0, 1, 2, 3, 4, 5, 6, 7, 8, 9, 10, 11, 12, 13, 14, 15, 16, 17, 18, 19, 20, 21, 22, 23, 24, 25, 26, 27, 28, 29, 30, 31, 32, 33, 34, 35, 36, 37, 38, 39, 40, 41, 42, 43, 44, 45, 46, 47, 48, 49], wP cI cJ a_q s_q ++ (wP cI cJ a_k s_k ++ (wTP cI cJ a_p s_p ++ (wTX a_x a_z ++ (wTK cI cJ a_z s_z ++ (wSH cJ cQ a_s s_s ++ (wM cI cJ a_m s_m)))))), rfl, rfl, rfl, by decide, rfl, fun _ => rfl⟩ (fun v hv => va_runV (As := [.int v568]) (rest := []) hcf (c_X6_now l dC dI cI cJ cQ fu a_g a_h a_q a_k a_p a_x a_s _  s_g s_o s_h v568 v hv) (cwV 1 hts gL_law_X6_now rfl rfl rfl cd_X6_now ⟨(Nat.le_of_ble_eq_true rfl), (Nat.le_of_ble_eq_true rfl)⟩) (cq_U_V (q0 := 0) (ci := 5) hK hP hD [0, 1, 2, 3, 4, 5, 6, 7, 8, 9, 10, 11] rfl rfl rfl rfl) rfl rfl hl.1 rfl (lv_room (Nat.le_of_ble_eq_true rfl)) dL_law_569 ⟨(Nat.le_of_ble_eq_true rfl), (Nat.le_of_ble_eq_true rfl)⟩) (fun u569 hd H locs hP hD hS => ?_)
          refine lv_aload_n hx hb dL_law_572 rfl (lv_at hl 2 rfl) ?_
          refine lv_aload_n hx hb dL_law_573 rfl (lv_at hl 0 rfl) ?_
          refine lv_iload_n hx hb dL_law_574 rfl (lv_at hl 3 rfl) ?_
          refine lv_iconst (v := 1) hx hb dL_law_575 ki_1 ?_
          refine lv_iadd hx hb dL_law_576 ?_
          refine rx_sld hx hb hX hbl hbA hS hd dL_law_577 (fun v577 hd => ?_)
          refine rx_upi (fun u => (wGO a_g a_h a_q a_k a_p a_x a_s s_g ++ (wGT cI a_g u569.2 ++ (wP cI cJ a_h s_h ++ (wP cI cJ a_q s_q ++ (wP cI cJ a_k s_k ++ (wTP cI cJ a_p s_p ++ (wTX a_x a_z ++ (wTK cI cJ a_z s_z ++ (wSH cJ cQ a_s s_s ++ (wM cI cJ a_m u))))))))))) hd hP hD hS hA ⟨[50, 51, 52, 53, 54, 55, 56, 57, 58, 59, 60, 61], [0, 1, 2, 3, 4, 5, 6, 7, 8, 9, 10, 11, 12, 13, 14, 15, 16, 17, 18, 19, 20, 21, 22, 23, 24, 25, 26, 27, 28, 29, 30, 31, 32, 33, 34, 35, 36, 37, 38, 39, 40, 41, 42, 43, 44, 45, 46, 47, 48, 49], [0, 1, 2, 3, 4, 5, 6, 7, 8, 9, 10, 11, 12, 13, 14, 15, 16, 17, 18, 19, 20, 21, 22, 23, 24, 25, 26, 27, 28, 29, 30, 31, 32, 33, 34, 35, 36, 37, 38, 39, 40, 41, 42, 43, 44, 45, 46, 47, 48, 49, 50, 51, 52, 53, 54, 55, 56, 57, 58, 59, 60, 61], wGO a_g a_h a_q a_k a_p a_x a_s s_g ++ (wGT cI a_g u569.2 ++ (wP cI cJ a_h s_h ++ (wP cI cJ a_q s_q ++ (wP cI cJ a_k s_k ++ (wTP cI cJ a_p s_p ++ (wTX a_x a_z ++ (wTK cI cJ a_z s_z ++ (wSH cJ cQ a_s s_s)))))))), rfl, rfl, rfl, by decide, rfl, fun _ => rfl⟩ (fun v hv => va_runV (As := [.int v577]) (rest := [.int u569.1]) hcf (c_X7_now l dC dI cI cJ cQ fu a_m _  s_m v577 v hv) (cwV 1 hts gL_law_X7_now rfl rfl rfl cd_X7_now ⟨(Nat.le_of_ble_eq_true rfl), (Nat.le_of_ble_eq_true rfl)⟩) (cq_U_V (q0 := 50) (ci := 6) hK hP hD [50, 51, 52, 53, 54, 55, 56, 57, 58, 59, 60, 61] rfl rfl rfl rfl) rfl rfl hl.1 rfl (lv_room (Nat.le_of_ble_eq_true rfl)) dL_law_578 ⟨(Nat.le_of_ble_eq_true rfl), (Nat.le_of_ble_eq_true rfl)⟩) (fun u578 hd H locs hP hD hS => ?_)
          refine rx_icmp_eq hx hb 1335 dL_law_581 rfl hd (fun hd => ?_) (fun hd => ?_)
          · refine rx_iinc (lv' := fun z => (3, .int z) :: [(0, .ref b), (1, .ref (a_g 0)), (2, .ref (a_m 0))]) hx hb (j := 3) dL_law_1335 hl rfl ki_6 hd (Nat.le_of_ble_eq_true rfl) (fun _ => rfl) (fun x3_1335 hd ls hl => ?_)
            refine lv_goto (tgt := 18) hx hb dL_law_1338 rfl ?_
            exact k18 s_g u569.2 s_h s_q s_k s_p s_z s_s u578.2 x3_1335 hd _ _ _ hP hD hS (lv_sub hl [1, 2, 3, 0] rfl)
          refine lv_iconst (v := 0) hx hb dL_law_584 ki_0 ?_
          exact absurd (Option.some.inj hd) (by decide)
        refine rx_tab hx hb (12 : Int32) (12) rfl 586 dL_law_33 (by decide) (by decide) rfl rfl hd (fun hd => ?_) (fun n_12 hd => ?_)
        · refine lv_aload_n hx hb dL_law_586 rfl (lv_at hl 1 rfl) ?_
          refine lv_aload_n hx hb dL_law_587 rfl (lv_at hl 0 rfl) ?_
          refine lv_iload_n hx hb dL_law_588 rfl (lv_at hl 3 rfl) ?_
          refine lv_iconst (v := 1) hx hb dL_law_589 ki_1 ?_
          refine lv_iadd hx hb dL_law_590 ?_
          refine rx_sld hx hb hX hbl hbA hS hd dL_law_591 (fun v591 hd => ?_)
          refine lv_aload_n hx hb dL_law_592 rfl (lv_at hl 0 rfl) ?_
          refine lv_iload_n hx hb dL_law_593 rfl (lv_at hl 3 rfl) ?_
          refine lv_iconst (v := 2) hx hb dL_law_594 ki_2 ?_
          refine lv_iadd hx hb dL_law_595 ?_
          refine rx_sld hx hb hX hbl hbA hS hd dL_law_596 (fun v596 hd => ?_)
          refine lv_aload_n hx hb dL_law_597 rfl (lv_at hl 0 rfl) ?_
          refine lv_iload_n hx hb dL_law_598 rfl (lv_at hl 3 rfl) ?_
          refine lv_iconst (v := 3) hx hb dL_law_599 ki_3 ?_
          refine lv_iadd hx hb dL_law_600 ?_
          refine rx_sld hx hb hX hbl hbA hS hd dL_law_601 (fun v601 hd => ?_)
          refine rx_upi (fun u => (wGO a_g a_h a_q a_k a_p a_x a_s s_g ++ (wGT cI a_g u.1 ++ (wP cI cJ a_h s_h ++ (wP cI cJ a_q u.2 ++ (wP cI cJ a_k s_k ++ (wTP cI cJ a_p s_p ++ (wTX a_x a_z ++ (wTK cI cJ a_z s_z ++ (wSH cJ cQ a_s s_s ++ (wM cI cJ a_m s_m))))))))))) hd hP hD hS hA ⟨[0, 1, 2, 3, 4, 5, 6, 7, 8, 9, 10, 11, 12, 13, 14, 15, 16, 17, 18, 19, 20, 21], [22, 23, 24, 25, 26, 27, 28, 29, 30, 31, 32, 33, 34, 35, 36, 37, 38, 39, 40, 41, 42, 43, 44, 45, 46, 47, 48, 49, 50, 51, 52, 53, 54, 55, 56, 57, 58, 59, 60, 61], [40, 41, 42, 43, 44, 45, 46, 47, 48, 49, 50, 51, 52, 53, 54, 55, 56, 57, 58, 59, 60, 61, 0, 1, 2, 3, 4, 5, 6, 7, 8, 9, 10, 11, 12, 13, 14, 15, 16, 17, 18, 19, 20, 21, 22, 23, 24, 25, 26, 27, 28, 29, 30, 31, 32, 33, 34, 35, 36, 37, 38, 39], wP cI cJ a_k s_k ++ (wTP cI cJ a_p s_p ++ (wTX a_x a_z ++ (wTK cI cJ a_z s_z ++ (wSH cJ cQ a_s s_s ++ (wM cI cJ a_m s_m))))), rfl, rfl, rfl, by decide, rfl, fun _ => rfl⟩ (fun v hv => va_runV (As := [.int v591, .int v596, .int v601]) (rest := []) hcf (c_X6_on l dC dI cI cJ cQ fu a_g a_h a_q a_k a_p a_x a_s _  s_g s_o s_h s_q v591 v596 v601 v hv) (cwV 3 hts gL_law_X6_on rfl rfl rfl cd_X6_on ⟨(Nat.le_of_ble_eq_true rfl), (Nat.le_of_ble_eq_true rfl)⟩) (cq_U_V (q0 := 0) (ci := 5) hK hP hD [0, 1, 2, 3, 4, 5, 6, 7, 8, 9, 10, 11, 12, 13, 14, 15, 16, 17, 18, 19, 20, 21] rfl rfl rfl rfl) rfl rfl hl.1 rfl (lv_room (Nat.le_of_ble_eq_true rfl)) dL_law_602 ⟨(Nat.le_of_ble_eq_true rfl), (Nat.le_of_ble_eq_true rfl)⟩) (fun u602 hd H locs hP hD hS => ?_)
          refine lv_aload_n hx hb dL_law_605 rfl (lv_at hl 2 rfl) ?_
          refine lv_aload_n hx hb dL_law_606 rfl (lv_at hl 0 rfl) ?_
          refine lv_iload_n hx hb dL_law_607 rfl (lv_at hl 3 rfl) ?_
          refine lv_iconst (v := 1) hx hb dL_law_608 ki_1 ?_
          refine lv_iadd hx hb dL_law_609 ?_
          refine rx_sld hx hb hX hbl hbA hS hd dL_law_610 (fun v610 hd => ?_)
          refine lv_aload_n hx hb dL_law_611 rfl (lv_at hl 0 rfl) ?_
          refine lv_iload_n hx hb dL_law_612 rfl (lv_at hl 3 rfl) ?_
          refine lv_iconst (v := 2) hx hb dL_law_613 ki_2 ?_
          refine lv_iadd hx hb dL_law_614 ?_
          refine rx_sld hx hb hX hbl hbA hS hd dL_law_615 (fun v615 hd => ?_)
          refine lv_aload_n hx hb dL_law_616 rfl (lv_at hl 0 rfl) ?_
          refine lv_iload_n hx hb dL_law_617 rfl (lv_at hl 3 rfl) ?_
          refine lv_iconst (v := 3) hx hb dL_law_618 ki_3 ?_
          refine lv_iadd hx hb dL_law_619 ?_
          refine rx_sld hx hb hX hbl hbA hS hd dL_law_620 (fun v620 hd => ?_)
          refine rx_upi (fun u => (wGO a_g a_h a_q a_k a_p a_x a_s s_g ++ (wGT cI a_g u602.2.1 ++ (wP cI cJ a_h s_h ++ (wP cI cJ a_q u602.2.2 ++ (wP cI cJ a_k s_k ++ (wTP cI cJ a_p s_p ++ (wTX a_x a_z ++ (wTK cI cJ a_z s_z ++ (wSH cJ cQ a_s s_s ++ (wM cI cJ a_m u))))))))))) hd hP hD hS hA ⟨[50, 51, 52, 53, 54, 55, 56, 57, 58, 59, 60, 61], [0, 1, 2, 3, 4, 5, 6, 7, 8, 9, 10, 11, 12, 13, 14, 15, 16, 17, 18, 19, 20, 21, 22, 23, 24, 25, 26, 27, 28, 29, 30, 31, 32, 33, 34, 35, 36, 37, 38, 39, 40, 41, 42, 43, 44, 45, 46, 47, 48, 49], [0, 1, 2, 3, 4, 5, 6, 7, 8, 9, 10, 11, 12, 13, 14, 15, 16, 17, 18, 19, 20, 21, 22, 23, 24, 25, 26, 27, 28, 29, 30, 31, 32, 33, 34, 35, 36, 37, 38, 39, 40, 41, 42, 43, 44, 45, 46, 47, 48, 49, 50, 51, 52, 53, 54, 55, 56, 57, 58, 59, 60, 61], wGO a_g a_h a_q a_k a_p a_x a_s s_g ++ (wGT cI a_g u602.2.1 ++ (wP cI cJ a_h s_h ++ (wP cI cJ a_q u602.2.2 ++ (wP cI cJ a_k s_k ++ (wTP cI cJ a_p s_p ++ (wTX a_x a_z ++ (wTK cI cJ a_z s_z ++ (wSH cJ cQ a_s s_s)))))))), rfl, rfl, rfl, by decide, rfl, fun _ => rfl⟩ (fun v hv => va_runV (As := [.int v610, .int v615, .int v620]) (rest := [.int u602.1]) hcf (c_X7_on l dC dI cI cJ cQ fu a_m _  s_m v610 v615 v620 v hv) (cwV 3 hts gL_law_X7_on rfl rfl rfl cd_X7_on ⟨(Nat.le_of_ble_eq_true rfl), (Nat.le_of_ble_eq_true rfl)⟩) (cq_U_V (q0 := 50) (ci := 6) hK hP hD [50, 51, 52, 53, 54, 55, 56, 57, 58, 59, 60, 61] rfl rfl rfl rfl) rfl rfl hl.1 rfl (lv_room (Nat.le_of_ble_eq_true rfl)) dL_law_621 ⟨(Nat.le_of_ble_eq_true rfl), (Nat.le_of_ble_eq_true rfl)⟩) (fun u621 hd H locs hP hD hS => ?_)
          refine rx_icmp_eq hx hb 1335 dL_law_624 rfl hd (fun hd => ?_) (fun hd => ?_)
          · refine rx_iinc (lv' := fun z => (3, .int z) :: [(0, .ref b), (1, .ref (a_g 0)), (2, .ref (a_m 0))]) hx hb (j := 3) dL_law_1335 hl rfl ki_6 hd (Nat.le_of_ble_eq_true rfl) (fun _ => rfl) (fun x3_1335 hd ls hl => ?_)
            refine lv_goto (tgt := 18) hx hb dL_law_1338 rfl ?_
            exact k18 s_g u602.2.1 s_h u602.2.2 s_k s_p s_z s_s u621.2 x3_1335 hd _ _ _ hP hD hS (lv_sub hl [1, 2, 3, 0] rfl)
          refine lv_iconst (v := 0) hx hb dL_law_627 ki_0 ?_
          exact absurd (Option.some.inj hd) (by decide)
        refine rx_tab hx hb (13 : Int32) (13) rfl 629 dL_law_33 (by decide) (by decide) rfl rfl hd (fun hd => ?_) (fun n_13 hd => ?_)
        · refine lv_aload_n hx hb dL_law_629 rfl (lv_at hl 1 rfl) ?_
          refine lv_aload_n hx hb dL_law_630 rfl (lv_at hl 0 rfl) ?_
          refine lv_iload_n hx hb dL_law_631 rfl (lv_at hl 3 rfl) ?_
          refine lv_iconst (v := 1) hx hb dL_law_632 ki_1 ?_
          refine lv_iadd hx hb dL_law_633 ?_
          refine rx_sld hx hb hX hbl hbA hS hd dL_law_634 (fun v634 hd => ?_)
          refine rx_upi (fun u => (wGO a_g a_h a_q a_k a_p a_x a_s s_g ++ (wGT cI a_g u.1 ++ (wP cI cJ a_h s_h ++ (wP cI cJ a_q u.2 ++ (wP cI cJ a_k s_k ++ (wTP cI cJ a_p s_p ++ (wTX a_x a_z ++ (wTK cI cJ a_z s_z ++ (wSH cJ cQ a_s s_s ++ (wM cI cJ a_m s_m))))))))))) hd hP hD hS hA ⟨[0, 1, 2, 3, 4, 5, 6, 7, 8, 9, 10, 11, 12, 13, 14, 15, 16, 17, 18, 19, 20, 21], [22, 23, 24, 25, 26, 27, 28, 29, 30, 31, 32, 33, 34, 35, 36, 37, 38, 39, 40, 41, 42, 43, 44, 45, 46, 47, 48, 49, 50, 51, 52, 53, 54, 55, 56, 57, 58, 59, 60, 61], [40, 41, 42, 43, 44, 45, 46, 47, 48, 49, 50, 51, 52, 53, 54, 55, 56, 57, 58, 59, 60, 61, 0, 1, 2, 3, 4, 5, 6, 7, 8, 9, 10, 11, 12, 13, 14, 15, 16, 17, 18, 19, 20, 21, 22, 23, 24, 25, 26, 27, 28, 29, 30, 31, 32, 33, 34, 35, 36, 37, 38, 39], wP cI cJ a_k s_k ++ (wTP cI cJ a_p s_p ++ (wTX a_x a_z ++ (wTK cI cJ a_z s_z ++ (wSH cJ cQ a_s s_s ++ (wM cI cJ a_m s_m))))), rfl, rfl, rfl, by decide, rfl, fun _ => rfl⟩ (fun v hv => va_runV (As := [.int v634]) (rest := []) hcf (c_X6_dry l dC dI cI cJ cQ fu a_g a_h a_q a_k a_p a_x a_s _  s_g s_o s_h s_q v634 v hv) (cwV 1 hts gL_law_X6_dry rfl rfl rfl cd_X6_dry ⟨(Nat.le_of_ble_eq_true rfl), (Nat.le_of_ble_eq_true rfl)⟩) (cq_U_V (q0 := 0) (ci := 5) hK hP hD [0, 1, 2, 3, 4, 5, 6, 7, 8, 9, 10, 11, 12, 13, 14, 15, 16, 17, 18, 19, 20, 21] rfl rfl rfl rfl) rfl rfl hl.1 rfl (lv_room (Nat.le_of_ble_eq_true rfl)) dL_law_635 ⟨(Nat.le_of_ble_eq_true rfl), (Nat.le_of_ble_eq_true rfl)⟩) (fun u635 hd H locs hP hD hS => ?_)
          refine lv_aload_n hx hb dL_law_638 rfl (lv_at hl 2 rfl) ?_
          refine lv_aload_n hx hb dL_law_639 rfl (lv_at hl 0 rfl) ?_
          refine lv_iload_n hx hb dL_law_640 rfl (lv_at hl 3 rfl) ?_
          refine lv_iconst (v := 1) hx hb dL_law_641 ki_1 ?_
          refine lv_iadd hx hb dL_law_642 ?_
          refine rx_sld hx hb hX hbl hbA hS hd dL_law_643 (fun v643 hd => ?_)
          refine rx_upi (fun u => (wGO a_g a_h a_q a_k a_p a_x a_s s_g ++ (wGT cI a_g u635.2.1 ++ (wP cI cJ a_h s_h ++ (wP cI cJ a_q u635.2.2 ++ (wP cI cJ a_k s_k ++ (wTP cI cJ a_p s_p ++ (wTX a_x a_z ++ (wTK cI cJ a_z s_z ++ (wSH cJ cQ a_s s_s ++ (wM cI cJ a_m u))))))))))) hd hP hD hS hA ⟨[50, 51, 52, 53, 54, 55, 56, 57, 58, 59, 60, 61], [0, 1, 2, 3, 4, 5, 6, 7, 8, 9, 10, 11, 12, 13, 14, 15, 16, 17, 18, 19, 20, 21, 22, 23, 24, 25, 26, 27, 28, 29, 30, 31, 32, 33, 34, 35, 36, 37, 38, 39, 40, 41, 42, 43, 44, 45, 46, 47, 48, 49], [0, 1, 2, 3, 4, 5, 6, 7, 8, 9, 10, 11, 12, 13, 14, 15, 16, 17, 18, 19, 20, 21, 22, 23, 24, 25, 26, 27, 28, 29, 30, 31, 32, 33, 34, 35, 36, 37, 38, 39, 40, 41, 42, 43, 44, 45, 46, 47, 48, 49, 50, 51, 52, 53, 54, 55, 56, 57, 58, 59, 60, 61], wGO a_g a_h a_q a_k a_p a_x a_s s_g ++ (wGT cI a_g u635.2.1 ++ (wP cI cJ a_h s_h ++ (wP cI cJ a_q u635.2.2 ++ (wP cI cJ a_k s_k ++ (wTP cI cJ a_p s_p ++ (wTX a_x a_z ++ (wTK cI cJ a_z s_z ++ (wSH cJ cQ a_s s_s)))))))), rfl, rfl, rfl, by decide, rfl, fun _ => rfl⟩ (fun v hv => va_runV (As := [.int v643]) (rest := [.int u635.1]) hcf (c_X7_dry l dC dI cI cJ cQ fu a_m _  s_m v643 v hv) (cwV 1 hts gL_law_X7_dry rfl rfl rfl cd_X7_dry ⟨(Nat.le_of_ble_eq_true rfl), (Nat.le_of_ble_eq_true rfl)⟩) (cq_U_V (q0 := 50) (ci := 6) hK hP hD [50, 51, 52, 53, 54, 55, 56, 57, 58, 59, 60, 61] rfl rfl rfl rfl) rfl rfl hl.1 rfl (lv_room (Nat.le_of_ble_eq_true rfl)) dL_law_644 ⟨(Nat.le_of_ble_eq_true rfl), (Nat.le_of_ble_eq_true rfl)⟩) (fun u644 hd H locs hP hD hS => ?_)
          refine rx_icmp_eq hx hb 1335 dL_law_647 rfl hd (fun hd => ?_) (fun hd => ?_)
          · refine rx_iinc (lv' := fun z => (3, .int z) :: [(0, .ref b), (1, .ref (a_g 0)), (2, .ref (a_m 0))]) hx hb (j := 3) dL_law_1335 hl rfl ki_6 hd (Nat.le_of_ble_eq_true rfl) (fun _ => rfl) (fun x3_1335 hd ls hl => ?_)
            refine lv_goto (tgt := 18) hx hb dL_law_1338 rfl ?_
            exact k18 s_g u635.2.1 s_h u635.2.2 s_k s_p s_z s_s u644.2 x3_1335 hd _ _ _ hP hD hS (lv_sub hl [1, 2, 3, 0] rfl)
          refine lv_iconst (v := 0) hx hb dL_law_650 ki_0 ?_
          exact absurd (Option.some.inj hd) (by decide)
        refine rx_tab hx hb (14 : Int32) (14) rfl 652 dL_law_33 (by decide) (by decide) rfl rfl hd (fun hd => ?_) (fun n_14 hd => ?_)
        · refine lv_aload_n hx hb dL_law_652 rfl (lv_at hl 1 rfl) ?_
          refine rx_upi (fun u => (wGO a_g a_h a_q a_k a_p a_x a_s s_g ++ (wGT cI a_g u ++ (wP cI cJ a_h s_h ++ (wP cI cJ a_q s_q ++ (wP cI cJ a_k s_k ++ (wTP cI cJ a_p s_p ++ (wTX a_x a_z ++ (wTK cI cJ a_z s_z ++ (wSH cJ cQ a_s s_s ++ (wM cI cJ a_m s_m))))))))))) hd hP hD hS hA ⟨[0, 1, 2, 3, 4, 5, 6, 7, 8, 9, 10, 11], [12, 13, 14, 15, 16, 17, 18, 19, 20, 21, 22, 23, 24, 25, 26, 27, 28, 29, 30, 31, 32, 33, 34, 35, 36, 37, 38, 39, 40, 41, 42, 43, 44, 45, 46, 47, 48, 49, 50, 51, 52, 53, 54, 55, 56, 57, 58, 59, 60, 61], [50, 51, 52, 53, 54, 55, 56, 57, 58, 59, 60, 61, 0, 1, 2, 3, 4, 5, 6, 7, 8, 9, 10, 11, 12, 13, 14, 15, 16, 17, 18, 19, 20, 21, 22, 23, 24, 25, 26, 27, 28, 29, 30, 31, 32, 33, 34, 35, 36, 37, 38, 39, 40, 41, 42, 43, 44, 45, 46, 47, 48, 49], wP cI cJ a_q s_q ++ (wP cI cJ a_k s_k ++ (wTP cI cJ a_p s_p ++ (wTX a_x a_z ++ (wTK cI cJ a_z s_z ++ (wSH cJ cQ a_s s_s ++ (wM cI cJ a_m s_m)))))), rfl, rfl, rfl, by decide, rfl, fun _ => rfl⟩ (fun v hv => va_runV (As := []) (rest := []) hcf (c_X6_favourite l dC dI cI cJ cQ fu a_g a_h a_q a_k a_p a_x a_s _  s_g s_o s_h  v hv) (cwV 0 hts gL_law_X6_favourite rfl rfl rfl cd_X6_favourite ⟨(Nat.le_of_ble_eq_true rfl), (Nat.le_of_ble_eq_true rfl)⟩) (cq_U_V (q0 := 0) (ci := 5) hK hP hD [0, 1, 2, 3, 4, 5, 6, 7, 8, 9, 10, 11] rfl rfl rfl rfl) rfl rfl hl.1 rfl (lv_room (Nat.le_of_ble_eq_true rfl)) dL_law_653 ⟨(Nat.le_of_ble_eq_true rfl), (Nat.le_of_ble_eq_true rfl)⟩) (fun u653 hd H locs hP hD hS => ?_)
          refine lv_aload_n hx hb dL_law_656 rfl (lv_at hl 2 rfl) ?_
          refine rx_upi (fun u => (wGO a_g a_h a_q a_k a_p a_x a_s s_g ++ (wGT cI a_g u653.2 ++ (wP cI cJ a_h s_h ++ (wP cI cJ a_q s_q ++ (wP cI cJ a_k s_k ++ (wTP cI cJ a_p s_p ++ (wTX a_x a_z ++ (wTK cI cJ a_z s_z ++ (wSH cJ cQ a_s s_s ++ (wM cI cJ a_m u))))))))))) hd hP hD hS hA ⟨[50, 51, 52, 53, 54, 55, 56, 57, 58, 59, 60, 61], [0, 1, 2, 3, 4, 5, 6, 7, 8, 9, 10, 11, 12, 13, 14, 15, 16, 17, 18, 19, 20, 21, 22, 23, 24, 25, 26, 27, 28, 29, 30, 31, 32, 33, 34, 35, 36, 37, 38, 39, 40, 41, 42, 43, 44, 45, 46, 47, 48, 49], [0, 1, 2, 3, 4, 5, 6, 7, 8, 9, 10, 11, 12, 13, 14, 15, 16, 17, 18, 19, 20, 21, 22, 23, 24, 25, 26, 27, 28, 29, 30, 31, 32, 33, 34, 35, 36, 37, 38, 39, 40, 41, 42, 43, 44, 45, 46, 47, 48, 49, 50, 51, 52, 53, 54, 55, 56, 57, 58, 59, 60, 61], wGO a_g a_h a_q a_k a_p a_x a_s s_g ++ (wGT cI a_g u653.2 ++ (wP cI cJ a_h s_h ++ (wP cI cJ a_q s_q ++ (wP cI cJ a_k s_k ++ (wTP cI cJ a_p s_p ++ (wTX a_x a_z ++ (wTK cI cJ a_z s_z ++ (wSH cJ cQ a_s s_s)))))))), rfl, rfl, rfl, by decide, rfl, fun _ => rfl⟩ (fun v hv => va_runV (As := []) (rest := [.int u653.1]) hcf (c_X7_favourite l dC dI cI cJ cQ fu a_m _  s_m  v hv) (cwV 0 hts gL_law_X7_favourite rfl rfl rfl cd_X7_favourite ⟨(Nat.le_of_ble_eq_true rfl), (Nat.le_of_ble_eq_true rfl)⟩) (cq_U_V (q0 := 50) (ci := 6) hK hP hD [50, 51, 52, 53, 54, 55, 56, 57, 58, 59, 60, 61] rfl rfl rfl rfl) rfl rfl hl.1 rfl (lv_room (Nat.le_of_ble_eq_true rfl)) dL_law_657 ⟨(Nat.le_of_ble_eq_true rfl), (Nat.le_of_ble_eq_true rfl)⟩) (fun u657 hd H locs hP hD hS => ?_)
          refine rx_icmp_eq hx hb 1335 dL_law_660 rfl hd (fun hd => ?_) (fun hd => ?_)
          · refine rx_iinc (lv' := fun z => (3, .int z) :: [(0, .ref b), (1, .ref (a_g 0)), (2, .ref (a_m 0))]) hx hb (j := 3) dL_law_1335 hl rfl ki_6 hd (Nat.le_of_ble_eq_true rfl) (fun _ => rfl) (fun x3_1335 hd ls hl => ?_)
            refine lv_goto (tgt := 18) hx hb dL_law_1338 rfl ?_
            exact k18 s_g u653.2 s_h s_q s_k s_p s_z s_s u657.2 x3_1335 hd _ _ _ hP hD hS (lv_sub hl [1, 2, 3, 0] rfl)
          refine lv_iconst (v := 0) hx hb dL_law_663 ki_0 ?_
          exact absurd (Option.some.inj hd) (by decide)
        refine rx_tab hx hb (15 : Int32) (15) rfl 665 dL_law_33 (by decide) (by decide) rfl rfl hd (fun hd => ?_) (fun n_15 hd => ?_)
        · refine lv_aload_n hx hb dL_law_665 rfl (lv_at hl 1 rfl) ?_
          refine lv_aload_n hx hb dL_law_666 rfl (lv_at hl 0 rfl) ?_
          refine lv_iload_n hx hb dL_law_667 rfl (lv_at hl 3 rfl) ?_
          refine lv_iconst (v := 1) hx hb dL_law_668 ki_1 ?_
          refine lv_iadd hx hb dL_law_669 ?_
          refine rx_sld hx hb hX hbl hbA hS hd dL_law_670 (fun v670 hd => ?_)
          refine lv_aload_n hx hb dL_law_671 rfl (lv_at hl 0 rfl) ?_
          refine lv_iload_n hx hb dL_law_672 rfl (lv_at hl 3 rfl) ?_
          refine lv_iconst (v := 2) hx hb dL_law_673 ki_2 ?_
          refine lv_iadd hx hb dL_law_674 ?_
          refine rx_sld hx hb hX hbl hbA hS hd dL_law_675 (fun v675 hd => ?_)
          refine rx_upi (fun u => (wGO a_g a_h a_q a_k a_p a_x a_s s_g ++ (wGT cI a_g u.1 ++ (wP cI cJ a_h s_h ++ (wP cI cJ a_q u.2 ++ (wP cI cJ a_k s_k ++ (wTP cI cJ a_p s_p ++ (wTX a_x a_z ++ (wTK cI cJ a_z s_z ++ (wSH cJ cQ a_s s_s ++ (wM cI cJ a_m s_m))))))))))) hd hP hD hS hA ⟨[0, 1, 2, 3, 4, 5, 6, 7, 8, 9, 10, 11, 12, 13, 14, 15, 16, 17, 18, 19, 20, 21], [22, 23, 24, 25, 26, 27, 28, 29, 30, 31, 32, 33, 34, 35, 36, 37, 38, 39, 40, 41, 42, 43, 44, 45, 46, 47, 48, 49, 50, 51, 52, 53, 54, 55, 56, 57, 58, 59, 60, 61], [40, 41, 42, 43, 44, 45, 46, 47, 48, 49, 50, 51, 52, 53, 54, 55, 56, 57, 58, 59, 60, 61, 0, 1, 2, 3, 4, 5, 6, 7, 8, 9, 10, 11, 12, 13, 14, 15, 16, 17, 18, 19, 20, 21, 22, 23, 24, 25, 26, 27, 28, 29, 30, 31, 32, 33, 34, 35, 36, 37, 38, 39], wP cI cJ a_k s_k ++ (wTP cI cJ a_p s_p ++ (wTX a_x a_z ++ (wTK cI cJ a_z s_z ++ (wSH cJ cQ a_s s_s ++ (wM cI cJ a_m s_m))))), rfl, rfl, rfl, by decide, rfl, fun _ => rfl⟩ (fun v hv => va_runV (As := [.int v670, .int v675]) (rest := []) hcf (c_X6_send l dC dI cI cJ cQ fu a_g a_h a_q a_k a_p a_x a_s _  s_g s_o s_h s_q v670 v675 v hv) (cwV 2 hts gL_law_X6_send rfl rfl rfl cd_X6_send ⟨(Nat.le_of_ble_eq_true rfl), (Nat.le_of_ble_eq_true rfl)⟩) (cq_U_V (q0 := 0) (ci := 5) hK hP hD [0, 1, 2, 3, 4, 5, 6, 7, 8, 9, 10, 11, 12, 13, 14, 15, 16, 17, 18, 19, 20, 21] rfl rfl rfl rfl) rfl rfl hl.1 rfl (lv_room (Nat.le_of_ble_eq_true rfl)) dL_law_676 ⟨(Nat.le_of_ble_eq_true rfl), (Nat.le_of_ble_eq_true rfl)⟩) (fun u676 hd H locs hP hD hS => ?_)
          refine lv_aload_n hx hb dL_law_679 rfl (lv_at hl 2 rfl) ?_
          refine lv_aload_n hx hb dL_law_680 rfl (lv_at hl 0 rfl) ?_
          refine lv_iload_n hx hb dL_law_681 rfl (lv_at hl 3 rfl) ?_
          refine lv_iconst (v := 1) hx hb dL_law_682 ki_1 ?_
          refine lv_iadd hx hb dL_law_683 ?_
          refine rx_sld hx hb hX hbl hbA hS hd dL_law_684 (fun v684 hd => ?_)
          refine lv_aload_n hx hb dL_law_685 rfl (lv_at hl 0 rfl) ?_
          refine lv_iload_n hx hb dL_law_686 rfl (lv_at hl 3 rfl) ?_
          refine lv_iconst (v := 2) hx hb dL_law_687 ki_2 ?_
          refine lv_iadd hx hb dL_law_688 ?_
          refine rx_sld hx hb hX hbl hbA hS hd dL_law_689 (fun v689 hd => ?_)
          refine rx_upi (fun u => (wGO a_g a_h a_q a_k a_p a_x a_s s_g ++ (wGT cI a_g u676.2.1 ++ (wP cI cJ a_h s_h ++ (wP cI cJ a_q u676.2.2 ++ (wP cI cJ a_k s_k ++ (wTP cI cJ a_p s_p ++ (wTX a_x a_z ++ (wTK cI cJ a_z s_z ++ (wSH cJ cQ a_s s_s ++ (wM cI cJ a_m u))))))))))) hd hP hD hS hA ⟨[50, 51, 52, 53, 54, 55, 56, 57, 58, 59, 60, 61], [0, 1, 2, 3, 4, 5, 6, 7, 8, 9, 10, 11, 12, 13, 14, 15, 16, 17, 18, 19, 20, 21, 22, 23, 24, 25, 26, 27, 28, 29, 30, 31, 32, 33, 34, 35, 36, 37, 38, 39, 40, 41, 42, 43, 44, 45, 46, 47, 48, 49], [0, 1, 2, 3, 4, 5, 6, 7, 8, 9, 10, 11, 12, 13, 14, 15, 16, 17, 18, 19, 20, 21, 22, 23, 24, 25, 26, 27, 28, 29, 30, 31, 32, 33, 34, 35, 36, 37, 38, 39, 40, 41, 42, 43, 44, 45, 46, 47, 48, 49, 50, 51, 52, 53, 54, 55, 56, 57, 58, 59, 60, 61], wGO a_g a_h a_q a_k a_p a_x a_s s_g ++ (wGT cI a_g u676.2.1 ++ (wP cI cJ a_h s_h ++ (wP cI cJ a_q u676.2.2 ++ (wP cI cJ a_k s_k ++ (wTP cI cJ a_p s_p ++ (wTX a_x a_z ++ (wTK cI cJ a_z s_z ++ (wSH cJ cQ a_s s_s)))))))), rfl, rfl, rfl, by decide, rfl, fun _ => rfl⟩ (fun v hv => va_runV (As := [.int v684, .int v689]) (rest := [.int u676.1]) hcf (c_X7_send l dC dI cI cJ cQ fu a_m _  s_m v684 v689 v hv) (cwV 2 hts gL_law_X7_send rfl rfl rfl cd_X7_send ⟨(Nat.le_of_ble_eq_true rfl), (Nat.le_of_ble_eq_true rfl)⟩) (cq_U_V (q0 := 50) (ci := 6) hK hP hD [50, 51, 52, 53, 54, 55, 56, 57, 58, 59, 60, 61] rfl rfl rfl rfl) rfl rfl hl.1 rfl (lv_room (Nat.le_of_ble_eq_true rfl)) dL_law_690 ⟨(Nat.le_of_ble_eq_true rfl), (Nat.le_of_ble_eq_true rfl)⟩) (fun u690 hd H locs hP hD hS => ?_)
          refine rx_icmp_eq hx hb 1335 dL_law_693 rfl hd (fun hd => ?_) (fun hd => ?_)
          · refine rx_iinc (lv' := fun z => (3, .int z) :: [(0, .ref b), (1, .ref (a_g 0)), (2, .ref (a_m 0))]) hx hb (j := 3) dL_law_1335 hl rfl ki_6 hd (Nat.le_of_ble_eq_true rfl) (fun _ => rfl) (fun x3_1335 hd ls hl => ?_)
            refine lv_goto (tgt := 18) hx hb dL_law_1338 rfl ?_
            exact k18 s_g u676.2.1 s_h u676.2.2 s_k s_p s_z s_s u690.2 x3_1335 hd _ _ _ hP hD hS (lv_sub hl [1, 2, 3, 0] rfl)
          refine lv_iconst (v := 0) hx hb dL_law_696 ki_0 ?_
          exact absurd (Option.some.inj hd) (by decide)
        refine rx_tab hx hb (16 : Int32) (16) rfl 698 dL_law_33 (by decide) (by decide) rfl rfl hd (fun hd => ?_) (fun n_16 hd => ?_)
        · refine lv_aload_n hx hb dL_law_698 rfl (lv_at hl 1 rfl) ?_
          refine lv_aload_n hx hb dL_law_699 rfl (lv_at hl 0 rfl) ?_
          refine lv_iload_n hx hb dL_law_700 rfl (lv_at hl 3 rfl) ?_
          refine lv_iconst (v := 1) hx hb dL_law_701 ki_1 ?_
          refine lv_iadd hx hb dL_law_702 ?_
          refine rx_sld hx hb hX hbl hbA hS hd dL_law_703 (fun v703 hd => ?_)
          refine rx_upi (fun u => (wGO a_g a_h a_q a_k a_p a_x a_s s_g ++ (wGT cI a_g u.1 ++ (wP cI cJ a_h s_h ++ (wP cI cJ a_q u.2 ++ (wP cI cJ a_k s_k ++ (wTP cI cJ a_p s_p ++ (wTX a_x a_z ++ (wTK cI cJ a_z s_z ++ (wSH cJ cQ a_s s_s ++ (wM cI cJ a_m s_m))))))))))) hd hP hD hS hA ⟨[0, 1, 2, 3, 4, 5, 6, 7, 8, 9, 10, 11, 12, 13, 14, 15, 16, 17, 18, 19, 20, 21], [22, 23, 24, 25, 26, 27, 28, 29, 30, 31, 32, 33, 34, 35, 36, 37, 38, 39, 40, 41, 42, 43, 44, 45, 46, 47, 48, 49, 50, 51, 52, 53, 54, 55, 56, 57, 58, 59, 60, 61], [40, 41, 42, 43, 44, 45, 46, 47, 48, 49, 50, 51, 52, 53, 54, 55, 56, 57, 58, 59, 60, 61, 0, 1, 2, 3, 4, 5, 6, 7, 8, 9, 10, 11, 12, 13, 14, 15, 16, 17, 18, 19, 20, 21, 22, 23, 24, 25, 26, 27, 28, 29, 30, 31, 32, 33, 34, 35, 36, 37, 38, 39], wP cI cJ a_k s_k ++ (wTP cI cJ a_p s_p ++ (wTX a_x a_z ++ (wTK cI cJ a_z s_z ++ (wSH cJ cQ a_s s_s ++ (wM cI cJ a_m s_m))))), rfl, rfl, rfl, by decide, rfl, fun _ => rfl⟩ (fun v hv => va_runV (As := [.int v703]) (rest := []) hcf (c_X6_round l dC dI cI cJ cQ fu a_g a_h a_q a_k a_p a_x a_s _  s_g s_o s_h s_q v703 v hv) (cwV 1 hts gL_law_X6_round rfl rfl rfl cd_X6_round ⟨(Nat.le_of_ble_eq_true rfl), (Nat.le_of_ble_eq_true rfl)⟩) (cq_U_V (q0 := 0) (ci := 5) hK hP hD [0, 1, 2, 3, 4, 5, 6, 7, 8, 9, 10, 11, 12, 13, 14, 15, 16, 17, 18, 19, 20, 21] rfl rfl rfl rfl) rfl rfl hl.1 rfl (lv_room (Nat.le_of_ble_eq_true rfl)) dL_law_704 ⟨(Nat.le_of_ble_eq_true rfl), (Nat.le_of_ble_eq_true rfl)⟩) (fun u704 hd H locs hP hD hS => ?_)
          refine lv_aload_n hx hb dL_law_707 rfl (lv_at hl 2 rfl) ?_
          refine lv_aload_n hx hb dL_law_708 rfl (lv_at hl 0 rfl) ?_
          refine lv_iload_n hx hb dL_law_709 rfl (lv_at hl 3 rfl) ?_
          refine lv_iconst (v := 1) hx hb dL_law_710 ki_1 ?_
          refine lv_iadd hx hb dL_law_711 ?_
          refine rx_sld hx hb hX hbl hbA hS hd dL_law_712 (fun v712 hd => ?_)
          refine rx_upi (fun u => (wGO a_g a_h a_q a_k a_p a_x a_s s_g ++ (wGT cI a_g u704.2.1 ++ (wP cI cJ a_h s_h ++ (wP cI cJ a_q u704.2.2 ++ (wP cI cJ a_k s_k ++ (wTP cI cJ a_p s_p ++ (wTX a_x a_z ++ (wTK cI cJ a_z s_z ++ (wSH cJ cQ a_s s_s ++ (wM cI cJ a_m u))))))))))) hd hP hD hS hA ⟨[50, 51, 52, 53, 54, 55, 56, 57, 58, 59, 60, 61], [0, 1, 2, 3, 4, 5, 6, 7, 8, 9, 10, 11, 12, 13, 14, 15, 16, 17, 18, 19, 20, 21, 22, 23, 24, 25, 26, 27, 28, 29, 30, 31, 32, 33, 34, 35, 36, 37, 38, 39, 40, 41, 42, 43, 44, 45, 46, 47, 48, 49], [0, 1, 2, 3, 4, 5, 6, 7, 8, 9, 10, 11, 12, 13, 14, 15, 16, 17, 18, 19, 20, 21, 22, 23, 24, 25, 26, 27, 28, 29, 30, 31, 32, 33, 34, 35, 36, 37, 38, 39, 40, 41, 42, 43, 44, 45, 46, 47, 48, 49, 50, 51, 52, 53, 54, 55, 56, 57, 58, 59, 60, 61], wGO a_g a_h a_q a_k a_p a_x a_s s_g ++ (wGT cI a_g u704.2.1 ++ (wP cI cJ a_h s_h ++ (wP cI cJ a_q u704.2.2 ++ (wP cI cJ a_k s_k ++ (wTP cI cJ a_p s_p ++ (wTX a_x a_z ++ (wTK cI cJ a_z s_z ++ (wSH cJ cQ a_s s_s)))))))), rfl, rfl, rfl, by decide, rfl, fun _ => rfl⟩ (fun v hv => va_runV (As := [.int v712]) (rest := [.int u704.1]) hcf (c_X7_round l dC dI cI cJ cQ fu a_m _  s_m v712 v hv) (cwV 1 hts gL_law_X7_round rfl rfl rfl cd_X7_round ⟨(Nat.le_of_ble_eq_true rfl), (Nat.le_of_ble_eq_true rfl)⟩) (cq_U_V (q0 := 50) (ci := 6) hK hP hD [50, 51, 52, 53, 54, 55, 56, 57, 58, 59, 60, 61] rfl rfl rfl rfl) rfl rfl hl.1 rfl (lv_room (Nat.le_of_ble_eq_true rfl)) dL_law_713 ⟨(Nat.le_of_ble_eq_true rfl), (Nat.le_of_ble_eq_true rfl)⟩) (fun u713 hd H locs hP hD hS => ?_)
          refine rx_icmp_eq hx hb 1335 dL_law_716 rfl hd (fun hd => ?_) (fun hd => ?_)
          · refine rx_iinc (lv' := fun z => (3, .int z) :: [(0, .ref b), (1, .ref (a_g 0)), (2, .ref (a_m 0))]) hx hb (j := 3) dL_law_1335 hl rfl ki_6 hd (Nat.le_of_ble_eq_true rfl) (fun _ => rfl) (fun x3_1335 hd ls hl => ?_)
            refine lv_goto (tgt := 18) hx hb dL_law_1338 rfl ?_
            exact k18 s_g u704.2.1 s_h u704.2.2 s_k s_p s_z s_s u713.2 x3_1335 hd _ _ _ hP hD hS (lv_sub hl [1, 2, 3, 0] rfl)
          refine lv_iconst (v := 0) hx hb dL_law_719 ki_0 ?_
          exact absurd (Option.some.inj hd) (by decide)
        refine rx_tab hx hb (17 : Int32) (17) rfl 721 dL_law_33 (by decide) (by decide) rfl rfl hd (fun hd => ?_) (fun n_17 hd => ?_)
        · refine lv_aload_n hx hb dL_law_721 rfl (lv_at hl 1 rfl) ?_
          refine lv_aload_n hx hb dL_law_722 rfl (lv_at hl 0 rfl) ?_
          refine lv_iload_n hx hb dL_law_723 rfl (lv_at hl 3 rfl) ?_
          refine lv_iconst (v := 1) hx hb dL_law_724 ki_1 ?_
          refine lv_iadd hx hb dL_law_725 ?_
          refine rx_sld hx hb hX hbl hbA hS hd dL_law_726 (fun v726 hd => ?_)
          refine lv_aload_n hx hb dL_law_727 rfl (lv_at hl 0 rfl) ?_
          refine lv_iload_n hx hb dL_law_728 rfl (lv_at hl 3 rfl) ?_
          refine lv_iconst (v := 2) hx hb dL_law_729 ki_2 ?_
          refine lv_iadd hx hb dL_law_730 ?_
          refine rx_sld hx hb hX hbl hbA hS hd dL_law_731 (fun v731 hd => ?_)
          refine rx_upi (fun u => (wGO a_g a_h a_q a_k a_p a_x a_s s_g ++ (wGT cI a_g u ++ (wP cI cJ a_h s_h ++ (wP cI cJ a_q s_q ++ (wP cI cJ a_k s_k ++ (wTP cI cJ a_p s_p ++ (wTX a_x a_z ++ (wTK cI cJ a_z s_z ++ (wSH cJ cQ a_s s_s ++ (wM cI cJ a_m s_m))))))))))) hd hP hD hS hA ⟨[0, 1, 2, 3, 4, 5, 6, 7, 8, 9, 10, 11], [12, 13, 14, 15, 16, 17, 18, 19, 20, 21, 22, 23, 24, 25, 26, 27, 28, 29, 30, 31, 32, 33, 34, 35, 36, 37, 38, 39, 40, 41, 42, 43, 44, 45, 46, 47, 48, 49, 50, 51, 52, 53, 54, 55, 56, 57, 58, 59, 60, 61], [50, 51, 52, 53, 54, 55, 56, 57, 58, 59, 60, 61, 0, 1, 2, 3, 4, 5, 6, 7, 8, 9, 10, 11, 12, 13, 14, 15, 16, 17, 18, 19, 20, 21, 22, 23, 24, 25, 26, 27, 28, 29, 30, 31, 32, 33, 34, 35, 36, 37, 38, 39, 40, 41, 42, 43, 44, 45, 46, 47, 48, 49], wP cI cJ a_q s_q ++ (wP cI cJ a_k s_k ++ (wTP cI cJ a_p s_p ++ (wTX a_x a_z ++ (wTK cI cJ a_z s_z ++ (wSH cJ cQ a_s s_s ++ (wM cI cJ a_m s_m)))))), rfl, rfl, rfl, by decide, rfl, fun _ => rfl⟩ (fun v hv => va_runV (As := [.int v726, .int v731]) (rest := []) hcf (c_X6_deeds l dC dI cI cJ cQ fu a_g a_h a_q a_k a_p a_x a_s _  s_g s_o s_h v726 v731 v hv) (cwV 2 hts gL_law_X6_deeds rfl rfl rfl cd_X6_deeds ⟨(Nat.le_of_ble_eq_true rfl), (Nat.le_of_ble_eq_true rfl)⟩) (cq_U_V (q0 := 0) (ci := 5) hK hP hD [0, 1, 2, 3, 4, 5, 6, 7, 8, 9, 10, 11] rfl rfl rfl rfl) rfl rfl hl.1 rfl (lv_room (Nat.le_of_ble_eq_true rfl)) dL_law_732 ⟨(Nat.le_of_ble_eq_true rfl), (Nat.le_of_ble_eq_true rfl)⟩) (fun u732 hd H locs hP hD hS => ?_)
          refine lv_aload_n hx hb dL_law_735 rfl (lv_at hl 2 rfl) ?_
          refine lv_aload_n hx hb dL_law_736 rfl (lv_at hl 0 rfl) ?_
          refine lv_iload_n hx hb dL_law_737 rfl (lv_at hl 3 rfl) ?_
          refine lv_iconst (v := 1) hx hb dL_law_738 ki_1 ?_
          refine lv_iadd hx hb dL_law_739 ?_
          refine rx_sld hx hb hX hbl hbA hS hd dL_law_740 (fun v740 hd => ?_)
          refine lv_aload_n hx hb dL_law_741 rfl (lv_at hl 0 rfl) ?_
          refine lv_iload_n hx hb dL_law_742 rfl (lv_at hl 3 rfl) ?_
          refine lv_iconst (v := 2) hx hb dL_law_743 ki_2 ?_
          refine lv_iadd hx hb dL_law_744 ?_
          refine rx_sld hx hb hX hbl hbA hS hd dL_law_745 (fun v745 hd => ?_)
          refine rx_upi (fun u => (wGO a_g a_h a_q a_k a_p a_x a_s s_g ++ (wGT cI a_g u732.2 ++ (wP cI cJ a_h s_h ++ (wP cI cJ a_q s_q ++ (wP cI cJ a_k s_k ++ (wTP cI cJ a_p s_p ++ (wTX a_x a_z ++ (wTK cI cJ a_z s_z ++ (wSH cJ cQ a_s s_s ++ (wM cI cJ a_m u))))))))))) hd hP hD hS hA ⟨[50, 51, 52, 53, 54, 55, 56, 57, 58, 59, 60, 61], [0, 1, 2, 3, 4, 5, 6, 7, 8, 9, 10, 11, 12, 13, 14, 15, 16, 17, 18, 19, 20, 21, 22, 23, 24, 25, 26, 27, 28, 29, 30, 31, 32, 33, 34, 35, 36, 37, 38, 39, 40, 41, 42, 43, 44, 45, 46, 47, 48, 49], [0, 1, 2, 3, 4, 5, 6, 7, 8, 9, 10, 11, 12, 13, 14, 15, 16, 17, 18, 19, 20, 21, 22, 23, 24, 25, 26, 27, 28, 29, 30, 31, 32, 33, 34, 35, 36, 37, 38, 39, 40, 41, 42, 43, 44, 45, 46, 47, 48, 49, 50, 51, 52, 53, 54, 55, 56, 57, 58, 59, 60, 61], wGO a_g a_h a_q a_k a_p a_x a_s s_g ++ (wGT cI a_g u732.2 ++ (wP cI cJ a_h s_h ++ (wP cI cJ a_q s_q ++ (wP cI cJ a_k s_k ++ (wTP cI cJ a_p s_p ++ (wTX a_x a_z ++ (wTK cI cJ a_z s_z ++ (wSH cJ cQ a_s s_s)))))))), rfl, rfl, rfl, by decide, rfl, fun _ => rfl⟩ (fun v hv => va_runV (As := [.int v740, .int v745]) (rest := [.int u732.1]) hcf (c_X7_deeds l dC dI cI cJ cQ fu a_m _  s_m v740 v745 v hv) (cwV 2 hts gL_law_X7_deeds rfl rfl rfl cd_X7_deeds ⟨(Nat.le_of_ble_eq_true rfl), (Nat.le_of_ble_eq_true rfl)⟩) (cq_U_V (q0 := 50) (ci := 6) hK hP hD [50, 51, 52, 53, 54, 55, 56, 57, 58, 59, 60, 61] rfl rfl rfl rfl) rfl rfl hl.1 rfl (lv_room (Nat.le_of_ble_eq_true rfl)) dL_law_746 ⟨(Nat.le_of_ble_eq_true rfl), (Nat.le_of_ble_eq_true rfl)⟩) (fun u746 hd H locs hP hD hS => ?_)
          refine rx_icmp_eq hx hb 1335 dL_law_749 rfl hd (fun hd => ?_) (fun hd => ?_)
          · refine rx_iinc (lv' := fun z => (3, .int z) :: [(0, .ref b), (1, .ref (a_g 0)), (2, .ref (a_m 0))]) hx hb (j := 3) dL_law_1335 hl rfl ki_6 hd (Nat.le_of_ble_eq_true rfl) (fun _ => rfl) (fun x3_1335 hd ls hl => ?_)
            refine lv_goto (tgt := 18) hx hb dL_law_1338 rfl ?_
            exact k18 s_g u732.2 s_h s_q s_k s_p s_z s_s u746.2 x3_1335 hd _ _ _ hP hD hS (lv_sub hl [1, 2, 3, 0] rfl)
          refine lv_iconst (v := 0) hx hb dL_law_752 ki_0 ?_
          exact absurd (Option.some.inj hd) (by decide)
        refine rx_tab hx hb (18 : Int32) (18) rfl 754 dL_law_33 (by decide) (by decide) rfl rfl hd (fun hd => ?_) (fun n_18 hd => ?_)
        · refine lv_aload_n hx hb dL_law_754 rfl (lv_at hl 1 rfl) ?_
          refine lv_aload_n hx hb dL_law_755 rfl (lv_at hl 0 rfl) ?_
          refine lv_iload_n hx hb dL_law_756 rfl (lv_at hl 3 rfl) ?_
          refine lv_iconst (v := 1) hx hb dL_law_757 ki_1 ?_
          refine lv_iadd hx hb dL_law_758 ?_
          refine rx_sld hx hb hX hbl hbA hS hd dL_law_759 (fun v759 hd => ?_)
          refine rx_upi (fun u => (wGO a_g a_h a_q a_k a_p a_x a_s s_g ++ (wGT cI a_g u ++ (wP cI cJ a_h s_h ++ (wP cI cJ a_q s_q ++ (wP cI cJ a_k s_k ++ (wTP cI cJ a_p s_p ++ (wTX a_x a_z ++ (wTK cI cJ a_z s_z ++ (wSH cJ cQ a_s s_s ++ (wM cI cJ a_m s_m))))))))))) hd hP hD hS hA ⟨[0, 1, 2, 3, 4, 5, 6, 7, 8, 9, 10, 11], [12, 13, 14, 15, 16, 17, 18, 19, 20, 21, 22, 23, 24, 25, 26, 27, 28, 29, 30, 31, 32, 33, 34, 35, 36, 37, 38, 39, 40, 41, 42, 43, 44, 45, 46, 47, 48, 49, 50, 51, 52, 53, 54, 55, 56, 57, 58, 59, 60, 61], [50, 51, 52, 53, 54, 55, 56, 57, 58, 59, 60, 61, 0, 1, 2, 3, 4, 5, 6, 7, 8, 9, 10, 11, 12, 13, 14, 15, 16, 17, 18, 19, 20, 21, 22, 23, 24, 25, 26, 27, 28, 29, 30, 31, 32, 33, 34, 35, 36, 37, 38, 39, 40, 41, 42, 43, 44, 45, 46, 47, 48, 49], wP cI cJ a_q s_q ++ (wP cI cJ a_k s_k ++ (wTP cI cJ a_p s_p ++ (wTX a_x a_z ++ (wTK cI cJ a_z s_z ++ (wSH cJ cQ a_s s_s ++ (wM cI cJ a_m s_m)))))), rfl, rfl, rfl, by decide, rfl, fun _ => rfl⟩ (fun v hv => va_runV (As := [.int v759]) (rest := []) hcf (c_X6_step l dC dI cI cJ cQ fu a_g a_h a_q a_k a_p a_x a_s _  s_g s_o s_h v759 v hv) (cwV 1 hts gL_law_X6_step rfl rfl rfl cd_X6_step ⟨(Nat.le_of_ble_eq_true rfl), (Nat.le_of_ble_eq_true rfl)⟩) (cq_U_V (q0 := 0) (ci := 5) hK hP hD [0, 1, 2, 3, 4, 5, 6, 7, 8, 9, 10, 11] rfl rfl rfl rfl) rfl rfl hl.1 rfl (lv_room (Nat.le_of_ble_eq_true rfl)) dL_law_760 ⟨(Nat.le_of_ble_eq_true rfl), (Nat.le_of_ble_eq_true rfl)⟩) (fun u760 hd H locs hP hD hS => ?_)
          refine lv_aload_n hx hb dL_law_763 rfl (lv_at hl 2 rfl) ?_
          refine lv_aload_n hx hb dL_law_764 rfl (lv_at hl 0 rfl) ?_
          refine lv_iload_n hx hb dL_law_765 rfl (lv_at hl 3 rfl) ?_
          refine lv_iconst (v := 1) hx hb dL_law_766 ki_1 ?_
          refine lv_iadd hx hb dL_law_767 ?_
          refine rx_sld hx hb hX hbl hbA hS hd dL_law_768 (fun v768 hd => ?_)
          refine rx_upi (fun u => (wGO a_g a_h a_q a_k a_p a_x a_s s_g ++ (wGT cI a_g u760.2 ++ (wP cI cJ a_h s_h ++ (wP cI cJ a_q s_q ++ (wP cI cJ a_k s_k ++ (wTP cI cJ a_p s_p ++ (wTX a_x a_z ++ (wTK cI cJ a_z s_z ++ (wSH cJ cQ a_s s_s ++ (wM cI cJ a_m u))))))))))) hd hP hD hS hA ⟨[50, 51, 52, 53, 54, 55, 56, 57, 58, 59, 60, 61], [0, 1, 2, 3, 4, 5, 6, 7, 8, 9, 10, 11, 12, 13, 14, 15, 16, 17, 18, 19, 20, 21, 22, 23, 24, 25, 26, 27, 28, 29, 30, 31, 32, 33, 34, 35, 36, 37, 38, 39, 40, 41, 42, 43, 44, 45, 46, 47, 48, 49], [0, 1, 2, 3, 4, 5, 6, 7, 8, 9, 10, 11, 12, 13, 14, 15, 16, 17, 18, 19, 20, 21, 22, 23, 24, 25, 26, 27, 28, 29, 30, 31, 32, 33, 34, 35, 36, 37, 38, 39, 40, 41, 42, 43, 44, 45, 46, 47, 48, 49, 50, 51, 52, 53, 54, 55, 56, 57, 58, 59, 60, 61], wGO a_g a_h a_q a_k a_p a_x a_s s_g ++ (wGT cI a_g u760.2 ++ (wP cI cJ a_h s_h ++ (wP cI cJ a_q s_q ++ (wP cI cJ a_k s_k ++ (wTP cI cJ a_p s_p ++ (wTX a_x a_z ++ (wTK cI cJ a_z s_z ++ (wSH cJ cQ a_s s_s)))))))), rfl, rfl, rfl, by decide, rfl, fun _ => rfl⟩ (fun v hv => va_runV (As := [.int v768]) (rest := [.int u760.1]) hcf (c_X7_step l dC dI cI cJ cQ fu a_m _  s_m v768 v hv) (cwV 1 hts gL_law_X7_step rfl rfl rfl cd_X7_step ⟨(Nat.le_of_ble_eq_true rfl), (Nat.le_of_ble_eq_true rfl)⟩) (cq_U_V (q0 := 50) (ci := 6) hK hP hD [50, 51, 52, 53, 54, 55, 56, 57, 58, 59, 60, 61] rfl rfl rfl rfl) rfl rfl hl.1 rfl (lv_room (Nat.le_of_ble_eq_true rfl)) dL_law_769 ⟨(Nat.le_of_ble_eq_true rfl), (Nat.le_of_ble_eq_true rfl)⟩) (fun u769 hd H locs hP hD hS => ?_)
          refine rx_icmp_eq hx hb 1335 dL_law_772 rfl hd (fun hd => ?_) (fun hd => ?_)
          · refine rx_iinc (lv' := fun z => (3, .int z) :: [(0, .ref b), (1, .ref (a_g 0)), (2, .ref (a_m 0))]) hx hb (j := 3) dL_law_1335 hl rfl ki_6 hd (Nat.le_of_ble_eq_true rfl) (fun _ => rfl) (fun x3_1335 hd ls hl => ?_)
            refine lv_goto (tgt := 18) hx hb dL_law_1338 rfl ?_
            exact k18 s_g u760.2 s_h s_q s_k s_p s_z s_s u769.2 x3_1335 hd _ _ _ hP hD hS (lv_sub hl [1, 2, 3, 0] rfl)
          refine lv_iconst (v := 0) hx hb dL_law_775 ki_0 ?_
          exact absurd (Option.some.inj hd) (by decide)
        refine rx_tab hx hb (19 : Int32) (19) rfl 777 dL_law_33 (by decide) (by decide) rfl rfl hd (fun hd => ?_) (fun n_19 hd => ?_)
        · refine lv_aload_n hx hb dL_law_777 rfl (lv_at hl 1 rfl) ?_
          refine lv_aload_n hx hb dL_law_778 rfl (lv_at hl 0 rfl) ?_
          refine lv_iload_n hx hb dL_law_779 rfl (lv_at hl 3 rfl) ?_
          refine lv_iconst (v := 1) hx hb dL_law_780 ki_1 ?_
          refine lv_iadd hx hb dL_law_781 ?_
          refine rx_sld hx hb hX hbl hbA hS hd dL_law_782 (fun v782 hd => ?_)
          refine rx_upi (fun u => (wGO a_g a_h a_q a_k a_p a_x a_s s_g ++ (wGT cI a_g u ++ (wP cI cJ a_h s_h ++ (wP cI cJ a_q s_q ++ (wP cI cJ a_k s_k ++ (wTP cI cJ a_p s_p ++ (wTX a_x a_z ++ (wTK cI cJ a_z s_z ++ (wSH cJ cQ a_s s_s ++ (wM cI cJ a_m s_m))))))))))) hd hP hD hS hA ⟨[0, 1, 2, 3, 4, 5, 6, 7, 8, 9, 10, 11], [12, 13, 14, 15, 16, 17, 18, 19, 20, 21, 22, 23, 24, 25, 26, 27, 28, 29, 30, 31, 32, 33, 34, 35, 36, 37, 38, 39, 40, 41, 42, 43, 44, 45, 46, 47, 48, 49, 50, 51, 52, 53, 54, 55, 56, 57, 58, 59, 60, 61], [50, 51, 52, 53, 54, 55, 56, 57, 58, 59, 60, 61, 0, 1, 2, 3, 4, 5, 6, 7, 8, 9, 10, 11, 12, 13, 14, 15, 16, 17, 18, 19, 20, 21, 22, 23, 24, 25, 26, 27, 28, 29, 30, 31, 32, 33, 34, 35, 36, 37, 38, 39, 40, 41, 42, 43, 44, 45, 46, 47, 48, 49], wP cI cJ a_q s_q ++ (wP cI cJ a_k s_k ++ (wTP cI cJ a_p s_p ++ (wTX a_x a_z ++ (wTK cI cJ a_z s_z ++ (wSH cJ cQ a_s s_s ++ (wM cI cJ a_m s_m)))))), rfl, rfl, rfl, by decide, rfl, fun _ => rfl⟩ (fun v hv => va_runV (As := [.int v782]) (rest := []) hcf (c_X6_kind l dC dI cI cJ cQ fu a_g a_h a_q a_k a_p a_x a_s _  s_g s_o s_h v782 v hv) (cwV 1 hts gL_law_X6_kind rfl rfl rfl cd_X6_kind ⟨(Nat.le_of_ble_eq_true rfl), (Nat.le_of_ble_eq_true rfl)⟩) (cq_U_V (q0 := 0) (ci := 5) hK hP hD [0, 1, 2, 3, 4, 5, 6, 7, 8, 9, 10, 11] rfl rfl rfl rfl) rfl rfl hl.1 rfl (lv_room (Nat.le_of_ble_eq_true rfl)) dL_law_783 ⟨(Nat.le_of_ble_eq_true rfl), (Nat.le_of_ble_eq_true rfl)⟩) (fun u783 hd H locs hP hD hS => ?_)
          refine lv_aload_n hx hb dL_law_786 rfl (lv_at hl 2 rfl) ?_
          refine lv_aload_n hx hb dL_law_787 rfl (lv_at hl 0 rfl) ?_
          refine lv_iload_n hx hb dL_law_788 rfl (lv_at hl 3 rfl) ?_
          refine lv_iconst (v := 1) hx hb dL_law_789 ki_1 ?_
          refine lv_iadd hx hb dL_law_790 ?_
          refine rx_sld hx hb hX hbl hbA hS hd dL_law_791 (fun v791 hd => ?_)
          refine rx_upi (fun u => (wGO a_g a_h a_q a_k a_p a_x a_s s_g ++ (wGT cI a_g u783.2 ++ (wP cI cJ a_h s_h ++ (wP cI cJ a_q s_q ++ (wP cI cJ a_k s_k ++ (wTP cI cJ a_p s_p ++ (wTX a_x a_z ++ (wTK cI cJ a_z s_z ++ (wSH cJ cQ a_s s_s ++ (wM cI cJ a_m u))))))))))) hd hP hD hS hA ⟨[50, 51, 52, 53, 54, 55, 56, 57, 58, 59, 60, 61], [0, 1, 2, 3, 4, 5, 6, 7, 8, 9, 10, 11, 12, 13, 14, 15, 16, 17, 18, 19, 20, 21, 22, 23, 24, 25, 26, 27, 28, 29, 30, 31, 32, 33, 34, 35, 36, 37, 38, 39, 40, 41, 42, 43, 44, 45, 46, 47, 48, 49], [0, 1, 2, 3, 4, 5, 6, 7, 8, 9, 10, 11, 12, 13, 14, 15, 16, 17, 18, 19, 20, 21, 22, 23, 24, 25, 26, 27, 28, 29, 30, 31, 32, 33, 34, 35, 36, 37, 38, 39, 40, 41, 42, 43, 44, 45, 46, 47, 48, 49, 50, 51, 52, 53, 54, 55, 56, 57, 58, 59, 60, 61], wGO a_g a_h a_q a_k a_p a_x a_s s_g ++ (wGT cI a_g u783.2 ++ (wP cI cJ a_h s_h ++ (wP cI cJ a_q s_q ++ (wP cI cJ a_k s_k ++ (wTP cI cJ a_p s_p ++ (wTX a_x a_z ++ (wTK cI cJ a_z s_z ++ (wSH cJ cQ a_s s_s)))))))), rfl, rfl, rfl, by decide, rfl, fun _ => rfl⟩ (fun v hv => va_runV (As := [.int v791]) (rest := [.int u783.1]) hcf (c_X7_kind l dC dI cI cJ cQ fu a_m _  s_m v791 v hv) (cwV 1 hts gL_law_X7_kind rfl rfl rfl cd_X7_kind ⟨(Nat.le_of_ble_eq_true rfl), (Nat.le_of_ble_eq_true rfl)⟩) (cq_U_V (q0 := 50) (ci := 6) hK hP hD [50, 51, 52, 53, 54, 55, 56, 57, 58, 59, 60, 61] rfl rfl rfl rfl) rfl rfl hl.1 rfl (lv_room (Nat.le_of_ble_eq_true rfl)) dL_law_792 ⟨(Nat.le_of_ble_eq_true rfl), (Nat.le_of_ble_eq_true rfl)⟩) (fun u792 hd H locs hP hD hS => ?_)
          refine rx_icmp_eq hx hb 1335 dL_law_795 rfl hd (fun hd => ?_) (fun hd => ?_)
          · refine rx_iinc (lv' := fun z => (3, .int z) :: [(0, .ref b), (1, .ref (a_g 0)), (2, .ref (a_m 0))]) hx hb (j := 3) dL_law_1335 hl rfl ki_6 hd (Nat.le_of_ble_eq_true rfl) (fun _ => rfl) (fun x3_1335 hd ls hl => ?_)
            refine lv_goto (tgt := 18) hx hb dL_law_1338 rfl ?_
            exact k18 s_g u783.2 s_h s_q s_k s_p s_z s_s u792.2 x3_1335 hd _ _ _ hP hD hS (lv_sub hl [1, 2, 3, 0] rfl)
          refine lv_iconst (v := 0) hx hb dL_law_798 ki_0 ?_
          exact absurd (Option.some.inj hd) (by decide)
        refine rx_tab hx hb (20 : Int32) (20) rfl 800 dL_law_33 (by decide) (by decide) rfl rfl hd (fun hd => ?_) (fun n_20 hd => ?_)
        · refine lv_aload_n hx hb dL_law_800 rfl (lv_at hl 1 rfl) ?_
          refine lv_aload_n hx hb dL_law_801 rfl (lv_at hl 0 rfl) ?_
          refine lv_iload_n hx hb dL_law_802 rfl (lv_at hl 3 rfl) ?_
          refine lv_iconst (v := 1) hx hb dL_law_803 ki_1 ?_
          refine lv_iadd hx hb dL_law_804 ?_
          refine rx_sld hx hb hX hbl hbA hS hd dL_law_805 (fun v805 hd => ?_)
          refine rx_upi (fun u => (wGO a_g a_h a_q a_k a_p a_x a_s s_g ++ (wGT cI a_g u.1 ++ (wP cI cJ a_h s_h ++ (wP cI cJ a_q u.2 ++ (wP cI cJ a_k s_k ++ (wTP cI cJ a_p s_p ++ (wTX a_x a_z ++ (wTK cI cJ a_z s_z ++ (wSH cJ cQ a_s s_s ++ (wM cI cJ a_m s_m))))))))))) hd hP hD hS hA ⟨[0, 1, 2, 3, 4, 5, 6, 7, 8, 9, 10, 11, 12, 13, 14, 15, 16, 17, 18, 19, 20, 21], [22, 23, 24, 25, 26, 27, 28, 29, 30, 31, 32, 33, 34, 35, 36, 37, 38, 39, 40, 41, 42, 43, 44, 45, 46, 47, 48, 49, 50, 51, 52, 53, 54, 55, 56, 57, 58, 59, 60, 61], [40, 41, 42, 43, 44, 45, 46, 47, 48, 49, 50, 51, 52, 53, 54, 55, 56, 57, 58, 59, 60, 61, 0, 1, 2, 3, 4, 5, 6, 7, 8, 9, 10, 11, 12, 13, 14, 15, 16, 17, 18, 19, 20, 21, 22, 23, 24, 25, 26, 27, 28, 29, 30, 31, 32, 33, 34, 35, 36, 37, 38, 39], wP cI cJ a_k s_k ++ (wTP cI cJ a_p s_p ++ (wTX a_x a_z ++ (wTK cI cJ a_z s_z ++ (wSH cJ cQ a_s s_s ++ (wM cI cJ a_m s_m))))), rfl, rfl, rfl, by decide, rfl, fun _ => rfl⟩ (fun v hv => va_runV (As := [.int v805]) (rest := []) hcf (c_X6_spring l dC dI cI cJ cQ fu gz a_g a_h a_q a_k a_p a_x a_s _  s_g s_o s_h s_q v805 v hv) (cwV 1 hts gL_law_X6_spring rfl rfl rfl cd_X6_spring ⟨(Nat.le_of_ble_eq_true rfl), (Nat.le_of_ble_eq_true rfl)⟩) (cq_UG_V (q0 := 0) (ci := 5) hG hS hA hK hP hD [0, 1, 2, 3, 4, 5, 6, 7, 8, 9, 10, 11, 12, 13, 14, 15, 16, 17, 18, 19, 20, 21] rfl rfl rfl rfl) rfl rfl hl.1 rfl (lv_room (Nat.le_of_ble_eq_true rfl)) dL_law_806 ⟨(Nat.le_of_ble_eq_true rfl), (Nat.le_of_ble_eq_true rfl)⟩) (fun u806 hd H locs hP hD hS => ?_)
          refine lv_aload_n hx hb dL_law_809 rfl (lv_at hl 2 rfl) ?_
          refine lv_aload_n hx hb dL_law_810 rfl (lv_at hl 0 rfl) ?_
          refine lv_iload_n hx hb dL_law_811 rfl (lv_at hl 3 rfl) ?_
          refine lv_iconst (v := 1) hx hb dL_law_812 ki_1 ?_
          refine lv_iadd hx hb dL_law_813 ?_
          refine rx_sld hx hb hX hbl hbA hS hd dL_law_814 (fun v814 hd => ?_)
          refine rx_upi (fun u => (wGO a_g a_h a_q a_k a_p a_x a_s s_g ++ (wGT cI a_g u806.2.1 ++ (wP cI cJ a_h s_h ++ (wP cI cJ a_q u806.2.2 ++ (wP cI cJ a_k s_k ++ (wTP cI cJ a_p s_p ++ (wTX a_x a_z ++ (wTK cI cJ a_z s_z ++ (wSH cJ cQ a_s s_s ++ (wM cI cJ a_m u))))))))))) hd hP hD hS hA ⟨[50, 51, 52, 53, 54, 55, 56, 57, 58, 59, 60, 61], [0, 1, 2, 3, 4, 5, 6, 7, 8, 9, 10, 11, 12, 13, 14, 15, 16, 17, 18, 19, 20, 21, 22, 23, 24, 25, 26, 27, 28, 29, 30, 31, 32, 33, 34, 35, 36, 37, 38, 39, 40, 41, 42, 43, 44, 45, 46, 47, 48, 49], [0, 1, 2, 3, 4, 5, 6, 7, 8, 9, 10, 11, 12, 13, 14, 15, 16, 17, 18, 19, 20, 21, 22, 23, 24, 25, 26, 27, 28, 29, 30, 31, 32, 33, 34, 35, 36, 37, 38, 39, 40, 41, 42, 43, 44, 45, 46, 47, 48, 49, 50, 51, 52, 53, 54, 55, 56, 57, 58, 59, 60, 61], wGO a_g a_h a_q a_k a_p a_x a_s s_g ++ (wGT cI a_g u806.2.1 ++ (wP cI cJ a_h s_h ++ (wP cI cJ a_q u806.2.2 ++ (wP cI cJ a_k s_k ++ (wTP cI cJ a_p s_p ++ (wTX a_x a_z ++ (wTK cI cJ a_z s_z ++ (wSH cJ cQ a_s s_s)))))))), rfl, rfl, rfl, by decide, rfl, fun _ => rfl⟩ (fun v hv => va_runV (As := [.int v814]) (rest := [.int u806.1]) hcf (c_X7_spring l dC dI cI cJ cQ fu a_m _  s_m v814 v hv) (cwV 1 hts gL_law_X7_spring rfl rfl rfl cd_X7_spring ⟨(Nat.le_of_ble_eq_true rfl), (Nat.le_of_ble_eq_true rfl)⟩) (cq_U_V (q0 := 50) (ci := 6) hK hP hD [50, 51, 52, 53, 54, 55, 56, 57, 58, 59, 60, 61] rfl rfl rfl rfl) rfl rfl hl.1 rfl (lv_room (Nat.le_of_ble_eq_true rfl)) dL_law_815 ⟨(Nat.le_of_ble_eq_true rfl), (Nat.le_of_ble_eq_true rfl)⟩) (fun u815 hd H locs hP hD hS => ?_)
          refine rx_icmp_eq hx hb 1335 dL_law_818 rfl hd (fun hd => ?_) (fun hd => ?_)
          · refine rx_iinc (lv' := fun z => (3, .int z) :: [(0, .ref b), (1, .ref (a_g 0)), (2, .ref (a_m 0))]) hx hb (j := 3) dL_law_1335 hl rfl ki_6 hd (Nat.le_of_ble_eq_true rfl) (fun _ => rfl) (fun x3_1335 hd ls hl => ?_)
            refine lv_goto (tgt := 18) hx hb dL_law_1338 rfl ?_
            exact k18 s_g u806.2.1 s_h u806.2.2 s_k s_p s_z s_s u815.2 x3_1335 hd _ _ _ hP hD hS (lv_sub hl [1, 2, 3, 0] rfl)
          refine lv_iconst (v := 0) hx hb dL_law_821 ki_0 ?_
          exact absurd (Option.some.inj hd) (by decide)
        refine rx_tab hx hb (21 : Int32) (21) rfl 823 dL_law_33 (by decide) (by decide) rfl rfl hd (fun hd => ?_) (fun n_21 hd => ?_)
        · refine lv_aload_n hx hb dL_law_823 rfl (lv_at hl 1 rfl) ?_
          refine lv_aload_n hx hb dL_law_824 rfl (lv_at hl 0 rfl) ?_
          refine lv_iload_n hx hb dL_law_825 rfl (lv_at hl 3 rfl) ?_
          refine lv_iconst (v := 1) hx hb dL_law_826 ki_1 ?_
          refine lv_iadd hx hb dL_law_827 ?_
          refine rx_sld hx hb hX hbl hbA hS hd dL_law_828 (fun v828 hd => ?_)
          refine lv_aload_n hx hb dL_law_829 rfl (lv_at hl 0 rfl) ?_
          refine lv_iload_n hx hb dL_law_830 rfl (lv_at hl 3 rfl) ?_
          refine lv_iconst (v := 2) hx hb dL_law_831 ki_2 ?_
          refine lv_iadd hx hb dL_law_832 ?_
          refine rx_sld hx hb hX hbl hbA hS hd dL_law_833 (fun v833 hd => ?_)
          refine rx_upi (fun u => (wGO a_g a_h a_q a_k a_p a_x a_s s_g ++ (wGT cI a_g u.1 ++ (wP cI cJ a_h s_h ++ (wP cI cJ a_q u.2 ++ (wP cI cJ a_k s_k ++ (wTP cI cJ a_p s_p ++ (wTX a_x a_z ++ (wTK cI cJ a_z s_z ++ (wSH cJ cQ a_s s_s ++ (wM cI cJ a_m s_m))))))))))) hd hP hD hS hA ⟨[0, 1, 2, 3, 4, 5, 6, 7, 8, 9, 10, 11, 12, 13, 14, 15, 16, 17, 18, 19, 20, 21], [22, 23, 24, 25, 26, 27, 28, 29, 30, 31, 32, 33, 34, 35, 36, 37, 38, 39, 40, 41, 42, 43, 44, 45, 46, 47, 48, 49, 50, 51, 52, 53, 54, 55, 56, 57, 58, 59, 60, 61], [40, 41, 42, 43, 44, 45, 46, 47, 48, 49, 50, 51, 52, 53, 54, 55, 56, 57, 58, 59, 60, 61, 0, 1, 2, 3, 4, 5, 6, 7, 8, 9, 10, 11, 12, 13, 14, 15, 16, 17, 18, 19, 20, 21, 22, 23, 24, 25, 26, 27, 28, 29, 30, 31, 32, 33, 34, 35, 36, 37, 38, 39], wP cI cJ a_k s_k ++ (wTP cI cJ a_p s_p ++ (wTX a_x a_z ++ (wTK cI cJ a_z s_z ++ (wSH cJ cQ a_s s_s ++ (wM cI cJ a_m s_m))))), rfl, rfl, rfl, by decide, rfl, fun _ => rfl⟩ (fun v hv => va_runV (As := [.int v828, .int v833]) (rest := []) hcf (c_X6_enough l dC dI cI cJ cQ fu a_g a_h a_q a_k a_p a_x a_s _  s_g s_o s_h s_q v828 v833 v hv) (cwV 2 hts gL_law_X6_enough rfl rfl rfl cd_X6_enough ⟨(Nat.le_of_ble_eq_true rfl), (Nat.le_of_ble_eq_true rfl)⟩) (cq_U_V (q0 := 0) (ci := 5) hK hP hD [0, 1, 2, 3, 4, 5, 6, 7, 8, 9, 10, 11, 12, 13, 14, 15, 16, 17, 18, 19, 20, 21] rfl rfl rfl rfl) rfl rfl hl.1 rfl (lv_room (Nat.le_of_ble_eq_true rfl)) dL_law_834 ⟨(Nat.le_of_ble_eq_true rfl), (Nat.le_of_ble_eq_true rfl)⟩) (fun u834 hd H locs hP hD hS => ?_)
          refine lv_aload_n hx hb dL_law_837 rfl (lv_at hl 2 rfl) ?_
          refine lv_aload_n hx hb dL_law_838 rfl (lv_at hl 0 rfl) ?_
          refine lv_iload_n hx hb dL_law_839 rfl (lv_at hl 3 rfl) ?_
          refine lv_iconst (v := 1) hx hb dL_law_840 ki_1 ?_
          refine lv_iadd hx hb dL_law_841 ?_
          refine rx_sld hx hb hX hbl hbA hS hd dL_law_842 (fun v842 hd => ?_)
          refine lv_aload_n hx hb dL_law_843 rfl (lv_at hl 0 rfl) ?_
          refine lv_iload_n hx hb dL_law_844 rfl (lv_at hl 3 rfl) ?_
          refine lv_iconst (v := 2) hx hb dL_law_845 ki_2 ?_
          refine lv_iadd hx hb dL_law_846 ?_
          refine rx_sld hx hb hX hbl hbA hS hd dL_law_847 (fun v847 hd => ?_)
          refine rx_upi (fun u => (wGO a_g a_h a_q a_k a_p a_x a_s s_g ++ (wGT cI a_g u834.2.1 ++ (wP cI cJ a_h s_h ++ (wP cI cJ a_q u834.2.2 ++ (wP cI cJ a_k s_k ++ (wTP cI cJ a_p s_p ++ (wTX a_x a_z ++ (wTK cI cJ a_z s_z ++ (wSH cJ cQ a_s s_s ++ (wM cI cJ a_m u))))))))))) hd hP hD hS hA ⟨[50, 51, 52, 53, 54, 55, 56, 57, 58, 59, 60, 61], [0, 1, 2, 3, 4, 5, 6, 7, 8, 9, 10, 11, 12, 13, 14, 15, 16, 17, 18, 19, 20, 21, 22, 23, 24, 25, 26, 27, 28, 29, 30, 31, 32, 33, 34, 35, 36, 37, 38, 39, 40, 41, 42, 43, 44, 45, 46, 47, 48, 49], [0, 1, 2, 3, 4, 5, 6, 7, 8, 9, 10, 11, 12, 13, 14, 15, 16, 17, 18, 19, 20, 21, 22, 23, 24, 25, 26, 27, 28, 29, 30, 31, 32, 33, 34, 35, 36, 37, 38, 39, 40, 41, 42, 43, 44, 45, 46, 47, 48, 49, 50, 51, 52, 53, 54, 55, 56, 57, 58, 59, 60, 61], wGO a_g a_h a_q a_k a_p a_x a_s s_g ++ (wGT cI a_g u834.2.1 ++ (wP cI cJ a_h s_h ++ (wP cI cJ a_q u834.2.2 ++ (wP cI cJ a_k s_k ++ (wTP cI cJ a_p s_p ++ (wTX a_x a_z ++ (wTK cI cJ a_z s_z ++ (wSH cJ cQ a_s s_s)))))))), rfl, rfl, rfl, by decide, rfl, fun _ => rfl⟩ (fun v hv => va_runV (As := [.int v842, .int v847]) (rest := [.int u834.1]) hcf (c_X7_enough l dC dI cI cJ cQ fu a_m _  s_m v842 v847 v hv) (cwV 2 hts gL_law_X7_enough rfl rfl rfl cd_X7_enough ⟨(Nat.le_of_ble_eq_true rfl), (Nat.le_of_ble_eq_true rfl)⟩) (cq_U_V (q0 := 50) (ci := 6) hK hP hD [50, 51, 52, 53, 54, 55, 56, 57, 58, 59, 60, 61] rfl rfl rfl rfl) rfl rfl hl.1 rfl (lv_room (Nat.le_of_ble_eq_true rfl)) dL_law_848 ⟨(Nat.le_of_ble_eq_true rfl), (Nat.le_of_ble_eq_true rfl)⟩) (fun u848 hd H locs hP hD hS => ?_)
          refine rx_icmp_eq hx hb 1335 dL_law_851 rfl hd (fun hd => ?_) (fun hd => ?_)
          · refine rx_iinc (lv' := fun z => (3, .int z) :: [(0, .ref b), (1, .ref (a_g 0)), (2, .ref (a_m 0))]) hx hb (j := 3) dL_law_1335 hl rfl ki_6 hd (Nat.le_of_ble_eq_true rfl) (fun _ => rfl) (fun x3_1335 hd ls hl => ?_)
            refine lv_goto (tgt := 18) hx hb dL_law_1338 rfl ?_
            exact k18 s_g u834.2.1 s_h u834.2.2 s_k s_p s_z s_s u848.2 x3_1335 hd _ _ _ hP hD hS (lv_sub hl [1, 2, 3, 0] rfl)
          refine lv_iconst (v := 0) hx hb dL_law_854 ki_0 ?_
          exact absurd (Option.some.inj hd) (by decide)
        refine rx_tab hx hb (22 : Int32) (22) rfl 856 dL_law_33 (by decide) (by decide) rfl rfl hd (fun hd => ?_) (fun n_22 hd => ?_)
        · refine lv_aload_n hx hb dL_law_856 rfl (lv_at hl 1 rfl) ?_
          refine lv_aload_n hx hb dL_law_857 rfl (lv_at hl 0 rfl) ?_
          refine lv_iload_n hx hb dL_law_858 rfl (lv_at hl 3 rfl) ?_
          refine lv_iconst (v := 1) hx hb dL_law_859 ki_1 ?_
          refine lv_iadd hx hb dL_law_860 ?_
          refine rx_sld hx hb hX hbl hbA hS hd dL_law_861 (fun v861 hd => ?_)
          refine lv_aload_n hx hb dL_law_862 rfl (lv_at hl 0 rfl) ?_
          refine lv_iload_n hx hb dL_law_863 rfl (lv_at hl 3 rfl) ?_
          refine lv_iconst (v := 2) hx hb dL_law_864 ki_2 ?_
          refine lv_iadd hx hb dL_law_865 ?_
          refine rx_sld hx hb hX hbl hbA hS hd dL_law_866 (fun v866 hd => ?_)
          refine rx_upi (fun u => (wGO a_g a_h a_q a_k a_p a_x a_s s_g ++ (wGT cI a_g u.1 ++ (wP cI cJ a_h s_h ++ (wP cI cJ a_q u.2 ++ (wP cI cJ a_k s_k ++ (wTP cI cJ a_p s_p ++ (wTX a_x a_z ++ (wTK cI cJ a_z s_z ++ (wSH cJ cQ a_s s_s ++ (wM cI cJ a_m s_m))))))))))) hd hP hD hS hA ⟨[0, 1, 2, 3, 4, 5, 6, 7, 8, 9, 10, 11, 12, 13, 14, 15, 16, 17, 18, 19, 20, 21], [22, 23, 24, 25, 26, 27, 28, 29, 30, 31, 32, 33, 34, 35, 36, 37, 38, 39, 40, 41, 42, 43, 44, 45, 46, 47, 48, 49, 50, 51, 52, 53, 54, 55, 56, 57, 58, 59, 60, 61], [40, 41, 42, 43, 44, 45, 46, 47, 48, 49, 50, 51, 52, 53, 54, 55, 56, 57, 58, 59, 60, 61, 0, 1, 2, 3, 4, 5, 6, 7, 8, 9, 10, 11, 12, 13, 14, 15, 16, 17, 18, 19, 20, 21, 22, 23, 24, 25, 26, 27, 28, 29, 30, 31, 32, 33, 34, 35, 36, 37, 38, 39], wP cI cJ a_k s_k ++ (wTP cI cJ a_p s_p ++ (wTX a_x a_z ++ (wTK cI cJ a_z s_z ++ (wSH cJ cQ a_s s_s ++ (wM cI cJ a_m s_m))))), rfl, rfl, rfl, by decide, rfl, fun _ => rfl⟩ (fun v hv => va_runV (As := [.int v861, .int v866]) (rest := []) hcf (c_X6_worth l dC dI cI cJ cQ fu a_g a_h a_q a_k a_p a_x a_s _  s_g s_o s_h s_q v861 v866 v hv) (cwV 2 hts gL_law_X6_worth rfl rfl rfl cd_X6_worth ⟨(Nat.le_of_ble_eq_true rfl), (Nat.le_of_ble_eq_true rfl)⟩) (cq_U_V (q0 := 0) (ci := 5) hK hP hD [0, 1, 2, 3, 4, 5, 6, 7, 8, 9, 10, 11, 12, 13, 14, 15, 16, 17, 18, 19, 20, 21] rfl rfl rfl rfl) rfl rfl hl.1 rfl (lv_room (Nat.le_of_ble_eq_true rfl)) dL_law_867 ⟨(Nat.le_of_ble_eq_true rfl), (Nat.le_of_ble_eq_true rfl)⟩) (fun u867 hd H locs hP hD hS => ?_)
          refine lv_aload_n hx hb dL_law_870 rfl (lv_at hl 2 rfl) ?_
          refine lv_aload_n hx hb dL_law_871 rfl (lv_at hl 0 rfl) ?_
          refine lv_iload_n hx hb dL_law_872 rfl (lv_at hl 3 rfl) ?_
          refine lv_iconst (v := 1) hx hb dL_law_873 ki_1 ?_
          refine lv_iadd hx hb dL_law_874 ?_
          refine rx_sld hx hb hX hbl hbA hS hd dL_law_875 (fun v875 hd => ?_)
          refine lv_aload_n hx hb dL_law_876 rfl (lv_at hl 0 rfl) ?_
          refine lv_iload_n hx hb dL_law_877 rfl (lv_at hl 3 rfl) ?_
          refine lv_iconst (v := 2) hx hb dL_law_878 ki_2 ?_
          refine lv_iadd hx hb dL_law_879 ?_
          refine rx_sld hx hb hX hbl hbA hS hd dL_law_880 (fun v880 hd => ?_)
          refine rx_upi (fun u => (wGO a_g a_h a_q a_k a_p a_x a_s s_g ++ (wGT cI a_g u867.2.1 ++ (wP cI cJ a_h s_h ++ (wP cI cJ a_q u867.2.2 ++ (wP cI cJ a_k s_k ++ (wTP cI cJ a_p s_p ++ (wTX a_x a_z ++ (wTK cI cJ a_z s_z ++ (wSH cJ cQ a_s s_s ++ (wM cI cJ a_m u))))))))))) hd hP hD hS hA ⟨[50, 51, 52, 53, 54, 55, 56, 57, 58, 59, 60, 61], [0, 1, 2, 3, 4, 5, 6, 7, 8, 9, 10, 11, 12, 13, 14, 15, 16, 17, 18, 19, 20, 21, 22, 23, 24, 25, 26, 27, 28, 29, 30, 31, 32, 33, 34, 35, 36, 37, 38, 39, 40, 41, 42, 43, 44, 45, 46, 47, 48, 49], [0, 1, 2, 3, 4, 5, 6, 7, 8, 9, 10, 11, 12, 13, 14, 15, 16, 17, 18, 19, 20, 21, 22, 23, 24, 25, 26, 27, 28, 29, 30, 31, 32, 33, 34, 35, 36, 37, 38, 39, 40, 41, 42, 43, 44, 45, 46, 47, 48, 49, 50, 51, 52, 53, 54, 55, 56, 57, 58, 59, 60, 61], wGO a_g a_h a_q a_k a_p a_x a_s s_g ++ (wGT cI a_g u867.2.1 ++ (wP cI cJ a_h s_h ++ (wP cI cJ a_q u867.2.2 ++ (wP cI cJ a_k s_k ++ (wTP cI cJ a_p s_p ++ (wTX a_x a_z ++ (wTK cI cJ a_z s_z ++ (wSH cJ cQ a_s s_s)))))))), rfl, rfl, rfl, by decide, rfl, fun _ => rfl⟩ (fun v hv => va_runV (As := [.int v875, .int v880]) (rest := [.int u867.1]) hcf (c_X7_worth l dC dI cI cJ cQ fu a_m _  s_m v875 v880 v hv) (cwV 2 hts gL_law_X7_worth rfl rfl rfl cd_X7_worth ⟨(Nat.le_of_ble_eq_true rfl), (Nat.le_of_ble_eq_true rfl)⟩) (cq_U_V (q0 := 50) (ci := 6) hK hP hD [50, 51, 52, 53, 54, 55, 56, 57, 58, 59, 60, 61] rfl rfl rfl rfl) rfl rfl hl.1 rfl (lv_room (Nat.le_of_ble_eq_true rfl)) dL_law_881 ⟨(Nat.le_of_ble_eq_true rfl), (Nat.le_of_ble_eq_true rfl)⟩) (fun u881 hd H locs hP hD hS => ?_)
          refine rx_icmp_eq hx hb 1335 dL_law_884 rfl hd (fun hd => ?_) (fun hd => ?_)
          · refine rx_iinc (lv' := fun z => (3, .int z) :: [(0, .ref b), (1, .ref (a_g 0)), (2, .ref (a_m 0))]) hx hb (j := 3) dL_law_1335 hl rfl ki_6 hd (Nat.le_of_ble_eq_true rfl) (fun _ => rfl) (fun x3_1335 hd ls hl => ?_)
            refine lv_goto (tgt := 18) hx hb dL_law_1338 rfl ?_
            exact k18 s_g u867.2.1 s_h u867.2.2 s_k s_p s_z s_s u881.2 x3_1335 hd _ _ _ hP hD hS (lv_sub hl [1, 2, 3, 0] rfl)
          refine lv_iconst (v := 0) hx hb dL_law_887 ki_0 ?_
          exact absurd (Option.some.inj hd) (by decide)
        refine rx_tab hx hb (23 : Int32) (23) rfl 889 dL_law_33 (by decide) (by decide) rfl rfl hd (fun hd => ?_) (fun n_23 hd => ?_)
        · refine lv_aload_n hx hb dL_law_889 rfl (lv_at hl 1 rfl) ?_
          refine lv_aload_n hx hb dL_law_890 rfl (lv_at hl 0 rfl) ?_
          refine lv_iload_n hx hb dL_law_891 rfl (lv_at hl 3 rfl) ?_
          refine lv_iconst (v := 1) hx hb dL_law_892 ki_1 ?_
          refine lv_iadd hx hb dL_law_893 ?_
          refine rx_sld hx hb hX hbl hbA hS hd dL_law_894 (fun v894 hd => ?_)
          refine lv_aload_n hx hb dL_law_895 rfl (lv_at hl 0 rfl) ?_
          refine lv_iload_n hx hb dL_law_896 rfl (lv_at hl 3 rfl) ?_
          refine lv_iconst (v := 2) hx hb dL_law_897 ki_2 ?_
          refine lv_iadd hx hb dL_law_898 ?_
          refine rx_sld hx hb hX hbl hbA hS hd dL_law_899 (fun v899 hd => ?_)
          refine rx_upi (fun u => (wGO a_g a_h a_q a_k a_p a_x a_s s_g ++ (wGT cI a_g u ++ (wP cI cJ a_h s_h ++ (wP cI cJ a_q s_q ++ (wP cI cJ a_k s_k ++ (wTP cI cJ a_p s_p ++ (wTX a_x a_z ++ (wTK cI cJ a_z s_z ++ (wSH cJ cQ a_s s_s ++ (wM cI cJ a_m s_m))))))))))) hd hP hD hS hA ⟨[0, 1, 2, 3, 4, 5, 6, 7, 8, 9, 10, 11], [12, 13, 14, 15, 16, 17, 18, 19, 20, 21, 22, 23, 24, 25, 26, 27, 28, 29, 30, 31, 32, 33, 34, 35, 36, 37, 38, 39, 40, 41, 42, 43, 44, 45, 46, 47, 48, 49, 50, 51, 52, 53, 54, 55, 56, 57, 58, 59, 60, 61], [50, 51, 52, 53, 54, 55, 56, 57, 58, 59, 60, 61, 0, 1, 2, 3, 4, 5, 6, 7, 8, 9, 10, 11, 12, 13, 14, 15, 16, 17, 18, 19, 20, 21, 22, 23, 24, 25, 26, 27, 28, 29, 30, 31, 32, 33, 34, 35, 36, 37, 38, 39, 40, 41, 42, 43, 44, 45, 46, 47, 48, 49], wP cI cJ a_q s_q ++ (wP cI cJ a_k s_k ++ (wTP cI cJ a_p s_p ++ (wTX a_x a_z ++ (wTK cI cJ a_z s_z ++ (wSH cJ cQ a_s s_s ++ (wM cI cJ a_m s_m)))))), rfl, rfl, rfl, by decide, rfl, fun _ => rfl⟩ (fun v hv => va_runV (As := [.int v894, .int v899]) (rest := []) hcf (c_X6_did l dC dI cI cJ cQ fu a_g a_h a_q a_k a_p a_x a_s _  s_g s_o s_h v894 v899 v hv) (cwV 2 hts gL_law_X6_did rfl rfl rfl cd_X6_did ⟨(Nat.le_of_ble_eq_true rfl), (Nat.le_of_ble_eq_true rfl)⟩) (cq_U_V (q0 := 0) (ci := 5) hK hP hD [0, 1, 2, 3, 4, 5, 6, 7, 8, 9, 10, 11] rfl rfl rfl rfl) rfl rfl hl.1 rfl (lv_room (Nat.le_of_ble_eq_true rfl)) dL_law_900 ⟨(Nat.le_of_ble_eq_true rfl), (Nat.le_of_ble_eq_true rfl)⟩) (fun u900 hd H locs hP hD hS => ?_)
          refine lv_aload_n hx hb dL_law_903 rfl (lv_at hl 2 rfl) ?_
          refine lv_aload_n hx hb dL_law_904 rfl (lv_at hl 0 rfl) ?_
          refine lv_iload_n hx hb dL_law_905 rfl (lv_at hl 3 rfl) ?_
          refine lv_iconst (v := 1) hx hb dL_law_906 ki_1 ?_
          refine lv_iadd hx hb dL_law_907 ?_
          refine rx_sld hx hb hX hbl hbA hS hd dL_law_908 (fun v908 hd => ?_)
          refine lv_aload_n hx hb dL_law_909 rfl (lv_at hl 0 rfl) ?_
          refine lv_iload_n hx hb dL_law_910 rfl (lv_at hl 3 rfl) ?_
          refine lv_iconst (v := 2) hx hb dL_law_911 ki_2 ?_
          refine lv_iadd hx hb dL_law_912 ?_
          refine rx_sld hx hb hX hbl hbA hS hd dL_law_913 (fun v913 hd => ?_)
          refine rx_upi (fun u => (wGO a_g a_h a_q a_k a_p a_x a_s s_g ++ (wGT cI a_g u900.2 ++ (wP cI cJ a_h s_h ++ (wP cI cJ a_q s_q ++ (wP cI cJ a_k s_k ++ (wTP cI cJ a_p s_p ++ (wTX a_x a_z ++ (wTK cI cJ a_z s_z ++ (wSH cJ cQ a_s s_s ++ (wM cI cJ a_m u))))))))))) hd hP hD hS hA ⟨[50, 51, 52, 53, 54, 55, 56, 57, 58, 59, 60, 61], [0, 1, 2, 3, 4, 5, 6, 7, 8, 9, 10, 11, 12, 13, 14, 15, 16, 17, 18, 19, 20, 21, 22, 23, 24, 25, 26, 27, 28, 29, 30, 31, 32, 33, 34, 35, 36, 37, 38, 39, 40, 41, 42, 43, 44, 45, 46, 47, 48, 49], [0, 1, 2, 3, 4, 5, 6, 7, 8, 9, 10, 11, 12, 13, 14, 15, 16, 17, 18, 19, 20, 21, 22, 23, 24, 25, 26, 27, 28, 29, 30, 31, 32, 33, 34, 35, 36, 37, 38, 39, 40, 41, 42, 43, 44, 45, 46, 47, 48, 49, 50, 51, 52, 53, 54, 55, 56, 57, 58, 59, 60, 61], wGO a_g a_h a_q a_k a_p a_x a_s s_g ++ (wGT cI a_g u900.2 ++ (wP cI cJ a_h s_h ++ (wP cI cJ a_q s_q ++ (wP cI cJ a_k s_k ++ (wTP cI cJ a_p s_p ++ (wTX a_x a_z ++ (wTK cI cJ a_z s_z ++ (wSH cJ cQ a_s s_s)))))))), rfl, rfl, rfl, by decide, rfl, fun _ => rfl⟩ (fun v hv => va_runV (As := [.int v908, .int v913]) (rest := [.int u900.1]) hcf (c_X7_did l dC dI cI cJ cQ fu a_m _  s_m v908 v913 v hv) (cwV 2 hts gL_law_X7_did rfl rfl rfl cd_X7_did ⟨(Nat.le_of_ble_eq_true rfl), (Nat.le_of_ble_eq_true rfl)⟩) (cq_U_V (q0 := 50) (ci := 6) hK hP hD [50, 51, 52, 53, 54, 55, 56, 57, 58, 59, 60, 61] rfl rfl rfl rfl) rfl rfl hl.1 rfl (lv_room (Nat.le_of_ble_eq_true rfl)) dL_law_914 ⟨(Nat.le_of_ble_eq_true rfl), (Nat.le_of_ble_eq_true rfl)⟩) (fun u914 hd H locs hP hD hS => ?_)
          refine rx_icmp_eq hx hb 1335 dL_law_917 rfl hd (fun hd => ?_) (fun hd => ?_)
          · refine rx_iinc (lv' := fun z => (3, .int z) :: [(0, .ref b), (1, .ref (a_g 0)), (2, .ref (a_m 0))]) hx hb (j := 3) dL_law_1335 hl rfl ki_6 hd (Nat.le_of_ble_eq_true rfl) (fun _ => rfl) (fun x3_1335 hd ls hl => ?_)
            refine lv_goto (tgt := 18) hx hb dL_law_1338 rfl ?_
            exact k18 s_g u900.2 s_h s_q s_k s_p s_z s_s u914.2 x3_1335 hd _ _ _ hP hD hS (lv_sub hl [1, 2, 3, 0] rfl)
          refine lv_iconst (v := 0) hx hb dL_law_920 ki_0 ?_
          exact absurd (Option.some.inj hd) (by decide)
        refine rx_tab hx hb (24 : Int32) (24) rfl 922 dL_law_33 (by decide) (by decide) rfl rfl hd (fun hd => ?_) (fun n_24 hd => ?_)
        · refine lv_aload_n hx hb dL_law_922 rfl (lv_at hl 1 rfl) ?_
          refine lv_aload_n hx hb dL_law_923 rfl (lv_at hl 0 rfl) ?_
          refine lv_iload_n hx hb dL_law_924 rfl (lv_at hl 3 rfl) ?_
          refine lv_iconst (v := 1) hx hb dL_law_925 ki_1 ?_
          refine lv_iadd hx hb dL_law_926 ?_
          refine rx_sld hx hb hX hbl hbA hS hd dL_law_927 (fun v927 hd => ?_)
          refine lv_aload_n hx hb dL_law_928 rfl (lv_at hl 0 rfl) ?_
          refine lv_iload_n hx hb dL_law_929 rfl (lv_at hl 3 rfl) ?_
          refine lv_iconst (v := 2) hx hb dL_law_930 ki_2 ?_
          refine lv_iadd hx hb dL_law_931 ?_
          refine rx_sld hx hb hX hbl hbA hS hd dL_law_932 (fun v932 hd => ?_)
          refine rx_upi (fun u => (wGO a_g a_h a_q a_k a_p a_x a_s s_g ++ (wGT cI a_g u.1 ++ (wP cI cJ a_h s_h ++ (wP cI cJ a_q s_q ++ (wP cI cJ a_k s_k ++ (wTP cI cJ a_p u.2 ++ (wTX a_x a_z ++ (wTK cI cJ a_z s_z ++ (wSH cJ cQ a_s s_s ++ (wM cI cJ a_m s_m))))))))))) hd hP hD hS hA ⟨[0, 1, 32, 33], [2, 3, 4, 5, 6, 7, 8, 9, 10, 11, 12, 13, 14, 15, 16, 17, 18, 19, 20, 21, 22, 23, 24, 25, 26, 27, 28, 29, 30, 31, 34, 35, 36, 37, 38, 39, 40, 41, 42, 43, 44, 45, 46, 47, 48, 49, 50, 51, 52, 53, 54, 55, 56, 57, 58, 59, 60, 61], [58, 59, 0, 1, 2, 3, 4, 5, 6, 7, 8, 9, 10, 11, 12, 13, 14, 15, 16, 17, 18, 19, 20, 21, 22, 23, 24, 25, 26, 27, 28, 29, 60, 61, 30, 31, 32, 33, 34, 35, 36, 37, 38, 39, 40, 41, 42, 43, 44, 45, 46, 47, 48, 49, 50, 51, 52, 53, 54, 55, 56, 57], wP cI cJ a_h s_h ++ (wP cI cJ a_q s_q ++ (wP cI cJ a_k s_k ++ (wTX a_x a_z ++ (wTK cI cJ a_z s_z ++ (wSH cJ cQ a_s s_s ++ (wM cI cJ a_m s_m)))))), rfl, rfl, rfl, by decide, rfl, fun _ => rfl⟩ (fun v hv => va_runV (As := [.int v927, .int v932]) (rest := []) hcf (c_X6_feed l dC dI cI cJ cQ fu a_g a_h a_q a_k a_p a_x a_s _  s_g s_o s_p v927 v932 v hv) (cwV 2 hts gL_law_X6_feed rfl rfl rfl cd_X6_feed ⟨(Nat.le_of_ble_eq_true rfl), (Nat.le_of_ble_eq_true rfl)⟩) (cq_U_V (q0 := 0) (ci := 5) hK hP hD [0, 1, 32, 33] rfl rfl rfl rfl) rfl rfl hl.1 rfl (lv_room (Nat.le_of_ble_eq_true rfl)) dL_law_933 ⟨(Nat.le_of_ble_eq_true rfl), (Nat.le_of_ble_eq_true rfl)⟩) (fun u933 hd H locs hP hD hS => ?_)
          refine lv_aload_n hx hb dL_law_936 rfl (lv_at hl 2 rfl) ?_
          refine lv_aload_n hx hb dL_law_937 rfl (lv_at hl 0 rfl) ?_
          refine lv_iload_n hx hb dL_law_938 rfl (lv_at hl 3 rfl) ?_
          refine lv_iconst (v := 1) hx hb dL_law_939 ki_1 ?_
          refine lv_iadd hx hb dL_law_940 ?_
          refine rx_sld hx hb hX hbl hbA hS hd dL_law_941 (fun v941 hd => ?_)
          refine lv_aload_n hx hb dL_law_942 rfl (lv_at hl 0 rfl) ?_
          refine lv_iload_n hx hb dL_law_943 rfl (lv_at hl 3 rfl) ?_
          refine lv_iconst (v := 2) hx hb dL_law_944 ki_2 ?_
          refine lv_iadd hx hb dL_law_945 ?_
          refine rx_sld hx hb hX hbl hbA hS hd dL_law_946 (fun v946 hd => ?_)
          refine rx_upi (fun u => (wGO a_g a_h a_q a_k a_p a_x a_s s_g ++ (wGT cI a_g u933.2.1 ++ (wP cI cJ a_h s_h ++ (wP cI cJ a_q s_q ++ (wP cI cJ a_k s_k ++ (wTP cI cJ a_p u933.2.2 ++ (wTX a_x a_z ++ (wTK cI cJ a_z s_z ++ (wSH cJ cQ a_s s_s ++ (wM cI cJ a_m u))))))))))) hd hP hD hS hA ⟨[50, 51, 52, 53, 54, 55, 56, 57, 58, 59, 60, 61], [0, 1, 2, 3, 4, 5, 6, 7, 8, 9, 10, 11, 12, 13, 14, 15, 16, 17, 18, 19, 20, 21, 22, 23, 24, 25, 26, 27, 28, 29, 30, 31, 32, 33, 34, 35, 36, 37, 38, 39, 40, 41, 42, 43, 44, 45, 46, 47, 48, 49], [0, 1, 2, 3, 4, 5, 6, 7, 8, 9, 10, 11, 12, 13, 14, 15, 16, 17, 18, 19, 20, 21, 22, 23, 24, 25, 26, 27, 28, 29, 30, 31, 32, 33, 34, 35, 36, 37, 38, 39, 40, 41, 42, 43, 44, 45, 46, 47, 48, 49, 50, 51, 52, 53, 54, 55, 56, 57, 58, 59, 60, 61], wGO a_g a_h a_q a_k a_p a_x a_s s_g ++ (wGT cI a_g u933.2.1 ++ (wP cI cJ a_h s_h ++ (wP cI cJ a_q s_q ++ (wP cI cJ a_k s_k ++ (wTP cI cJ a_p u933.2.2 ++ (wTX a_x a_z ++ (wTK cI cJ a_z s_z ++ (wSH cJ cQ a_s s_s)))))))), rfl, rfl, rfl, by decide, rfl, fun _ => rfl⟩ (fun v hv => va_runV (As := [.int v941, .int v946]) (rest := [.int u933.1]) hcf (c_X7_feed l dC dI cI cJ cQ fu a_m _  s_m v941 v946 v hv) (cwV 2 hts gL_law_X7_feed rfl rfl rfl cd_X7_feed ⟨(Nat.le_of_ble_eq_true rfl), (Nat.le_of_ble_eq_true rfl)⟩) (cq_U_V (q0 := 50) (ci := 6) hK hP hD [50, 51, 52, 53, 54, 55, 56, 57, 58, 59, 60, 61] rfl rfl rfl rfl) rfl rfl hl.1 rfl (lv_room (Nat.le_of_ble_eq_true rfl)) dL_law_947 ⟨(Nat.le_of_ble_eq_true rfl), (Nat.le_of_ble_eq_true rfl)⟩) (fun u947 hd H locs hP hD hS => ?_)
          refine rx_icmp_eq hx hb 1335 dL_law_950 rfl hd (fun hd => ?_) (fun hd => ?_)
          · refine rx_iinc (lv' := fun z => (3, .int z) :: [(0, .ref b), (1, .ref (a_g 0)), (2, .ref (a_m 0))]) hx hb (j := 3) dL_law_1335 hl rfl ki_6 hd (Nat.le_of_ble_eq_true rfl) (fun _ => rfl) (fun x3_1335 hd ls hl => ?_)
            refine lv_goto (tgt := 18) hx hb dL_law_1338 rfl ?_
            exact k18 s_g u933.2.1 s_h s_q s_k u933.2.2 s_z s_s u947.2 x3_1335 hd _ _ _ hP hD hS (lv_sub hl [1, 2, 3, 0] rfl)
          refine lv_iconst (v := 0) hx hb dL_law_953 ki_0 ?_
          exact absurd (Option.some.inj hd) (by decide)
        refine rx_tab hx hb (25 : Int32) (25) rfl 955 dL_law_33 (by decide) (by decide) rfl rfl hd (fun hd => ?_) (fun n_25 hd => ?_)
        · refine lv_aload_n hx hb dL_law_955 rfl (lv_at hl 1 rfl) ?_
          refine rx_upi (fun u => (wGO a_g a_h a_q a_k a_p a_x a_s s_g ++ (wGT cI a_g s_o ++ (wP cI cJ a_h s_h ++ (wP cI cJ a_q s_q ++ (wP cI cJ a_k s_k ++ (wTP cI cJ a_p u ++ (wTX a_x a_z ++ (wTK cI cJ a_z s_z ++ (wSH cJ cQ a_s s_s ++ (wM cI cJ a_m s_m))))))))))) hd hP hD hS hA ⟨[0, 32, 33], [1, 2, 3, 4, 5, 6, 7, 8, 9, 10, 11, 12, 13, 14, 15, 16, 17, 18, 19, 20, 21, 22, 23, 24, 25, 26, 27, 28, 29, 30, 31, 34, 35, 36, 37, 38, 39, 40, 41, 42, 43, 44, 45, 46, 47, 48, 49, 50, 51, 52, 53, 54, 55, 56, 57, 58, 59, 60, 61], [59, 0, 1, 2, 3, 4, 5, 6, 7, 8, 9, 10, 11, 12, 13, 14, 15, 16, 17, 18, 19, 20, 21, 22, 23, 24, 25, 26, 27, 28, 29, 30, 60, 61, 31, 32, 33, 34, 35, 36, 37, 38, 39, 40, 41, 42, 43, 44, 45, 46, 47, 48, 49, 50, 51, 52, 53, 54, 55, 56, 57, 58], wGT cI a_g s_o ++ (wP cI cJ a_h s_h ++ (wP cI cJ a_q s_q ++ (wP cI cJ a_k s_k ++ (wTX a_x a_z ++ (wTK cI cJ a_z s_z ++ (wSH cJ cQ a_s s_s ++ (wM cI cJ a_m s_m))))))), rfl, rfl, rfl, by decide, rfl, fun _ => rfl⟩ (fun v hv => va_runV (As := []) (rest := []) hcf (c_X6_wipe l dC dI cI cJ cQ fu a_g a_h a_q a_k a_p a_x a_s _  s_g s_p  v hv) (cwV 0 hts gL_law_X6_wipe rfl rfl rfl cd_X6_wipe ⟨(Nat.le_of_ble_eq_true rfl), (Nat.le_of_ble_eq_true rfl)⟩) (cq_U_V (q0 := 0) (ci := 5) hK hP hD [0, 32, 33] rfl rfl rfl rfl) rfl rfl hl.1 rfl (lv_room (Nat.le_of_ble_eq_true rfl)) dL_law_956 ⟨(Nat.le_of_ble_eq_true rfl), (Nat.le_of_ble_eq_true rfl)⟩) (fun u956 hd H locs hP hD hS => ?_)
          refine lv_aload_n hx hb dL_law_959 rfl (lv_at hl 2 rfl) ?_
          refine rx_upi (fun u => (wGO a_g a_h a_q a_k a_p a_x a_s s_g ++ (wGT cI a_g s_o ++ (wP cI cJ a_h s_h ++ (wP cI cJ a_q s_q ++ (wP cI cJ a_k s_k ++ (wTP cI cJ a_p u956.2 ++ (wTX a_x a_z ++ (wTK cI cJ a_z s_z ++ (wSH cJ cQ a_s s_s ++ (wM cI cJ a_m u))))))))))) hd hP hD hS hA ⟨[50, 51, 52, 53, 54, 55, 56, 57, 58, 59, 60, 61], [0, 1, 2, 3, 4, 5, 6, 7, 8, 9, 10, 11, 12, 13, 14, 15, 16, 17, 18, 19, 20, 21, 22, 23, 24, 25, 26, 27, 28, 29, 30, 31, 32, 33, 34, 35, 36, 37, 38, 39, 40, 41, 42, 43, 44, 45, 46, 47, 48, 49], [0, 1, 2, 3, 4, 5, 6, 7, 8, 9, 10, 11, 12, 13, 14, 15, 16, 17, 18, 19, 20, 21, 22, 23, 24, 25, 26, 27, 28, 29, 30, 31, 32, 33, 34, 35, 36, 37, 38, 39, 40, 41, 42, 43, 44, 45, 46, 47, 48, 49, 50, 51, 52, 53, 54, 55, 56, 57, 58, 59, 60, 61], wGO a_g a_h a_q a_k a_p a_x a_s s_g ++ (wGT cI a_g s_o ++ (wP cI cJ a_h s_h ++ (wP cI cJ a_q s_q ++ (wP cI cJ a_k s_k ++ (wTP cI cJ a_p u956.2 ++ (wTX a_x a_z ++ (wTK cI cJ a_z s_z ++ (wSH cJ cQ a_s s_s)))))))), rfl, rfl, rfl, by decide, rfl, fun _ => rfl⟩ (fun v hv => va_runV (As := []) (rest := [.int u956.1]) hcf (c_X7_wipe l dC dI cI cJ cQ fu a_m _  s_m  v hv) (cwV 0 hts gL_law_X7_wipe rfl rfl rfl cd_X7_wipe ⟨(Nat.le_of_ble_eq_true rfl), (Nat.le_of_ble_eq_true rfl)⟩) (cq_U_V (q0 := 50) (ci := 6) hK hP hD [50, 51, 52, 53, 54, 55, 56, 57, 58, 59, 60, 61] rfl rfl rfl rfl) rfl rfl hl.1 rfl (lv_room (Nat.le_of_ble_eq_true rfl)) dL_law_960 ⟨(Nat.le_of_ble_eq_true rfl), (Nat.le_of_ble_eq_true rfl)⟩) (fun u960 hd H locs hP hD hS => ?_)
          refine rx_icmp_eq hx hb 1335 dL_law_963 rfl hd (fun hd => ?_) (fun hd => ?_)
          · refine rx_iinc (lv' := fun z => (3, .int z) :: [(0, .ref b), (1, .ref (a_g 0)), (2, .ref (a_m 0))]) hx hb (j := 3) dL_law_1335 hl rfl ki_6 hd (Nat.le_of_ble_eq_true rfl) (fun _ => rfl) (fun x3_1335 hd ls hl => ?_)
            refine lv_goto (tgt := 18) hx hb dL_law_1338 rfl ?_
            exact k18 s_g s_o s_h s_q s_k u956.2 s_z s_s u960.2 x3_1335 hd _ _ _ hP hD hS (lv_sub hl [1, 2, 3, 0] rfl)
          refine lv_iconst (v := 0) hx hb dL_law_966 ki_0 ?_
          exact absurd (Option.some.inj hd) (by decide)
        refine rx_tab hx hb (26 : Int32) (26) rfl 968 dL_law_33 (by decide) (by decide) rfl rfl hd (fun hd => ?_) (fun n_26 hd => ?_)
        · refine lv_aload_n hx hb dL_law_968 rfl (lv_at hl 1 rfl) ?_
          refine rx_upi (fun u => (wGO a_g a_h a_q a_k a_p a_x a_s s_g ++ (wGT cI a_g s_o ++ (wP cI cJ a_h u.1 ++ (wP cI cJ a_q u.2.1 ++ (wP cI cJ a_k s_k ++ (wTP cI cJ a_p u.2.2.1 ++ (wTX a_x a_z ++ (wTK cI cJ a_z u.2.2.2 ++ (wSH cJ cQ a_s s_s ++ (wM cI cJ a_m s_m))))))))))) hd hP hD hS hA ⟨[0, 2, 3, 4, 5, 6, 7, 8, 9, 10, 11, 12, 13, 14, 15, 16, 17, 18, 19, 20, 21, 32, 33, 34, 35, 36, 37, 38, 39, 40], [1, 22, 23, 24, 25, 26, 27, 28, 29, 30, 31, 41, 42, 43, 44, 45, 46, 47, 48, 49, 50, 51, 52, 53, 54, 55, 56, 57, 58, 59, 60, 61], [32, 0, 33, 34, 35, 36, 37, 38, 39, 40, 41, 42, 43, 44, 45, 46, 47, 48, 49, 50, 51, 52, 1, 2, 3, 4, 5, 6, 7, 8, 9, 10, 53, 54, 55, 56, 57, 58, 59, 60, 61, 11, 12, 13, 14, 15, 16, 17, 18, 19, 20, 21, 22, 23, 24, 25, 26, 27, 28, 29, 30, 31], wGT cI a_g s_o ++ (wP cI cJ a_k s_k ++ (wSH cJ cQ a_s s_s ++ (wM cI cJ a_m s_m))), rfl, rfl, rfl, by decide, rfl, fun _ => rfl⟩ (fun v hv => va_runV (As := []) (rest := []) hcf (c_X6_parish l dC dI cI cJ cQ fu gz a_g a_h a_q a_k a_p a_x a_s a_z _  s_g s_h s_q s_p s_z  v hv) (cwV 0 hts gL_law_X6_parish rfl rfl rfl cd_X6_parish ⟨(Nat.le_of_ble_eq_true rfl), (Nat.le_of_ble_eq_true rfl)⟩) (cq_UG_V (q0 := 0) (ci := 5) hG hS hA hK hP hD [0, 2, 3, 4, 5, 6, 7, 8, 9, 10, 11, 12, 13, 14, 15, 16, 17, 18, 19, 20, 21, 32, 33, 34, 35, 36, 37, 38, 39, 40] rfl rfl rfl rfl) rfl rfl hl.1 rfl (lv_room (Nat.le_of_ble_eq_true rfl)) dL_law_969 ⟨(Nat.le_of_ble_eq_true rfl), (Nat.le_of_ble_eq_true rfl)⟩) (fun u969 hd H locs hP hD hS => ?_)
          refine lv_aload_n hx hb dL_law_972 rfl (lv_at hl 2 rfl) ?_
          refine rx_upi (fun u => (wGO a_g a_h a_q a_k a_p a_x a_s s_g ++ (wGT cI a_g s_o ++ (wP cI cJ a_h u969.2.1 ++ (wP cI cJ a_q u969.2.2.1 ++ (wP cI cJ a_k s_k ++ (wTP cI cJ a_p u969.2.2.2.1 ++ (wTX a_x a_z ++ (wTK cI cJ a_z u969.2.2.2.2 ++ (wSH cJ cQ a_s s_s ++ (wM cI cJ a_m u))))))))))) hd hP hD hS hA ⟨[50, 51, 52, 53, 54, 55, 56, 57, 58, 59, 60, 61], [0, 1, 2, 3, 4, 5, 6, 7, 8, 9, 10, 11, 12, 13, 14, 15, 16, 17, 18, 19, 20, 21, 22, 23, 24, 25, 26, 27, 28, 29, 30, 31, 32, 33, 34, 35, 36, 37, 38, 39, 40, 41, 42, 43, 44, 45, 46, 47, 48, 49], [0, 1, 2, 3, 4, 5, 6, 7, 8, 9, 10, 11, 12, 13, 14, 15, 16, 17, 18, 19, 20, 21, 22, 23, 24, 25, 26, 27, 28, 29, 30, 31, 32, 33, 34, 35, 36, 37, 38, 39, 40, 41, 42, 43, 44, 45, 46, 47, 48, 49, 50, 51, 52, 53, 54, 55, 56, 57, 58, 59, 60, 61], wGO a_g a_h a_q a_k a_p a_x a_s s_g ++ (wGT cI a_g s_o ++ (wP cI cJ a_h u969.2.1 ++ (wP cI cJ a_q u969.2.2.1 ++ (wP cI cJ a_k s_k ++ (wTP cI cJ a_p u969.2.2.2.1 ++ (wTX a_x a_z ++ (wTK cI cJ a_z u969.2.2.2.2 ++ (wSH cJ cQ a_s s_s)))))))), rfl, rfl, rfl, by decide, rfl, fun _ => rfl⟩ (fun v hv => va_runV (As := []) (rest := [.int u969.1]) hcf (c_X7_parish l dC dI cI cJ cQ fu a_m _  s_m  v hv) (cwV 0 hts gL_law_X7_parish rfl rfl rfl cd_X7_parish ⟨(Nat.le_of_ble_eq_true rfl), (Nat.le_of_ble_eq_true rfl)⟩) (cq_U_V (q0 := 50) (ci := 6) hK hP hD [50, 51, 52, 53, 54, 55, 56, 57, 58, 59, 60, 61] rfl rfl rfl rfl) rfl rfl hl.1 rfl (lv_room (Nat.le_of_ble_eq_true rfl)) dL_law_973 ⟨(Nat.le_of_ble_eq_true rfl), (Nat.le_of_ble_eq_true rfl)⟩) (fun u973 hd H locs hP hD hS => ?_)
          refine rx_icmp_eq hx hb 1335 dL_law_976 rfl hd (fun hd => ?_) (fun hd => ?_)
          · refine rx_iinc (lv' := fun z => (3, .int z) :: [(0, .ref b), (1, .ref (a_g 0)), (2, .ref (a_m 0))]) hx hb (j := 3) dL_law_1335 hl rfl ki_6 hd (Nat.le_of_ble_eq_true rfl) (fun _ => rfl) (fun x3_1335 hd ls hl => ?_)
            refine lv_goto (tgt := 18) hx hb dL_law_1338 rfl ?_
            exact k18 s_g s_o u969.2.1 u969.2.2.1 s_k u969.2.2.2.1 u969.2.2.2.2 s_s u973.2 x3_1335 hd _ _ _ hP hD hS (lv_sub hl [1, 2, 3, 0] rfl)
          refine lv_iconst (v := 0) hx hb dL_law_979 ki_0 ?_
          exact absurd (Option.some.inj hd) (by decide)
        refine rx_tab hx hb (27 : Int32) (27) rfl 981 dL_law_33 (by decide) (by decide) rfl rfl hd (fun hd => ?_) (fun n_27 hd => ?_)
        · refine lv_aload_n hx hb dL_law_981 rfl (lv_at hl 1 rfl) ?_
          refine lv_aload_n hx hb dL_law_982 rfl (lv_at hl 0 rfl) ?_
          refine lv_iload_n hx hb dL_law_983 rfl (lv_at hl 3 rfl) ?_
          refine lv_iconst (v := 1) hx hb dL_law_984 ki_1 ?_
          refine lv_iadd hx hb dL_law_985 ?_
          refine rx_sld hx hb hX hbl hbA hS hd dL_law_986 (fun v986 hd => ?_)
          refine lv_aload_n hx hb dL_law_987 rfl (lv_at hl 0 rfl) ?_
          refine lv_iload_n hx hb dL_law_988 rfl (lv_at hl 3 rfl) ?_
          refine lv_iconst (v := 2) hx hb dL_law_989 ki_2 ?_
          refine lv_iadd hx hb dL_law_990 ?_
          refine rx_sld hx hb hX hbl hbA hS hd dL_law_991 (fun v991 hd => ?_)
          refine lv_aload_n hx hb dL_law_992 rfl (lv_at hl 0 rfl) ?_
          refine lv_iload_n hx hb dL_law_993 rfl (lv_at hl 3 rfl) ?_
          refine lv_iconst (v := 3) hx hb dL_law_994 ki_3 ?_
          refine lv_iadd hx hb dL_law_995 ?_
          refine rx_sld hx hb hX hbl hbA hS hd dL_law_996 (fun v996 hd => ?_)
          refine rx_upi (fun u => (wGO a_g a_h a_q a_k a_p a_x a_s s_g ++ (wGT cI a_g u.1 ++ (wP cI cJ a_h s_h ++ (wP cI cJ a_q s_q ++ (wP cI cJ a_k s_k ++ (wTP cI cJ a_p s_p ++ (wTX a_x a_z ++ (wTK cI cJ a_z s_z ++ (wSH cJ cQ a_s u.2 ++ (wM cI cJ a_m s_m))))))))))) hd hP hD hS hA ⟨[0, 1, 41, 42, 43, 44, 45, 46, 47, 48, 49], [2, 3, 4, 5, 6, 7, 8, 9, 10, 11, 12, 13, 14, 15, 16, 17, 18, 19, 20, 21, 22, 23, 24, 25, 26, 27, 28, 29, 30, 31, 32, 33, 34, 35, 36, 37, 38, 39, 40, 50, 51, 52, 53, 54, 55, 56, 57, 58, 59, 60, 61], [51, 52, 0, 1, 2, 3, 4, 5, 6, 7, 8, 9, 10, 11, 12, 13, 14, 15, 16, 17, 18, 19, 20, 21, 22, 23, 24, 25, 26, 27, 28, 29, 30, 31, 32, 33, 34, 35, 36, 37, 38, 53, 54, 55, 56, 57, 58, 59, 60, 61, 39, 40, 41, 42, 43, 44, 45, 46, 47, 48, 49, 50], wP cI cJ a_h s_h ++ (wP cI cJ a_q s_q ++ (wP cI cJ a_k s_k ++ (wTP cI cJ a_p s_p ++ (wTX a_x a_z ++ (wTK cI cJ a_z s_z ++ (wM cI cJ a_m s_m)))))), rfl, rfl, rfl, by decide, rfl, fun _ => rfl⟩ (fun v hv => va_runV (As := [.int v986, .int v991, .int v996]) (rest := []) hcf (c_X6_sheet l dC dI cI cJ cQ fu a_g a_h a_q a_k a_p a_x a_s _  s_g s_o s_s v986 v991 v996 v hv) (cwV 3 hts gL_law_X6_sheet rfl rfl rfl cd_X6_sheet ⟨(Nat.le_of_ble_eq_true rfl), (Nat.le_of_ble_eq_true rfl)⟩) (cq_U_V (q0 := 0) (ci := 5) hK hP hD [0, 1, 41, 42, 43, 44, 45, 46, 47, 48, 49] rfl rfl rfl rfl) rfl rfl hl.1 rfl (lv_room (Nat.le_of_ble_eq_true rfl)) dL_law_997 ⟨(Nat.le_of_ble_eq_true rfl), (Nat.le_of_ble_eq_true rfl)⟩) (fun u997 hd H locs hP hD hS => ?_)
          refine lv_aload_n hx hb dL_law_1000 rfl (lv_at hl 2 rfl) ?_
          refine lv_aload_n hx hb dL_law_1001 rfl (lv_at hl 0 rfl) ?_
          refine lv_iload_n hx hb dL_law_1002 rfl (lv_at hl 3 rfl) ?_
          refine lv_iconst (v := 1) hx hb dL_law_1003 ki_1 ?_
          refine lv_iadd hx hb dL_law_1004 ?_
          refine rx_sld hx hb hX hbl hbA hS hd dL_law_1005 (fun v1005 hd => ?_)
          refine lv_aload_n hx hb dL_law_1006 rfl (lv_at hl 0 rfl) ?_
          refine lv_iload_n hx hb dL_law_1007 rfl (lv_at hl 3 rfl) ?_
          refine lv_iconst (v := 2) hx hb dL_law_1008 ki_2 ?_
          refine lv_iadd hx hb dL_law_1009 ?_
          refine rx_sld hx hb hX hbl hbA hS hd dL_law_1010 (fun v1010 hd => ?_)
          refine lv_aload_n hx hb dL_law_1011 rfl (lv_at hl 0 rfl) ?_
          refine lv_iload_n hx hb dL_law_1012 rfl (lv_at hl 3 rfl) ?_
          refine lv_iconst (v := 3) hx hb dL_law_1013 ki_3 ?_
          refine lv_iadd hx hb dL_law_1014 ?_
          refine rx_sld hx hb hX hbl hbA hS hd dL_law_1015 (fun v1015 hd => ?_)
          refine rx_upi (fun u => (wGO a_g a_h a_q a_k a_p a_x a_s s_g ++ (wGT cI a_g u997.2.1 ++ (wP cI cJ a_h s_h ++ (wP cI cJ a_q s_q ++ (wP cI cJ a_k s_k ++ (wTP cI cJ a_p s_p ++ (wTX a_x a_z ++ (wTK cI cJ a_z s_z ++ (wSH cJ cQ a_s u997.2.2 ++ (wM cI cJ a_m u))))))))))) hd hP hD hS hA ⟨[50, 51, 52, 53, 54, 55, 56, 57, 58, 59, 60, 61], [0, 1, 2, 3, 4, 5, 6, 7, 8, 9, 10, 11, 12, 13, 14, 15, 16, 17, 18, 19, 20, 21, 22, 23, 24, 25, 26, 27, 28, 29, 30, 31, 32, 33, 34, 35, 36, 37, 38, 39, 40, 41, 42, 43, 44, 45, 46, 47, 48, 49], [0, 1, 2, 3, 4, 5, 6, 7, 8, 9, 10, 11, 12, 13, 14, 15, 16, 17, 18, 19, 20, 21, 22, 23, 24, 25, 26, 27, 28, 29, 30, 31, 32, 33, 34, 35, 36, 37, 38, 39, 40, 41, 42, 43, 44, 45, 46, 47, 48, 49, 50, 51, 52, 53, 54, 55, 56, 57, 58, 59, 60, 61], wGO a_g a_h a_q a_k a_p a_x a_s s_g ++ (wGT cI a_g u997.2.1 ++ (wP cI cJ a_h s_h ++ (wP cI cJ a_q s_q ++ (wP cI cJ a_k s_k ++ (wTP cI cJ a_p s_p ++ (wTX a_x a_z ++ (wTK cI cJ a_z s_z ++ (wSH cJ cQ a_s u997.2.2)))))))), rfl, rfl, rfl, by decide, rfl, fun _ => rfl⟩ (fun v hv => va_runV (As := [.int v1005, .int v1010, .int v1015]) (rest := [.int u997.1]) hcf (c_X7_sheet l dC dI cI cJ cQ fu a_m _  s_m v1005 v1010 v1015 v hv) (cwV 3 hts gL_law_X7_sheet rfl rfl rfl cd_X7_sheet ⟨(Nat.le_of_ble_eq_true rfl), (Nat.le_of_ble_eq_true rfl)⟩) (cq_U_V (q0 := 50) (ci := 6) hK hP hD [50, 51, 52, 53, 54, 55, 56, 57, 58, 59, 60, 61] rfl rfl rfl rfl) rfl rfl hl.1 rfl (lv_room (Nat.le_of_ble_eq_true rfl)) dL_law_1016 ⟨(Nat.le_of_ble_eq_true rfl), (Nat.le_of_ble_eq_true rfl)⟩) (fun u1016 hd H locs hP hD hS => ?_)
          refine rx_icmp_eq hx hb 1335 dL_law_1019 rfl hd (fun hd => ?_) (fun hd => ?_)
          · refine rx_iinc (lv' := fun z => (3, .int z) :: [(0, .ref b), (1, .ref (a_g 0)), (2, .ref (a_m 0))]) hx hb (j := 3) dL_law_1335 hl rfl ki_6 hd (Nat.le_of_ble_eq_true rfl) (fun _ => rfl) (fun x3_1335 hd ls hl => ?_)
            refine lv_goto (tgt := 18) hx hb dL_law_1338 rfl ?_
            exact k18 s_g u997.2.1 s_h s_q s_k s_p s_z u997.2.2 u1016.2 x3_1335 hd _ _ _ hP hD hS (lv_sub hl [1, 2, 3, 0] rfl)
          refine lv_iconst (v := 0) hx hb dL_law_1022 ki_0 ?_
          exact absurd (Option.some.inj hd) (by decide)
        refine rx_tab hx hb (28 : Int32) (28) rfl 1024 dL_law_33 (by decide) (by decide) rfl rfl hd (fun hd => ?_) (fun n_28 hd => ?_)
        · refine lv_aload_n hx hb dL_law_1024 rfl (lv_at hl 1 rfl) ?_
          refine lv_aload_n hx hb dL_law_1025 rfl (lv_at hl 0 rfl) ?_
          refine lv_iload_n hx hb dL_law_1026 rfl (lv_at hl 3 rfl) ?_
          refine lv_iconst (v := 1) hx hb dL_law_1027 ki_1 ?_
          refine lv_iadd hx hb dL_law_1028 ?_
          refine rx_sld hx hb hX hbl hbA hS hd dL_law_1029 (fun v1029 hd => ?_)
          refine lv_aload_n hx hb dL_law_1030 rfl (lv_at hl 0 rfl) ?_
          refine lv_iload_n hx hb dL_law_1031 rfl (lv_at hl 3 rfl) ?_
          refine lv_iconst (v := 2) hx hb dL_law_1032 ki_2 ?_
          refine lv_iadd hx hb dL_law_1033 ?_
          refine rx_sld hx hb hX hbl hbA hS hd dL_law_1034 (fun v1034 hd => ?_)
          refine lv_aload_n hx hb dL_law_1035 rfl (lv_at hl 0 rfl) ?_
          refine lv_iload_n hx hb dL_law_1036 rfl (lv_at hl 3 rfl) ?_
          refine lv_iconst (v := 3) hx hb dL_law_1037 ki_3 ?_
          refine lv_iadd hx hb dL_law_1038 ?_
          refine rx_sld hx hb hX hbl hbA hS hd dL_law_1039 (fun v1039 hd => ?_)
          refine lv_i2l hx hb dL_law_1040 rfl ?_
          refine lv_bipush (v := 32) hx hb dL_law_1041 kb_32 ?_
          refine lv_lshl hx hb dL_law_1043 rfl ?_
          refine lv_aload_n hx hb dL_law_1044 rfl (lv_at hl 0 rfl) ?_
          refine lv_iload_n hx hb dL_law_1045 rfl (lv_at hl 3 rfl) ?_
          refine lv_iconst (v := 4) hx hb dL_law_1046 ki_4 ?_
          refine lv_iadd hx hb dL_law_1047 ?_
          refine rx_sld hx hb hX hbl hbA hS hd dL_law_1048 (fun v1048 hd => ?_)
          refine lv_i2l hx hb dL_law_1049 rfl ?_
          refine lv_ldc2 hx hb hown kc_129 dL_law_1050 ?_
          refine lv_land hx hb dL_law_1053 ?_
          refine lv_lor hx hb dL_law_1054 ?_
          refine rx_upl (fun u => (wGO a_g a_h a_q a_k a_p a_x a_s s_g ++ (wGT cI a_g u.1 ++ (wP cI cJ a_h s_h ++ (wP cI cJ a_q s_q ++ (wP cI cJ a_k s_k ++ (wTP cI cJ a_p s_p ++ (wTX a_x a_z ++ (wTK cI cJ a_z s_z ++ (wSH cJ cQ a_s u.2 ++ (wM cI cJ a_m s_m))))))))))) hd hP hD hS hA ⟨[0, 1, 41, 42, 43, 44, 45, 46, 47, 48, 49], [2, 3, 4, 5, 6, 7, 8, 9, 10, 11, 12, 13, 14, 15, 16, 17, 18, 19, 20, 21, 22, 23, 24, 25, 26, 27, 28, 29, 30, 31, 32, 33, 34, 35, 36, 37, 38, 39, 40, 50, 51, 52, 53, 54, 55, 56, 57, 58, 59, 60, 61], [51, 52, 0, 1, 2, 3, 4, 5, 6, 7, 8, 9, 10, 11, 12, 13, 14, 15, 16, 17, 18, 19, 20, 21, 22, 23, 24, 25, 26, 27, 28, 29, 30, 31, 32, 33, 34, 35, 36, 37, 38, 53, 54, 55, 56, 57, 58, 59, 60, 61, 39, 40, 41, 42, 43, 44, 45, 46, 47, 48, 49, 50], wP cI cJ a_h s_h ++ (wP cI cJ a_q s_q ++ (wP cI cJ a_k s_k ++ (wTP cI cJ a_p s_p ++ (wTX a_x a_z ++ (wTK cI cJ a_z s_z ++ (wM cI cJ a_m s_m)))))), rfl, rfl, rfl, by decide, rfl, fun _ => rfl⟩ (fun v hv => va_runV (As := [.int v1029, .int v1034, .long (((Int32.toInt64 v1039) <<< (Int32.toInt64 (32 : Int32) &&& (63 : Int64))) ||| ((Int32.toInt64 v1048) &&& (4294967295 : Int64)))]) (rest := []) hcf (c_X6_write l dC dI cI cJ cQ fu a_g a_h a_q a_k a_p a_x a_s _  s_g s_o s_s v1029 v1034 (((Int32.toInt64 v1039) <<< (Int32.toInt64 (32 : Int32) &&& (63 : Int64))) ||| ((Int32.toInt64 v1048) &&& (4294967295 : Int64))) v hv) (cwV 3 hts gL_law_X6_write rfl rfl rfl cd_X6_write ⟨(Nat.le_of_ble_eq_true rfl), (Nat.le_of_ble_eq_true rfl)⟩) (cq_U_V (q0 := 0) (ci := 5) hK hP hD [0, 1, 41, 42, 43, 44, 45, 46, 47, 48, 49] rfl rfl rfl rfl) rfl rfl hl.1 rfl (lv_room (Nat.le_of_ble_eq_true rfl)) dL_law_1055 ⟨(Nat.le_of_ble_eq_true rfl), (Nat.le_of_ble_eq_true rfl)⟩) (fun u1055 hd H locs hP hD hS => ?_)
          refine lv_aload_n hx hb dL_law_1058 rfl (lv_at hl 2 rfl) ?_
          refine lv_aload_n hx hb dL_law_1059 rfl (lv_at hl 0 rfl) ?_
          refine lv_iload_n hx hb dL_law_1060 rfl (lv_at hl 3 rfl) ?_
          refine lv_iconst (v := 1) hx hb dL_law_1061 ki_1 ?_
          refine lv_iadd hx hb dL_law_1062 ?_
          refine rx_sld hx hb hX hbl hbA hS hd dL_law_1063 (fun v1063 hd => ?_)
          refine lv_aload_n hx hb dL_law_1064 rfl (lv_at hl 0 rfl) ?_
          refine lv_iload_n hx hb dL_law_1065 rfl (lv_at hl 3 rfl) ?_
          refine lv_iconst (v := 2) hx hb dL_law_1066 ki_2 ?_
          refine lv_iadd hx hb dL_law_1067 ?_
          refine rx_sld hx hb hX hbl hbA hS hd dL_law_1068 (fun v1068 hd => ?_)
          refine lv_aload_n hx hb dL_law_1069 rfl (lv_at hl 0 rfl) ?_
          refine lv_iload_n hx hb dL_law_1070 rfl (lv_at hl 3 rfl) ?_
          refine lv_iconst (v := 3) hx hb dL_law_1071 ki_3 ?_
          refine lv_iadd hx hb dL_law_1072 ?_
          refine rx_sld hx hb hX hbl hbA hS hd dL_law_1073 (fun v1073 hd => ?_)
          refine lv_i2l hx hb dL_law_1074 rfl ?_
          refine lv_bipush (v := 32) hx hb dL_law_1075 kb_32 ?_
          refine lv_lshl hx hb dL_law_1077 rfl ?_
          refine lv_aload_n hx hb dL_law_1078 rfl (lv_at hl 0 rfl) ?_
          refine lv_iload_n hx hb dL_law_1079 rfl (lv_at hl 3 rfl) ?_
          refine lv_iconst (v := 4) hx hb dL_law_1080 ki_4 ?_
          refine lv_iadd hx hb dL_law_1081 ?_
          refine rx_sld hx hb hX hbl hbA hS hd dL_law_1082 (fun v1082 hd => ?_)
          refine lv_i2l hx hb dL_law_1083 rfl ?_
          refine lv_ldc2 hx hb hown kc_129 dL_law_1084 ?_
          refine lv_land hx hb dL_law_1087 ?_
          refine lv_lor hx hb dL_law_1088 ?_
          refine rx_upl (fun u => (wGO a_g a_h a_q a_k a_p a_x a_s s_g ++ (wGT cI a_g u1055.2.1 ++ (wP cI cJ a_h s_h ++ (wP cI cJ a_q s_q ++ (wP cI cJ a_k s_k ++ (wTP cI cJ a_p s_p ++ (wTX a_x a_z ++ (wTK cI cJ a_z s_z ++ (wSH cJ cQ a_s u1055.2.2 ++ (wM cI cJ a_m u))))))))))) hd hP hD hS hA ⟨[50, 51, 52, 53, 54, 55, 56, 57, 58, 59, 60, 61], [0, 1, 2, 3, 4, 5, 6, 7, 8, 9, 10, 11, 12, 13, 14, 15, 16, 17, 18, 19, 20, 21, 22, 23, 24, 25, 26, 27, 28, 29, 30, 31, 32, 33, 34, 35, 36, 37, 38, 39, 40, 41, 42, 43, 44, 45, 46, 47, 48, 49], [0, 1, 2, 3, 4, 5, 6, 7, 8, 9, 10, 11, 12, 13, 14, 15, 16, 17, 18, 19, 20, 21, 22, 23, 24, 25, 26, 27, 28, 29, 30, 31, 32, 33, 34, 35, 36, 37, 38, 39, 40, 41, 42, 43, 44, 45, 46, 47, 48, 49, 50, 51, 52, 53, 54, 55, 56, 57, 58, 59, 60, 61], wGO a_g a_h a_q a_k a_p a_x a_s s_g ++ (wGT cI a_g u1055.2.1 ++ (wP cI cJ a_h s_h ++ (wP cI cJ a_q s_q ++ (wP cI cJ a_k s_k ++ (wTP cI cJ a_p s_p ++ (wTX a_x a_z ++ (wTK cI cJ a_z s_z ++ (wSH cJ cQ a_s u1055.2.2)))))))), rfl, rfl, rfl, by decide, rfl, fun _ => rfl⟩ (fun v hv => va_runV (As := [.int v1063, .int v1068, .long (((Int32.toInt64 v1073) <<< (Int32.toInt64 (32 : Int32) &&& (63 : Int64))) ||| ((Int32.toInt64 v1082) &&& (4294967295 : Int64)))]) (rest := [.long u1055.1]) hcf (c_X7_write l dC dI cI cJ cQ fu a_m _  s_m v1063 v1068 (((Int32.toInt64 v1073) <<< (Int32.toInt64 (32 : Int32) &&& (63 : Int64))) ||| ((Int32.toInt64 v1082) &&& (4294967295 : Int64))) v hv) (cwV 3 hts gL_law_X7_write rfl rfl rfl cd_X7_write ⟨(Nat.le_of_ble_eq_true rfl), (Nat.le_of_ble_eq_true rfl)⟩) (cq_U_V (q0 := 50) (ci := 6) hK hP hD [50, 51, 52, 53, 54, 55, 56, 57, 58, 59, 60, 61] rfl rfl rfl rfl) rfl rfl hl.1 rfl (lv_room (Nat.le_of_ble_eq_true rfl)) dL_law_1089 ⟨(Nat.le_of_ble_eq_true rfl), (Nat.le_of_ble_eq_true rfl)⟩) (fun u1089 hd H locs hP hD hS => ?_)
          refine W.lcmp hx hb dL_law_1092 ?_
          refine rx_if_eq hx hb 1335 dL_law_1093 rfl hd (fun hd => ?_) (fun hd => ?_)
          · refine rx_iinc (lv' := fun z => (3, .int z) :: [(0, .ref b), (1, .ref (a_g 0)), (2, .ref (a_m 0))]) hx hb (j := 3) dL_law_1335 hl rfl ki_6 hd (Nat.le_of_ble_eq_true rfl) (fun _ => rfl) (fun x3_1335 hd ls hl => ?_)
            refine lv_goto (tgt := 18) hx hb dL_law_1338 rfl ?_
            exact k18 s_g u1055.2.1 s_h s_q s_k s_p s_z u1055.2.2 u1089.2 x3_1335 hd _ _ _ hP hD hS (lv_sub hl [1, 2, 3, 0] rfl)
          refine lv_iconst (v := 0) hx hb dL_law_1096 ki_0 ?_
          exact absurd (Option.some.inj hd) (by decide)
        refine rx_tab hx hb (29 : Int32) (29) rfl 1098 dL_law_33 (by decide) (by decide) rfl rfl hd (fun hd => ?_) (fun n_29 hd => ?_)
        · refine lv_aload_n hx hb dL_law_1098 rfl (lv_at hl 1 rfl) ?_
          refine lv_aload_n hx hb dL_law_1099 rfl (lv_at hl 0 rfl) ?_
          refine lv_iload_n hx hb dL_law_1100 rfl (lv_at hl 3 rfl) ?_
          refine lv_iconst (v := 1) hx hb dL_law_1101 ki_1 ?_
          refine lv_iadd hx hb dL_law_1102 ?_
          refine rx_sld hx hb hX hbl hbA hS hd dL_law_1103 (fun v1103 hd => ?_)
          refine lv_aload_n hx hb dL_law_1104 rfl (lv_at hl 0 rfl) ?_
          refine lv_iload_n hx hb dL_law_1105 rfl (lv_at hl 3 rfl) ?_
          refine lv_iconst (v := 2) hx hb dL_law_1106 ki_2 ?_
          refine lv_iadd hx hb dL_law_1107 ?_
          refine rx_sld hx hb hX hbl hbA hS hd dL_law_1108 (fun v1108 hd => ?_)
          refine lv_aload_n hx hb dL_law_1109 rfl (lv_at hl 0 rfl) ?_
          refine lv_iload_n hx hb dL_law_1110 rfl (lv_at hl 3 rfl) ?_
          refine lv_iconst (v := 3) hx hb dL_law_1111 ki_3 ?_
          refine lv_iadd hx hb dL_law_1112 ?_
          refine rx_sld hx hb hX hbl hbA hS hd dL_law_1113 (fun v1113 hd => ?_)
          refine lv_aload_n hx hb dL_law_1114 rfl (lv_at hl 0 rfl) ?_
          refine lv_iload_n hx hb dL_law_1115 rfl (lv_at hl 3 rfl) ?_
          refine lv_iconst (v := 4) hx hb dL_law_1116 ki_4 ?_
          refine lv_iadd hx hb dL_law_1117 ?_
          refine rx_sld hx hb hX hbl hbA hS hd dL_law_1118 (fun v1118 hd => ?_)
          refine lv_aload_n hx hb dL_law_1119 rfl (lv_at hl 0 rfl) ?_
          refine lv_iload_n hx hb dL_law_1120 rfl (lv_at hl 3 rfl) ?_
          refine lv_iconst (v := 5) hx hb dL_law_1121 ki_5 ?_
          refine lv_iadd hx hb dL_law_1122 ?_
          refine rx_sld hx hb hX hbl hbA hS hd dL_law_1123 (fun v1123 hd => ?_)
          refine rx_upi (fun u => (wGO a_g a_h a_q a_k a_p a_x a_s s_g ++ (wGT cI a_g u.1 ++ (wP cI cJ a_h s_h ++ (wP cI cJ a_q s_q ++ (wP cI cJ a_k s_k ++ (wTP cI cJ a_p s_p ++ (wTX a_x a_z ++ (wTK cI cJ a_z s_z ++ (wSH cJ cQ a_s u.2 ++ (wM cI cJ a_m s_m))))))))))) hd hP hD hS hA ⟨[0, 1, 41, 42, 43, 44, 45, 46, 47, 48, 49], [2, 3, 4, 5, 6, 7, 8, 9, 10, 11, 12, 13, 14, 15, 16, 17, 18, 19, 20, 21, 22, 23, 24, 25, 26, 27, 28, 29, 30, 31, 32, 33, 34, 35, 36, 37, 38, 39, 40, 50, 51, 52, 53, 54, 55, 56, 57, 58, 59, 60, 61], [51, 52, 0, 1, 2, 3, 4, 5, 6, 7, 8, 9, 10, 11, 12, 13, 14, 15, 16, 17, 18, 19, 20, 21, 22, 23, 24, 25, 26, 27, 28, 29, 30, 31, 32, 33, 34, 35, 36, 37, 38, 53, 54, 55, 56, 57, 58, 59, 60, 61, 39, 40, 41, 42, 43, 44, 45, 46, 47, 48, 49, 50], wP cI cJ a_h s_h ++ (wP cI cJ a_q s_q ++ (wP cI cJ a_k s_k ++ (wTP cI cJ a_p s_p ++ (wTX a_x a_z ++ (wTK cI cJ a_z s_z ++ (wM cI cJ a_m s_m)))))), rfl, rfl, rfl, by decide, rfl, fun _ => rfl⟩ (fun v hv => va_runV (As := [.int v1103, .int v1108, .int v1113, .int v1118, .int v1123]) (rest := []) hcf (c_X6_copy l dC dI cI cJ cQ fu a_g a_h a_q a_k a_p a_x a_s _  s_g s_o s_s v1103 v1108 v1113 v1118 v1123 v hv) (cwV 5 hts gL_law_X6_copy rfl rfl rfl cd_X6_copy ⟨(Nat.le_of_ble_eq_true rfl), (Nat.le_of_ble_eq_true rfl)⟩) (cq_U_V (q0 := 0) (ci := 5) hK hP hD [0, 1, 41, 42, 43, 44, 45, 46, 47, 48, 49] rfl rfl rfl rfl) rfl rfl hl.1 rfl (lv_room (Nat.le_of_ble_eq_true rfl)) dL_law_1124 ⟨(Nat.le_of_ble_eq_true rfl), (Nat.le_of_ble_eq_true rfl)⟩) (fun u1124 hd H locs hP hD hS => ?_)
          refine lv_aload_n hx hb dL_law_1127 rfl (lv_at hl 2 rfl) ?_
          refine lv_aload_n hx hb dL_law_1128 rfl (lv_at hl 0 rfl) ?_
          refine lv_iload_n hx hb dL_law_1129 rfl (lv_at hl 3 rfl) ?_
          refine lv_iconst (v := 1) hx hb dL_law_1130 ki_1 ?_
          refine lv_iadd hx hb dL_law_1131 ?_
          refine rx_sld hx hb hX hbl hbA hS hd dL_law_1132 (fun v1132 hd => ?_)
          refine lv_aload_n hx hb dL_law_1133 rfl (lv_at hl 0 rfl) ?_
          refine lv_iload_n hx hb dL_law_1134 rfl (lv_at hl 3 rfl) ?_
          refine lv_iconst (v := 2) hx hb dL_law_1135 ki_2 ?_
          refine lv_iadd hx hb dL_law_1136 ?_
          refine rx_sld hx hb hX hbl hbA hS hd dL_law_1137 (fun v1137 hd => ?_)
          refine lv_aload_n hx hb dL_law_1138 rfl (lv_at hl 0 rfl) ?_
          refine lv_iload_n hx hb dL_law_1139 rfl (lv_at hl 3 rfl) ?_
          refine lv_iconst (v := 3) hx hb dL_law_1140 ki_3 ?_
          refine lv_iadd hx hb dL_law_1141 ?_
          refine rx_sld hx hb hX hbl hbA hS hd dL_law_1142 (fun v1142 hd => ?_)
          refine lv_aload_n hx hb dL_law_1143 rfl (lv_at hl 0 rfl) ?_
          refine lv_iload_n hx hb dL_law_1144 rfl (lv_at hl 3 rfl) ?_
          refine lv_iconst (v := 4) hx hb dL_law_1145 ki_4 ?_
          refine lv_iadd hx hb dL_law_1146 ?_
          refine rx_sld hx hb hX hbl hbA hS hd dL_law_1147 (fun v1147 hd => ?_)
          refine lv_aload_n hx hb dL_law_1148 rfl (lv_at hl 0 rfl) ?_
          refine lv_iload_n hx hb dL_law_1149 rfl (lv_at hl 3 rfl) ?_
          refine lv_iconst (v := 5) hx hb dL_law_1150 ki_5 ?_
          refine lv_iadd hx hb dL_law_1151 ?_
          refine rx_sld hx hb hX hbl hbA hS hd dL_law_1152 (fun v1152 hd => ?_)
          refine rx_upi (fun u => (wGO a_g a_h a_q a_k a_p a_x a_s s_g ++ (wGT cI a_g u1124.2.1 ++ (wP cI cJ a_h s_h ++ (wP cI cJ a_q s_q ++ (wP cI cJ a_k s_k ++ (wTP cI cJ a_p s_p ++ (wTX a_x a_z ++ (wTK cI cJ a_z s_z ++ (wSH cJ cQ a_s u1124.2.2 ++ (wM cI cJ a_m u))))))))))) hd hP hD hS hA ⟨[50, 51, 52, 53, 54, 55, 56, 57, 58, 59, 60, 61], [0, 1, 2, 3, 4, 5, 6, 7, 8, 9, 10, 11, 12, 13, 14, 15, 16, 17, 18, 19, 20, 21, 22, 23, 24, 25, 26, 27, 28, 29, 30, 31, 32, 33, 34, 35, 36, 37, 38, 39, 40, 41, 42, 43, 44, 45, 46, 47, 48, 49], [0, 1, 2, 3, 4, 5, 6, 7, 8, 9, 10, 11, 12, 13, 14, 15, 16, 17, 18, 19, 20, 21, 22, 23, 24, 25, 26, 27, 28, 29, 30, 31, 32, 33, 34, 35, 36, 37, 38, 39, 40, 41, 42, 43, 44, 45, 46, 47, 48, 49, 50, 51, 52, 53, 54, 55, 56, 57, 58, 59, 60, 61], wGO a_g a_h a_q a_k a_p a_x a_s s_g ++ (wGT cI a_g u1124.2.1 ++ (wP cI cJ a_h s_h ++ (wP cI cJ a_q s_q ++ (wP cI cJ a_k s_k ++ (wTP cI cJ a_p s_p ++ (wTX a_x a_z ++ (wTK cI cJ a_z s_z ++ (wSH cJ cQ a_s u1124.2.2)))))))), rfl, rfl, rfl, by decide, rfl, fun _ => rfl⟩ (fun v hv => va_runV (As := [.int v1132, .int v1137, .int v1142, .int v1147, .int v1152]) (rest := [.int u1124.1]) hcf (c_X7_copy l dC dI cI cJ cQ fu a_m _  s_m v1132 v1137 v1142 v1147 v1152 v hv) (cwV 5 hts gL_law_X7_copy rfl rfl rfl cd_X7_copy ⟨(Nat.le_of_ble_eq_true rfl), (Nat.le_of_ble_eq_true rfl)⟩) (cq_U_V (q0 := 50) (ci := 6) hK hP hD [50, 51, 52, 53, 54, 55, 56, 57, 58, 59, 60, 61] rfl rfl rfl rfl) rfl rfl hl.1 rfl (lv_room (Nat.le_of_ble_eq_true rfl)) dL_law_1153 ⟨(Nat.le_of_ble_eq_true rfl), (Nat.le_of_ble_eq_true rfl)⟩) (fun u1153 hd H locs hP hD hS => ?_)
          refine rx_icmp_eq hx hb 1335 dL_law_1156 rfl hd (fun hd => ?_) (fun hd => ?_)
          · refine rx_iinc (lv' := fun z => (3, .int z) :: [(0, .ref b), (1, .ref (a_g 0)), (2, .ref (a_m 0))]) hx hb (j := 3) dL_law_1335 hl rfl ki_6 hd (Nat.le_of_ble_eq_true rfl) (fun _ => rfl) (fun x3_1335 hd ls hl => ?_)
            refine lv_goto (tgt := 18) hx hb dL_law_1338 rfl ?_
            exact k18 s_g u1124.2.1 s_h s_q s_k s_p s_z u1124.2.2 u1153.2 x3_1335 hd _ _ _ hP hD hS (lv_sub hl [1, 2, 3, 0] rfl)
          refine lv_iconst (v := 0) hx hb dL_law_1159 ki_0 ?_
          exact absurd (Option.some.inj hd) (by decide)
        refine rx_tab hx hb (30 : Int32) (30) rfl 1161 dL_law_33 (by decide) (by decide) rfl rfl hd (fun hd => ?_) (fun n_30 hd => ?_)
        · refine lv_aload_n hx hb dL_law_1161 rfl (lv_at hl 1 rfl) ?_
          refine lv_aload_n hx hb dL_law_1162 rfl (lv_at hl 0 rfl) ?_
          refine lv_iload_n hx hb dL_law_1163 rfl (lv_at hl 3 rfl) ?_
          refine lv_iconst (v := 1) hx hb dL_law_1164 ki_1 ?_
          refine lv_iadd hx hb dL_law_1165 ?_
          refine rx_sld hx hb hX hbl hbA hS hd dL_law_1166 (fun v1166 hd => ?_)
          refine rx_upi (fun u => (wGO a_g a_h a_q a_k a_p a_x a_s s_g ++ (wGT cI a_g u.1 ++ (wP cI cJ a_h u.2 ++ (wP cI cJ a_q s_q ++ (wP cI cJ a_k s_k ++ (wTP cI cJ a_p s_p ++ (wTX a_x a_z ++ (wTK cI cJ a_z s_z ++ (wSH cJ cQ a_s s_s ++ (wM cI cJ a_m s_m))))))))))) hd hP hD hS hA ⟨[0, 1, 2, 3, 4, 5, 6, 7, 8, 9, 10, 11, 41, 42, 43, 44, 45, 46, 47, 48, 49], [12, 13, 14, 15, 16, 17, 18, 19, 20, 21, 22, 23, 24, 25, 26, 27, 28, 29, 30, 31, 32, 33, 34, 35, 36, 37, 38, 39, 40, 50, 51, 52, 53, 54, 55, 56, 57, 58, 59, 60, 61], [41, 42, 43, 44, 45, 46, 47, 48, 49, 50, 51, 52, 0, 1, 2, 3, 4, 5, 6, 7, 8, 9, 10, 11, 12, 13, 14, 15, 16, 17, 18, 19, 20, 21, 22, 23, 24, 25, 26, 27, 28, 53, 54, 55, 56, 57, 58, 59, 60, 61, 29, 30, 31, 32, 33, 34, 35, 36, 37, 38, 39, 40], wP cI cJ a_q s_q ++ (wP cI cJ a_k s_k ++ (wTP cI cJ a_p s_p ++ (wTX a_x a_z ++ (wTK cI cJ a_z s_z ++ (wM cI cJ a_m s_m))))), rfl, rfl, rfl, by decide, rfl, fun _ => rfl⟩ (fun v hv => va_runV (As := [.int v1166]) (rest := []) hcf (c_X6_lays l dC dI cI cJ cQ fu a_g a_h a_q a_k a_p a_x a_s _  s_g s_o s_h s_s v1166 v hv) (cwV 1 hts gL_law_X6_lays rfl rfl rfl cd_X6_lays ⟨(Nat.le_of_ble_eq_true rfl), (Nat.le_of_ble_eq_true rfl)⟩) (cq_U_V (q0 := 0) (ci := 5) hK hP hD [0, 1, 2, 3, 4, 5, 6, 7, 8, 9, 10, 11, 41, 42, 43, 44, 45, 46, 47, 48, 49] rfl rfl rfl rfl) rfl rfl hl.1 rfl (lv_room (Nat.le_of_ble_eq_true rfl)) dL_law_1167 ⟨(Nat.le_of_ble_eq_true rfl), (Nat.le_of_ble_eq_true rfl)⟩) (fun u1167 hd H locs hP hD hS => ?_)
          refine lv_aload_n hx hb dL_law_1170 rfl (lv_at hl 2 rfl) ?_
          refine lv_aload_n hx hb dL_law_1171 rfl (lv_at hl 0 rfl) ?_
          refine lv_iload_n hx hb dL_law_1172 rfl (lv_at hl 3 rfl) ?_
          refine lv_iconst (v := 1) hx hb dL_law_1173 ki_1 ?_
          refine lv_iadd hx hb dL_law_1174 ?_
          refine rx_sld hx hb hX hbl hbA hS hd dL_law_1175 (fun v1175 hd => ?_)
          refine rx_upi (fun u => (wGO a_g a_h a_q a_k a_p a_x a_s s_g ++ (wGT cI a_g u1167.2.1 ++ (wP cI cJ a_h u1167.2.2 ++ (wP cI cJ a_q s_q ++ (wP cI cJ a_k s_k ++ (wTP cI cJ a_p s_p ++ (wTX a_x a_z ++ (wTK cI cJ a_z s_z ++ (wSH cJ cQ a_s s_s ++ (wM cI cJ a_m u))))))))))) hd hP hD hS hA ⟨[50, 51, 52, 53, 54, 55, 56, 57, 58, 59, 60, 61], [0, 1, 2, 3, 4, 5, 6, 7, 8, 9, 10, 11, 12, 13, 14, 15, 16, 17, 18, 19, 20, 21, 22, 23, 24, 25, 26, 27, 28, 29, 30, 31, 32, 33, 34, 35, 36, 37, 38, 39, 40, 41, 42, 43, 44, 45, 46, 47, 48, 49], [0, 1, 2, 3, 4, 5, 6, 7, 8, 9, 10, 11, 12, 13, 14, 15, 16, 17, 18, 19, 20, 21, 22, 23, 24, 25, 26, 27, 28, 29, 30, 31, 32, 33, 34, 35, 36, 37, 38, 39, 40, 41, 42, 43, 44, 45, 46, 47, 48, 49, 50, 51, 52, 53, 54, 55, 56, 57, 58, 59, 60, 61], wGO a_g a_h a_q a_k a_p a_x a_s s_g ++ (wGT cI a_g u1167.2.1 ++ (wP cI cJ a_h u1167.2.2 ++ (wP cI cJ a_q s_q ++ (wP cI cJ a_k s_k ++ (wTP cI cJ a_p s_p ++ (wTX a_x a_z ++ (wTK cI cJ a_z s_z ++ (wSH cJ cQ a_s s_s)))))))), rfl, rfl, rfl, by decide, rfl, fun _ => rfl⟩ (fun v hv => va_runV (As := [.int v1175]) (rest := [.int u1167.1]) hcf (c_X7_lays l dC dI cI cJ cQ fu a_m _  s_m v1175 v hv) (cwV 1 hts gL_law_X7_lays rfl rfl rfl cd_X7_lays ⟨(Nat.le_of_ble_eq_true rfl), (Nat.le_of_ble_eq_true rfl)⟩) (cq_U_V (q0 := 50) (ci := 6) hK hP hD [50, 51, 52, 53, 54, 55, 56, 57, 58, 59, 60, 61] rfl rfl rfl rfl) rfl rfl hl.1 rfl (lv_room (Nat.le_of_ble_eq_true rfl)) dL_law_1176 ⟨(Nat.le_of_ble_eq_true rfl), (Nat.le_of_ble_eq_true rfl)⟩) (fun u1176 hd H locs hP hD hS => ?_)
          refine rx_icmp_eq hx hb 1335 dL_law_1179 rfl hd (fun hd => ?_) (fun hd => ?_)
          · refine rx_iinc (lv' := fun z => (3, .int z) :: [(0, .ref b), (1, .ref (a_g 0)), (2, .ref (a_m 0))]) hx hb (j := 3) dL_law_1335 hl rfl ki_6 hd (Nat.le_of_ble_eq_true rfl) (fun _ => rfl) (fun x3_1335 hd ls hl => ?_)
            refine lv_goto (tgt := 18) hx hb dL_law_1338 rfl ?_
            exact k18 s_g u1167.2.1 u1167.2.2 s_q s_k s_p s_z s_s u1176.2 x3_1335 hd _ _ _ hP hD hS (lv_sub hl [1, 2, 3, 0] rfl)
          refine lv_iconst (v := 0) hx hb dL_law_1182 ki_0 ?_
          exact absurd (Option.some.inj hd) (by decide)
        refine rx_tab hx hb (31 : Int32) (31) rfl 1184 dL_law_33 (by decide) (by decide) rfl rfl hd (fun hd => ?_) (fun n_31 hd => ?_)
        · refine lv_aload_n hx hb dL_law_1184 rfl (lv_at hl 1 rfl) ?_
          refine lv_aload_n hx hb dL_law_1185 rfl (lv_at hl 0 rfl) ?_
          refine lv_iload_n hx hb dL_law_1186 rfl (lv_at hl 3 rfl) ?_
          refine lv_iconst (v := 1) hx hb dL_law_1187 ki_1 ?_
          refine lv_iadd hx hb dL_law_1188 ?_
          refine rx_sld hx hb hX hbl hbA hS hd dL_law_1189 (fun v1189 hd => ?_)
          refine lv_aload_n hx hb dL_law_1190 rfl (lv_at hl 0 rfl) ?_
          refine lv_iload_n hx hb dL_law_1191 rfl (lv_at hl 3 rfl) ?_
          refine lv_iconst (v := 2) hx hb dL_law_1192 ki_2 ?_
          refine lv_iadd hx hb dL_law_1193 ?_
          refine rx_sld hx hb hX hbl hbA hS hd dL_law_1194 (fun v1194 hd => ?_)
          refine rx_upi (fun u => (wGO a_g a_h a_q a_k a_p a_x a_s s_g ++ (wGT cI a_g u.1 ++ (wP cI cJ a_h s_h ++ (wP cI cJ a_q u.2.1 ++ (wP cI cJ a_k s_k ++ (wTP cI cJ a_p s_p ++ (wTX a_x a_z ++ (wTK cI cJ a_z s_z ++ (wSH cJ cQ a_s u.2.2 ++ (wM cI cJ a_m s_m))))))))))) hd hP hD hS hA ⟨[0, 1, 2, 3, 4, 5, 6, 7, 8, 9, 10, 11, 12, 13, 14, 15, 16, 17, 18, 19, 20, 21, 41, 42, 43, 44, 45, 46, 47, 48, 49], [22, 23, 24, 25, 26, 27, 28, 29, 30, 31, 32, 33, 34, 35, 36, 37, 38, 39, 40, 50, 51, 52, 53, 54, 55, 56, 57, 58, 59, 60, 61], [31, 32, 33, 34, 35, 36, 37, 38, 39, 40, 41, 42, 43, 44, 45, 46, 47, 48, 49, 50, 51, 52, 0, 1, 2, 3, 4, 5, 6, 7, 8, 9, 10, 11, 12, 13, 14, 15, 16, 17, 18, 53, 54, 55, 56, 57, 58, 59, 60, 61, 19, 20, 21, 22, 23, 24, 25, 26, 27, 28, 29, 30], wP cI cJ a_k s_k ++ (wTP cI cJ a_p s_p ++ (wTX a_x a_z ++ (wTK cI cJ a_z s_z ++ (wM cI cJ a_m s_m)))), rfl, rfl, rfl, by decide, rfl, fun _ => rfl⟩ (fun v hv => va_runV (As := [.int v1189, .int v1194]) (rest := []) hcf (c_X6_book l dC dI cI cJ cQ fu a_g a_h a_q a_k a_p a_x a_s _  s_g s_o s_h s_q s_s v1189 v1194 v hv) (cwV 2 hts gL_law_X6_book rfl rfl rfl cd_X6_book ⟨(Nat.le_of_ble_eq_true rfl), (Nat.le_of_ble_eq_true rfl)⟩) (cq_U_V (q0 := 0) (ci := 5) hK hP hD [0, 1, 2, 3, 4, 5, 6, 7, 8, 9, 10, 11, 12, 13, 14, 15, 16, 17, 18, 19, 20, 21, 41, 42, 43, 44, 45, 46, 47, 48, 49] rfl rfl rfl rfl) rfl rfl hl.1 rfl (lv_room (Nat.le_of_ble_eq_true rfl)) dL_law_1195 ⟨(Nat.le_of_ble_eq_true rfl), (Nat.le_of_ble_eq_true rfl)⟩) (fun u1195 hd H locs hP hD hS => ?_)
          refine lv_aload_n hx hb dL_law_1198 rfl (lv_at hl 2 rfl) ?_
          refine lv_aload_n hx hb dL_law_1199 rfl (lv_at hl 0 rfl) ?_
          refine lv_iload_n hx hb dL_law_1200 rfl (lv_at hl 3 rfl) ?_
          refine lv_iconst (v := 1) hx hb dL_law_1201 ki_1 ?_
          refine lv_iadd hx hb dL_law_1202 ?_
          refine rx_sld hx hb hX hbl hbA hS hd dL_law_1203 (fun v1203 hd => ?_)
          refine lv_aload_n hx hb dL_law_1204 rfl (lv_at hl 0 rfl) ?_
          refine lv_iload_n hx hb dL_law_1205 rfl (lv_at hl 3 rfl) ?_
          refine lv_iconst (v := 2) hx hb dL_law_1206 ki_2 ?_
          refine lv_iadd hx hb dL_law_1207 ?_
          refine rx_sld hx hb hX hbl hbA hS hd dL_law_1208 (fun v1208 hd => ?_)
          refine rx_upi (fun u => (wGO a_g a_h a_q a_k a_p a_x a_s s_g ++ (wGT cI a_g u1195.2.1 ++ (wP cI cJ a_h s_h ++ (wP cI cJ a_q u1195.2.2.1 ++ (wP cI cJ a_k s_k ++ (wTP cI cJ a_p s_p ++ (wTX a_x a_z ++ (wTK cI cJ a_z s_z ++ (wSH cJ cQ a_s u1195.2.2.2 ++ (wM cI cJ a_m u))))))))))) hd hP hD hS hA ⟨[50, 51, 52, 53, 54, 55, 56, 57, 58, 59, 60, 61], [0, 1, 2, 3, 4, 5, 6, 7, 8, 9, 10, 11, 12, 13, 14, 15, 16, 17, 18, 19, 20, 21, 22, 23, 24, 25, 26, 27, 28, 29, 30, 31, 32, 33, 34, 35, 36, 37, 38, 39, 40, 41, 42, 43, 44, 45, 46, 47, 48, 49], [0, 1, 2, 3, 4, 5, 6, 7, 8, 9, 10, 11, 12, 13, 14, 15, 16, 17, 18, 19, 20, 21, 22, 23, 24, 25, 26, 27, 28, 29, 30, 31, 32, 33, 34, 35, 36, 37, 38, 39, 40, 41, 42, 43, 44, 45, 46, 47, 48, 49, 50, 51, 52, 53, 54, 55, 56, 57, 58, 59, 60, 61], wGO a_g a_h a_q a_k a_p a_x a_s s_g ++ (wGT cI a_g u1195.2.1 ++ (wP cI cJ a_h s_h ++ (wP cI cJ a_q u1195.2.2.1 ++ (wP cI cJ a_k s_k ++ (wTP cI cJ a_p s_p ++ (wTX a_x a_z ++ (wTK cI cJ a_z s_z ++ (wSH cJ cQ a_s u1195.2.2.2)))))))), rfl, rfl, rfl, by decide, rfl, fun _ => rfl⟩ (fun v hv => va_runV (As := [.int v1203, .int v1208]) (rest := [.int u1195.1]) hcf (c_X7_book l dC dI cI cJ cQ fu a_m _  s_m v1203 v1208 v hv) (cwV 2 hts gL_law_X7_book rfl rfl rfl cd_X7_book ⟨(Nat.le_of_ble_eq_true rfl), (Nat.le_of_ble_eq_true rfl)⟩) (cq_U_V (q0 := 50) (ci := 6) hK hP hD [50, 51, 52, 53, 54, 55, 56, 57, 58, 59, 60, 61] rfl rfl rfl rfl) rfl rfl hl.1 rfl (lv_room (Nat.le_of_ble_eq_true rfl)) dL_law_1209 ⟨(Nat.le_of_ble_eq_true rfl), (Nat.le_of_ble_eq_true rfl)⟩) (fun u1209 hd H locs hP hD hS => ?_)
          refine rx_icmp_eq hx hb 1335 dL_law_1212 rfl hd (fun hd => ?_) (fun hd => ?_)
          · refine rx_iinc (lv' := fun z => (3, .int z) :: [(0, .ref b), (1, .ref (a_g 0)), (2, .ref (a_m 0))]) hx hb (j := 3) dL_law_1335 hl rfl ki_6 hd (Nat.le_of_ble_eq_true rfl) (fun _ => rfl) (fun x3_1335 hd ls hl => ?_)
            refine lv_goto (tgt := 18) hx hb dL_law_1338 rfl ?_
            exact k18 s_g u1195.2.1 s_h u1195.2.2.1 s_k s_p s_z u1195.2.2.2 u1209.2 x3_1335 hd _ _ _ hP hD hS (lv_sub hl [1, 2, 3, 0] rfl)
          refine lv_iconst (v := 0) hx hb dL_law_1215 ki_0 ?_
          exact absurd (Option.some.inj hd) (by decide)
        refine rx_tab hx hb (32 : Int32) (32) rfl 1217 dL_law_33 (by decide) (by decide) rfl rfl hd (fun hd => ?_) (fun n_32 hd => ?_)
        · refine lv_aload_n hx hb dL_law_1217 rfl (lv_at hl 1 rfl) ?_
          refine lv_aload_n hx hb dL_law_1218 rfl (lv_at hl 0 rfl) ?_
          refine lv_iload_n hx hb dL_law_1219 rfl (lv_at hl 3 rfl) ?_
          refine lv_iconst (v := 1) hx hb dL_law_1220 ki_1 ?_
          refine lv_iadd hx hb dL_law_1221 ?_
          refine rx_sld hx hb hX hbl hbA hS hd dL_law_1222 (fun v1222 hd => ?_)
          refine lv_aload_n hx hb dL_law_1223 rfl (lv_at hl 0 rfl) ?_
          refine lv_iload_n hx hb dL_law_1224 rfl (lv_at hl 3 rfl) ?_
          refine lv_iconst (v := 2) hx hb dL_law_1225 ki_2 ?_
          refine lv_iadd hx hb dL_law_1226 ?_
          refine rx_sld hx hb hX hbl hbA hS hd dL_law_1227 (fun v1227 hd => ?_)
          refine rx_upi (fun u => (wGO a_g a_h a_q a_k a_p a_x a_s s_g ++ (wGT cI a_g u.1 ++ (wP cI cJ a_h s_h ++ (wP cI cJ a_q u.2 ++ (wP cI cJ a_k s_k ++ (wTP cI cJ a_p s_p ++ (wTX a_x a_z ++ (wTK cI cJ a_z s_z ++ (wSH cJ cQ a_s s_s ++ (wM cI cJ a_m s_m))))))))))) hd hP hD hS hA ⟨[0, 1, 2, 3, 4, 5, 6, 7, 8, 9, 10, 11, 12, 13, 14, 15, 16, 17, 18, 19, 20, 21, 41, 42, 43, 44, 45, 46, 47, 48, 49], [22, 23, 24, 25, 26, 27, 28, 29, 30, 31, 32, 33, 34, 35, 36, 37, 38, 39, 40, 50, 51, 52, 53, 54, 55, 56, 57, 58, 59, 60, 61], [31, 32, 33, 34, 35, 36, 37, 38, 39, 40, 41, 42, 43, 44, 45, 46, 47, 48, 49, 50, 51, 52, 0, 1, 2, 3, 4, 5, 6, 7, 8, 9, 10, 11, 12, 13, 14, 15, 16, 17, 18, 53, 54, 55, 56, 57, 58, 59, 60, 61, 19, 20, 21, 22, 23, 24, 25, 26, 27, 28, 29, 30], wP cI cJ a_k s_k ++ (wTP cI cJ a_p s_p ++ (wTX a_x a_z ++ (wTK cI cJ a_z s_z ++ (wM cI cJ a_m s_m)))), rfl, rfl, rfl, by decide, rfl, fun _ => rfl⟩ (fun v hv => va_runV (As := [.int v1222, .int v1227]) (rest := []) hcf (c_X6_read l dC dI cI cJ cQ fu a_g a_h a_q a_k a_p a_x a_s _  s_g s_o s_h s_q s_s v1222 v1227 v hv) (cwV 2 hts gL_law_X6_read rfl rfl rfl cd_X6_read ⟨(Nat.le_of_ble_eq_true rfl), (Nat.le_of_ble_eq_true rfl)⟩) (cq_U_V (q0 := 0) (ci := 5) hK hP hD [0, 1, 2, 3, 4, 5, 6, 7, 8, 9, 10, 11, 12, 13, 14, 15, 16, 17, 18, 19, 20, 21, 41, 42, 43, 44, 45, 46, 47, 48, 49] rfl rfl rfl rfl) rfl rfl hl.1 rfl (lv_room (Nat.le_of_ble_eq_true rfl)) dL_law_1228 ⟨(Nat.le_of_ble_eq_true rfl), (Nat.le_of_ble_eq_true rfl)⟩) (fun u1228 hd H locs hP hD hS => ?_)
          refine lv_aload_n hx hb dL_law_1231 rfl (lv_at hl 2 rfl) ?_
          refine lv_aload_n hx hb dL_law_1232 rfl (lv_at hl 0 rfl) ?_
          refine lv_iload_n hx hb dL_law_1233 rfl (lv_at hl 3 rfl) ?_
          refine lv_iconst (v := 1) hx hb dL_law_1234 ki_1 ?_
          refine lv_iadd hx hb dL_law_1235 ?_
          refine rx_sld hx hb hX hbl hbA hS hd dL_law_1236 (fun v1236 hd => ?_)
          refine lv_aload_n hx hb dL_law_1237 rfl (lv_at hl 0 rfl) ?_
          refine lv_iload_n hx hb dL_law_1238 rfl (lv_at hl 3 rfl) ?_
          refine lv_iconst (v := 2) hx hb dL_law_1239 ki_2 ?_
          refine lv_iadd hx hb dL_law_1240 ?_
          refine rx_sld hx hb hX hbl hbA hS hd dL_law_1241 (fun v1241 hd => ?_)
          refine rx_upi (fun u => (wGO a_g a_h a_q a_k a_p a_x a_s s_g ++ (wGT cI a_g u1228.2.1 ++ (wP cI cJ a_h s_h ++ (wP cI cJ a_q u1228.2.2 ++ (wP cI cJ a_k s_k ++ (wTP cI cJ a_p s_p ++ (wTX a_x a_z ++ (wTK cI cJ a_z s_z ++ (wSH cJ cQ a_s s_s ++ (wM cI cJ a_m u))))))))))) hd hP hD hS hA ⟨[50, 51, 52, 53, 54, 55, 56, 57, 58, 59, 60, 61], [0, 1, 2, 3, 4, 5, 6, 7, 8, 9, 10, 11, 12, 13, 14, 15, 16, 17, 18, 19, 20, 21, 22, 23, 24, 25, 26, 27, 28, 29, 30, 31, 32, 33, 34, 35, 36, 37, 38, 39, 40, 41, 42, 43, 44, 45, 46, 47, 48, 49], [0, 1, 2, 3, 4, 5, 6, 7, 8, 9, 10, 11, 12, 13, 14, 15, 16, 17, 18, 19, 20, 21, 22, 23, 24, 25, 26, 27, 28, 29, 30, 31, 32, 33, 34, 35, 36, 37, 38, 39, 40, 41, 42, 43, 44, 45, 46, 47, 48, 49, 50, 51, 52, 53, 54, 55, 56, 57, 58, 59, 60, 61], wGO a_g a_h a_q a_k a_p a_x a_s s_g ++ (wGT cI a_g u1228.2.1 ++ (wP cI cJ a_h s_h ++ (wP cI cJ a_q u1228.2.2 ++ (wP cI cJ a_k s_k ++ (wTP cI cJ a_p s_p ++ (wTX a_x a_z ++ (wTK cI cJ a_z s_z ++ (wSH cJ cQ a_s s_s)))))))), rfl, rfl, rfl, by decide, rfl, fun _ => rfl⟩ (fun v hv => va_runV (As := [.int v1236, .int v1241]) (rest := [.int u1228.1]) hcf (c_X7_read l dC dI cI cJ cQ fu a_m _  s_m v1236 v1241 v hv) (cwV 2 hts gL_law_X7_read rfl rfl rfl cd_X7_read ⟨(Nat.le_of_ble_eq_true rfl), (Nat.le_of_ble_eq_true rfl)⟩) (cq_U_V (q0 := 50) (ci := 6) hK hP hD [50, 51, 52, 53, 54, 55, 56, 57, 58, 59, 60, 61] rfl rfl rfl rfl) rfl rfl hl.1 rfl (lv_room (Nat.le_of_ble_eq_true rfl)) dL_law_1242 ⟨(Nat.le_of_ble_eq_true rfl), (Nat.le_of_ble_eq_true rfl)⟩) (fun u1242 hd H locs hP hD hS => ?_)
          refine rx_icmp_eq hx hb 1335 dL_law_1245 rfl hd (fun hd => ?_) (fun hd => ?_)
          · refine rx_iinc (lv' := fun z => (3, .int z) :: [(0, .ref b), (1, .ref (a_g 0)), (2, .ref (a_m 0))]) hx hb (j := 3) dL_law_1335 hl rfl ki_6 hd (Nat.le_of_ble_eq_true rfl) (fun _ => rfl) (fun x3_1335 hd ls hl => ?_)
            refine lv_goto (tgt := 18) hx hb dL_law_1338 rfl ?_
            exact k18 s_g u1228.2.1 s_h u1228.2.2 s_k s_p s_z s_s u1242.2 x3_1335 hd _ _ _ hP hD hS (lv_sub hl [1, 2, 3, 0] rfl)
          refine lv_iconst (v := 0) hx hb dL_law_1248 ki_0 ?_
          exact absurd (Option.some.inj hd) (by decide)
        refine rx_tab hx hb (33 : Int32) (33) rfl 1250 dL_law_33 (by decide) (by decide) rfl rfl hd (fun hd => ?_) (fun n_33 hd => ?_)
        · refine lv_aload_n hx hb dL_law_1250 rfl (lv_at hl 1 rfl) ?_
          refine rx_upi (fun u => (wGO a_g a_h a_q a_k a_p a_x a_s u.1 ++ (wGT cI a_g s_o ++ (wP cI cJ a_h s_h ++ (wP cI cJ a_q s_q ++ (wP cI cJ a_k u.2 ++ (wTP cI cJ a_p s_p ++ (wTX a_x a_z ++ (wTK cI cJ a_z s_z ++ (wSH cJ cQ a_s s_s ++ (wM cI cJ a_m s_m))))))))))) hd hP hD hS hA ⟨[0, 2, 3, 4, 5, 6, 7, 8, 9, 10, 11, 22, 23, 24, 25, 26, 27, 28, 29, 30, 31], [1, 12, 13, 14, 15, 16, 17, 18, 19, 20, 21, 32, 33, 34, 35, 36, 37, 38, 39, 40, 41, 42, 43, 44, 45, 46, 47, 48, 49, 50, 51, 52, 53, 54, 55, 56, 57, 58, 59, 60, 61], [41, 0, 42, 43, 44, 45, 46, 47, 48, 49, 50, 51, 1, 2, 3, 4, 5, 6, 7, 8, 9, 10, 52, 53, 54, 55, 56, 57, 58, 59, 60, 61, 11, 12, 13, 14, 15, 16, 17, 18, 19, 20, 21, 22, 23, 24, 25, 26, 27, 28, 29, 30, 31, 32, 33, 34, 35, 36, 37, 38, 39, 40], wGT cI a_g s_o ++ (wP cI cJ a_q s_q ++ (wTP cI cJ a_p s_p ++ (wTX a_x a_z ++ (wTK cI cJ a_z s_z ++ (wSH cJ cQ a_s s_s ++ (wM cI cJ a_m s_m)))))), rfl, rfl, rfl, by decide, rfl, fun _ => rfl⟩ (fun v hv => va_runV (As := []) (rest := []) hcf (c_X6_image l dC dI cI cJ cQ fu a_g a_h a_q a_k a_p a_x a_s _  s_g s_h s_k  v hv) (cwV 0 hts gL_law_X6_image rfl rfl rfl cd_X6_image ⟨(Nat.le_of_ble_eq_true rfl), (Nat.le_of_ble_eq_true rfl)⟩) (cq_U_V (q0 := 0) (ci := 5) hK hP hD [0, 2, 3, 4, 5, 6, 7, 8, 9, 10, 11, 22, 23, 24, 25, 26, 27, 28, 29, 30, 31] rfl rfl rfl rfl) rfl rfl hl.1 rfl (lv_room (Nat.le_of_ble_eq_true rfl)) dL_law_1251 ⟨(Nat.le_of_ble_eq_true rfl), (Nat.le_of_ble_eq_true rfl)⟩) (fun u1251 hd H locs hP hD hS => ?_)
          refine lv_aload_n hx hb dL_law_1254 rfl (lv_at hl 2 rfl) ?_
          refine rx_upi (fun u => (wGO a_g a_h a_q a_k a_p a_x a_s u1251.2.1 ++ (wGT cI a_g s_o ++ (wP cI cJ a_h s_h ++ (wP cI cJ a_q s_q ++ (wP cI cJ a_k u1251.2.2 ++ (wTP cI cJ a_p s_p ++ (wTX a_x a_z ++ (wTK cI cJ a_z s_z ++ (wSH cJ cQ a_s s_s ++ (wM cI cJ a_m u))))))))))) hd hP hD hS hA ⟨[50, 51, 52, 53, 54, 55, 56, 57, 58, 59, 60, 61], [0, 1, 2, 3, 4, 5, 6, 7, 8, 9, 10, 11, 12, 13, 14, 15, 16, 17, 18, 19, 20, 21, 22, 23, 24, 25, 26, 27, 28, 29, 30, 31, 32, 33, 34, 35, 36, 37, 38, 39, 40, 41, 42, 43, 44, 45, 46, 47, 48, 49], [0, 1, 2, 3, 4, 5, 6, 7, 8, 9, 10, 11, 12, 13, 14, 15, 16, 17, 18, 19, 20, 21, 22, 23, 24, 25, 26, 27, 28, 29, 30, 31, 32, 33, 34, 35, 36, 37, 38, 39, 40, 41, 42, 43, 44, 45, 46, 47, 48, 49, 50, 51, 52, 53, 54, 55, 56, 57, 58, 59, 60, 61], wGO a_g a_h a_q a_k a_p a_x a_s u1251.2.1 ++ (wGT cI a_g s_o ++ (wP cI cJ a_h s_h ++ (wP cI cJ a_q s_q ++ (wP cI cJ a_k u1251.2.2 ++ (wTP cI cJ a_p s_p ++ (wTX a_x a_z ++ (wTK cI cJ a_z s_z ++ (wSH cJ cQ a_s s_s)))))))), rfl, rfl, rfl, by decide, rfl, fun _ => rfl⟩ (fun v hv => va_runV (As := []) (rest := [.int u1251.1]) hcf (c_X7_image l dC dI cI cJ cQ fu a_m _  s_m  v hv) (cwV 0 hts gL_law_X7_image rfl rfl rfl cd_X7_image ⟨(Nat.le_of_ble_eq_true rfl), (Nat.le_of_ble_eq_true rfl)⟩) (cq_U_V (q0 := 50) (ci := 6) hK hP hD [50, 51, 52, 53, 54, 55, 56, 57, 58, 59, 60, 61] rfl rfl rfl rfl) rfl rfl hl.1 rfl (lv_room (Nat.le_of_ble_eq_true rfl)) dL_law_1255 ⟨(Nat.le_of_ble_eq_true rfl), (Nat.le_of_ble_eq_true rfl)⟩) (fun u1255 hd H locs hP hD hS => ?_)
          refine rx_icmp_eq hx hb 1335 dL_law_1258 rfl hd (fun hd => ?_) (fun hd => ?_)
          · refine rx_iinc (lv' := fun z => (3, .int z) :: [(0, .ref b), (1, .ref (a_g 0)), (2, .ref (a_m 0))]) hx hb (j := 3) dL_law_1335 hl rfl ki_6 hd (Nat.le_of_ble_eq_true rfl) (fun _ => rfl) (fun x3_1335 hd ls hl => ?_)
            refine lv_goto (tgt := 18) hx hb dL_law_1338 rfl ?_
            exact k18 u1251.2.1 s_o s_h s_q u1251.2.2 s_p s_z s_s u1255.2 x3_1335 hd _ _ _ hP hD hS (lv_sub hl [1, 2, 3, 0] rfl)
          refine lv_iconst (v := 0) hx hb dL_law_1261 ki_0 ?_
          exact absurd (Option.some.inj hd) (by decide)
        refine rx_tab hx hb (34 : Int32) (34) rfl 1263 dL_law_33 (by decide) (by decide) rfl rfl hd (fun hd => ?_) (fun n_34 hd => ?_)
        · refine lv_aload_n hx hb dL_law_1263 rfl (lv_at hl 1 rfl) ?_
          refine rx_upi (fun u => (wGO a_g a_h a_q a_k a_p a_x a_s s_g ++ (wGT cI a_g u.1 ++ (wP cI cJ a_h u.2 ++ (wP cI cJ a_q s_q ++ (wP cI cJ a_k s_k ++ (wTP cI cJ a_p s_p ++ (wTX a_x a_z ++ (wTK cI cJ a_z s_z ++ (wSH cJ cQ a_s s_s ++ (wM cI cJ a_m s_m))))))))))) hd hP hD hS hA ⟨[0, 1, 2, 3, 4, 5, 6, 7, 8, 9, 10, 11, 22, 23, 24, 25, 26, 27, 28, 29, 30, 31], [12, 13, 14, 15, 16, 17, 18, 19, 20, 21, 32, 33, 34, 35, 36, 37, 38, 39, 40, 41, 42, 43, 44, 45, 46, 47, 48, 49, 50, 51, 52, 53, 54, 55, 56, 57, 58, 59, 60, 61], [40, 41, 42, 43, 44, 45, 46, 47, 48, 49, 50, 51, 0, 1, 2, 3, 4, 5, 6, 7, 8, 9, 52, 53, 54, 55, 56, 57, 58, 59, 60, 61, 10, 11, 12, 13, 14, 15, 16, 17, 18, 19, 20, 21, 22, 23, 24, 25, 26, 27, 28, 29, 30, 31, 32, 33, 34, 35, 36, 37, 38, 39], wP cI cJ a_q s_q ++ (wTP cI cJ a_p s_p ++ (wTX a_x a_z ++ (wTK cI cJ a_z s_z ++ (wSH cJ cQ a_s s_s ++ (wM cI cJ a_m s_m))))), rfl, rfl, rfl, by decide, rfl, fun _ => rfl⟩ (fun v hv => va_runV (As := []) (rest := []) hcf (c_X6_undo l dC dI cI cJ cQ fu a_g a_h a_q a_k a_p a_x a_s _  s_g s_o s_h s_k  v hv) (cwV 0 hts gL_law_X6_undo rfl rfl rfl cd_X6_undo ⟨(Nat.le_of_ble_eq_true rfl), (Nat.le_of_ble_eq_true rfl)⟩) (cq_U_V (q0 := 0) (ci := 5) hK hP hD [0, 1, 2, 3, 4, 5, 6, 7, 8, 9, 10, 11, 22, 23, 24, 25, 26, 27, 28, 29, 30, 31] rfl rfl rfl rfl) rfl rfl hl.1 rfl (lv_room (Nat.le_of_ble_eq_true rfl)) dL_law_1264 ⟨(Nat.le_of_ble_eq_true rfl), (Nat.le_of_ble_eq_true rfl)⟩) (fun u1264 hd H locs hP hD hS => ?_)
          refine lv_aload_n hx hb dL_law_1267 rfl (lv_at hl 2 rfl) ?_
          refine rx_upi (fun u => (wGO a_g a_h a_q a_k a_p a_x a_s s_g ++ (wGT cI a_g u1264.2.1 ++ (wP cI cJ a_h u1264.2.2 ++ (wP cI cJ a_q s_q ++ (wP cI cJ a_k s_k ++ (wTP cI cJ a_p s_p ++ (wTX a_x a_z ++ (wTK cI cJ a_z s_z ++ (wSH cJ cQ a_s s_s ++ (wM cI cJ a_m u))))))))))) hd hP hD hS hA ⟨[50, 51, 52, 53, 54, 55, 56, 57, 58, 59, 60, 61], [0, 1, 2, 3, 4, 5, 6, 7, 8, 9, 10, 11, 12, 13, 14, 15, 16, 17, 18, 19, 20, 21, 22, 23, 24, 25, 26, 27, 28, 29, 30, 31, 32, 33, 34, 35, 36, 37, 38, 39, 40, 41, 42, 43, 44, 45, 46, 47, 48, 49], [0, 1, 2, 3, 4, 5, 6, 7, 8, 9, 10, 11, 12, 13, 14, 15, 16, 17, 18, 19, 20, 21, 22, 23, 24, 25, 26, 27, 28, 29, 30, 31, 32, 33, 34, 35, 36, 37, 38, 39, 40, 41, 42, 43, 44, 45, 46, 47, 48, 49, 50, 51, 52, 53, 54, 55, 56, 57, 58, 59, 60, 61], wGO a_g a_h a_q a_k a_p a_x a_s s_g ++ (wGT cI a_g u1264.2.1 ++ (wP cI cJ a_h u1264.2.2 ++ (wP cI cJ a_q s_q ++ (wP cI cJ a_k s_k ++ (wTP cI cJ a_p s_p ++ (wTX a_x a_z ++ (wTK cI cJ a_z s_z ++ (wSH cJ cQ a_s s_s)))))))), rfl, rfl, rfl, by decide, rfl, fun _ => rfl⟩ (fun v hv => va_runV (As := []) (rest := [.int u1264.1]) hcf (c_X7_undo l dC dI cI cJ cQ fu a_m _  s_m  v hv) (cwV 0 hts gL_law_X7_undo rfl rfl rfl cd_X7_undo ⟨(Nat.le_of_ble_eq_true rfl), (Nat.le_of_ble_eq_true rfl)⟩) (cq_U_V (q0 := 50) (ci := 6) hK hP hD [50, 51, 52, 53, 54, 55, 56, 57, 58, 59, 60, 61] rfl rfl rfl rfl) rfl rfl hl.1 rfl (lv_room (Nat.le_of_ble_eq_true rfl)) dL_law_1268 ⟨(Nat.le_of_ble_eq_true rfl), (Nat.le_of_ble_eq_true rfl)⟩) (fun u1268 hd H locs hP hD hS => ?_)
          refine rx_icmp_eq hx hb 1335 dL_law_1271 rfl hd (fun hd => ?_) (fun hd => ?_)
          · refine rx_iinc (lv' := fun z => (3, .int z) :: [(0, .ref b), (1, .ref (a_g 0)), (2, .ref (a_m 0))]) hx hb (j := 3) dL_law_1335 hl rfl ki_6 hd (Nat.le_of_ble_eq_true rfl) (fun _ => rfl) (fun x3_1335 hd ls hl => ?_)
            refine lv_goto (tgt := 18) hx hb dL_law_1338 rfl ?_
            exact k18 s_g u1264.2.1 u1264.2.2 s_q s_k s_p s_z s_s u1268.2 x3_1335 hd _ _ _ hP hD hS (lv_sub hl [1, 2, 3, 0] rfl)
          refine lv_iconst (v := 0) hx hb dL_law_1274 ki_0 ?_
          exact absurd (Option.some.inj hd) (by decide)
        refine rx_tab hx hb (35 : Int32) (35) rfl 1276 dL_law_33 (by decide) (by decide) rfl rfl hd (fun hd => ?_) (fun n_35 hd => ?_)
        · refine lv_aload_n hx hb dL_law_1276 rfl (lv_at hl 1 rfl) ?_
          refine rx_upi (fun u => (wGO a_g a_h a_q a_k a_p a_x a_s u ++ (wGT cI a_g s_o ++ (wP cI cJ a_h s_h ++ (wP cI cJ a_q s_q ++ (wP cI cJ a_k s_k ++ (wTP cI cJ a_p s_p ++ (wTX a_x a_z ++ (wTK cI cJ a_z s_z ++ (wSH cJ cQ a_s s_s ++ (wM cI cJ a_m s_m))))))))))) hd hP hD hS hA ⟨[0], [1, 2, 3, 4, 5, 6, 7, 8, 9, 10, 11, 12, 13, 14, 15, 16, 17, 18, 19, 20, 21, 22, 23, 24, 25, 26, 27, 28, 29, 30, 31, 32, 33, 34, 35, 36, 37, 38, 39, 40, 41, 42, 43, 44, 45, 46, 47, 48, 49, 50, 51, 52, 53, 54, 55, 56, 57, 58, 59, 60, 61], [61, 0, 1, 2, 3, 4, 5, 6, 7, 8, 9, 10, 11, 12, 13, 14, 15, 16, 17, 18, 19, 20, 21, 22, 23, 24, 25, 26, 27, 28, 29, 30, 31, 32, 33, 34, 35, 36, 37, 38, 39, 40, 41, 42, 43, 44, 45, 46, 47, 48, 49, 50, 51, 52, 53, 54, 55, 56, 57, 58, 59, 60], wGT cI a_g s_o ++ (wP cI cJ a_h s_h ++ (wP cI cJ a_q s_q ++ (wP cI cJ a_k s_k ++ (wTP cI cJ a_p s_p ++ (wTX a_x a_z ++ (wTK cI cJ a_z s_z ++ (wSH cJ cQ a_s s_s ++ (wM cI cJ a_m s_m)))))))), rfl, rfl, rfl, by decide, rfl, fun _ => rfl⟩ (fun v hv => va_runV (As := []) (rest := []) hcf (c_X6_tear l dC dI cI cJ cQ fu a_g a_h a_q a_k a_p a_x a_s _  s_g  v hv) (cwV 0 hts gL_law_X6_tear rfl rfl rfl cd_X6_tear ⟨(Nat.le_of_ble_eq_true rfl), (Nat.le_of_ble_eq_true rfl)⟩) (cq_U_V (q0 := 0) (ci := 5) hK hP hD [0] rfl rfl rfl rfl) rfl rfl hl.1 rfl (lv_room (Nat.le_of_ble_eq_true rfl)) dL_law_1277 ⟨(Nat.le_of_ble_eq_true rfl), (Nat.le_of_ble_eq_true rfl)⟩) (fun u1277 hd H locs hP hD hS => ?_)
          refine lv_aload_n hx hb dL_law_1280 rfl (lv_at hl 2 rfl) ?_
          refine rx_upi (fun u => (wGO a_g a_h a_q a_k a_p a_x a_s u1277.2 ++ (wGT cI a_g s_o ++ (wP cI cJ a_h s_h ++ (wP cI cJ a_q s_q ++ (wP cI cJ a_k s_k ++ (wTP cI cJ a_p s_p ++ (wTX a_x a_z ++ (wTK cI cJ a_z s_z ++ (wSH cJ cQ a_s s_s ++ (wM cI cJ a_m u))))))))))) hd hP hD hS hA ⟨[50, 51, 52, 53, 54, 55, 56, 57, 58, 59, 60, 61], [0, 1, 2, 3, 4, 5, 6, 7, 8, 9, 10, 11, 12, 13, 14, 15, 16, 17, 18, 19, 20, 21, 22, 23, 24, 25, 26, 27, 28, 29, 30, 31, 32, 33, 34, 35, 36, 37, 38, 39, 40, 41, 42, 43, 44, 45, 46, 47, 48, 49], [0, 1, 2, 3, 4, 5, 6, 7, 8, 9, 10, 11, 12, 13, 14, 15, 16, 17, 18, 19, 20, 21, 22, 23, 24, 25, 26, 27, 28, 29, 30, 31, 32, 33, 34, 35, 36, 37, 38, 39, 40, 41, 42, 43, 44, 45, 46, 47, 48, 49, 50, 51, 52, 53, 54, 55, 56, 57, 58, 59, 60, 61], wGO a_g a_h a_q a_k a_p a_x a_s u1277.2 ++ (wGT cI a_g s_o ++ (wP cI cJ a_h s_h ++ (wP cI cJ a_q s_q ++ (wP cI cJ a_k s_k ++ (wTP cI cJ a_p s_p ++ (wTX a_x a_z ++ (wTK cI cJ a_z s_z ++ (wSH cJ cQ a_s s_s)))))))), rfl, rfl, rfl, by decide, rfl, fun _ => rfl⟩ (fun v hv => va_runV (As := []) (rest := [.int u1277.1]) hcf (c_X7_tear l dC dI cI cJ cQ fu a_m _  s_m  v hv) (cwV 0 hts gL_law_X7_tear rfl rfl rfl cd_X7_tear ⟨(Nat.le_of_ble_eq_true rfl), (Nat.le_of_ble_eq_true rfl)⟩) (cq_U_V (q0 := 50) (ci := 6) hK hP hD [50, 51, 52, 53, 54, 55, 56, 57, 58, 59, 60, 61] rfl rfl rfl rfl) rfl rfl hl.1 rfl (lv_room (Nat.le_of_ble_eq_true rfl)) dL_law_1281 ⟨(Nat.le_of_ble_eq_true rfl), (Nat.le_of_ble_eq_true rfl)⟩) (fun u1281 hd H locs hP hD hS => ?_)
          refine rx_icmp_eq hx hb 1335 dL_law_1284 rfl hd (fun hd => ?_) (fun hd => ?_)
          · refine rx_iinc (lv' := fun z => (3, .int z) :: [(0, .ref b), (1, .ref (a_g 0)), (2, .ref (a_m 0))]) hx hb (j := 3) dL_law_1335 hl rfl ki_6 hd (Nat.le_of_ble_eq_true rfl) (fun _ => rfl) (fun x3_1335 hd ls hl => ?_)
            refine lv_goto (tgt := 18) hx hb dL_law_1338 rfl ?_
            exact k18 u1277.2 s_o s_h s_q s_k s_p s_z s_s u1281.2 x3_1335 hd _ _ _ hP hD hS (lv_sub hl [1, 2, 3, 0] rfl)
          refine lv_iconst (v := 0) hx hb dL_law_1287 ki_0 ?_
          exact absurd (Option.some.inj hd) (by decide)
        refine rx_tab hx hb (36 : Int32) (36) rfl 1289 dL_law_33 (by decide) (by decide) rfl rfl hd (fun hd => ?_) (fun n_36 hd => ?_)
        · refine lv_aload_n hx hb dL_law_1289 rfl (lv_at hl 1 rfl) ?_
          refine lv_aload_n hx hb dL_law_1290 rfl (lv_at hl 0 rfl) ?_
          refine lv_iload_n hx hb dL_law_1291 rfl (lv_at hl 3 rfl) ?_
          refine lv_iconst (v := 1) hx hb dL_law_1292 ki_1 ?_
          refine lv_iadd hx hb dL_law_1293 ?_
          refine rx_sld hx hb hX hbl hbA hS hd dL_law_1294 (fun v1294 hd => ?_)
          refine rx_upi (fun u => (wGO a_g a_h a_q a_k a_p a_x a_s s_g ++ (wGT cI a_g u ++ (wP cI cJ a_h s_h ++ (wP cI cJ a_q s_q ++ (wP cI cJ a_k s_k ++ (wTP cI cJ a_p s_p ++ (wTX a_x a_z ++ (wTK cI cJ a_z s_z ++ (wSH cJ cQ a_s s_s ++ (wM cI cJ a_m s_m))))))))))) hd hP hD hS hA ⟨[0, 1, 2, 3, 4, 5, 6, 7, 8, 9, 10, 11, 32, 33], [12, 13, 14, 15, 16, 17, 18, 19, 20, 21, 22, 23, 24, 25, 26, 27, 28, 29, 30, 31, 34, 35, 36, 37, 38, 39, 40, 41, 42, 43, 44, 45, 46, 47, 48, 49, 50, 51, 52, 53, 54, 55, 56, 57, 58, 59, 60, 61], [48, 49, 50, 51, 52, 53, 54, 55, 56, 57, 58, 59, 0, 1, 2, 3, 4, 5, 6, 7, 8, 9, 10, 11, 12, 13, 14, 15, 16, 17, 18, 19, 60, 61, 20, 21, 22, 23, 24, 25, 26, 27, 28, 29, 30, 31, 32, 33, 34, 35, 36, 37, 38, 39, 40, 41, 42, 43, 44, 45, 46, 47], wP cI cJ a_q s_q ++ (wP cI cJ a_k s_k ++ (wTX a_x a_z ++ (wTK cI cJ a_z s_z ++ (wSH cJ cQ a_s s_s ++ (wM cI cJ a_m s_m))))), rfl, rfl, rfl, by decide, rfl, fun _ => rfl⟩ (fun v hv => va_runV (As := [.int v1294]) (rest := []) hcf (c_X6_count l dC dI cI cJ cQ fu a_g a_h a_q a_k a_p a_x a_s _  s_g s_o s_h s_p v1294 v hv) (cwV 1 hts gL_law_X6_count rfl rfl rfl cd_X6_count ⟨(Nat.le_of_ble_eq_true rfl), (Nat.le_of_ble_eq_true rfl)⟩) (cq_U_V (q0 := 0) (ci := 5) hK hP hD [0, 1, 2, 3, 4, 5, 6, 7, 8, 9, 10, 11, 32, 33] rfl rfl rfl rfl) rfl rfl hl.1 rfl (lv_room (Nat.le_of_ble_eq_true rfl)) dL_law_1295 ⟨(Nat.le_of_ble_eq_true rfl), (Nat.le_of_ble_eq_true rfl)⟩) (fun u1295 hd H locs hP hD hS => ?_)
          refine lv_aload_n hx hb dL_law_1298 rfl (lv_at hl 2 rfl) ?_
          refine lv_aload_n hx hb dL_law_1299 rfl (lv_at hl 0 rfl) ?_
          refine lv_iload_n hx hb dL_law_1300 rfl (lv_at hl 3 rfl) ?_
          refine lv_iconst (v := 1) hx hb dL_law_1301 ki_1 ?_
          refine lv_iadd hx hb dL_law_1302 ?_
          refine rx_sld hx hb hX hbl hbA hS hd dL_law_1303 (fun v1303 hd => ?_)
          refine rx_upi (fun u => (wGO a_g a_h a_q a_k a_p a_x a_s s_g ++ (wGT cI a_g u1295.2 ++ (wP cI cJ a_h s_h ++ (wP cI cJ a_q s_q ++ (wP cI cJ a_k s_k ++ (wTP cI cJ a_p s_p ++ (wTX a_x a_z ++ (wTK cI cJ a_z s_z ++ (wSH cJ cQ a_s s_s ++ (wM cI cJ a_m u))))))))))) hd hP hD hS hA ⟨[50, 51, 52, 53, 54, 55, 56, 57, 58, 59, 60, 61], [0, 1, 2, 3, 4, 5, 6, 7, 8, 9, 10, 11, 12, 13, 14, 15, 16, 17, 18, 19, 20, 21, 22, 23, 24, 25, 26, 27, 28, 29, 30, 31, 32, 33, 34, 35, 36, 37, 38, 39, 40, 41, 42, 43, 44, 45, 46, 47, 48, 49], [0, 1, 2, 3, 4, 5, 6, 7, 8, 9, 10, 11, 12, 13, 14, 15, 16, 17, 18, 19, 20, 21, 22, 23, 24, 25, 26, 27, 28, 29, 30, 31, 32, 33, 34, 35, 36, 37, 38, 39, 40, 41, 42, 43, 44, 45, 46, 47, 48, 49, 50, 51, 52, 53, 54, 55, 56, 57, 58, 59, 60, 61], wGO a_g a_h a_q a_k a_p a_x a_s s_g ++ (wGT cI a_g u1295.2 ++ (wP cI cJ a_h s_h ++ (wP cI cJ a_q s_q ++ (wP cI cJ a_k s_k ++ (wTP cI cJ a_p s_p ++ (wTX a_x a_z ++ (wTK cI cJ a_z s_z ++ (wSH cJ cQ a_s s_s)))))))), rfl, rfl, rfl, by decide, rfl, fun _ => rfl⟩ (fun v hv => va_runV (As := [.int v1303]) (rest := [.int u1295.1]) hcf (c_X7_count l dC dI cI cJ cQ fu a_m _  s_m v1303 v hv) (cwV 1 hts gL_law_X7_count rfl rfl rfl cd_X7_count ⟨(Nat.le_of_ble_eq_true rfl), (Nat.le_of_ble_eq_true rfl)⟩) (cq_U_V (q0 := 50) (ci := 6) hK hP hD [50, 51, 52, 53, 54, 55, 56, 57, 58, 59, 60, 61] rfl rfl rfl rfl) rfl rfl hl.1 rfl (lv_room (Nat.le_of_ble_eq_true rfl)) dL_law_1304 ⟨(Nat.le_of_ble_eq_true rfl), (Nat.le_of_ble_eq_true rfl)⟩) (fun u1304 hd H locs hP hD hS => ?_)
          refine rx_icmp_eq hx hb 1335 dL_law_1307 rfl hd (fun hd => ?_) (fun hd => ?_)
          · refine rx_iinc (lv' := fun z => (3, .int z) :: [(0, .ref b), (1, .ref (a_g 0)), (2, .ref (a_m 0))]) hx hb (j := 3) dL_law_1335 hl rfl ki_6 hd (Nat.le_of_ble_eq_true rfl) (fun _ => rfl) (fun x3_1335 hd ls hl => ?_)
            refine lv_goto (tgt := 18) hx hb dL_law_1338 rfl ?_
            exact k18 s_g u1295.2 s_h s_q s_k s_p s_z s_s u1304.2 x3_1335 hd _ _ _ hP hD hS (lv_sub hl [1, 2, 3, 0] rfl)
          refine lv_iconst (v := 0) hx hb dL_law_1310 ki_0 ?_
          exact absurd (Option.some.inj hd) (by decide)
        refine rx_tab hx hb (37 : Int32) (37) rfl 1312 dL_law_33 (by decide) (by decide) rfl rfl hd (fun hd => ?_) (fun n_37 hd => ?_)
        · refine lv_aload_n hx hb dL_law_1312 rfl (lv_at hl 1 rfl) ?_
          refine lv_aload_n hx hb dL_law_1313 rfl (lv_at hl 0 rfl) ?_
          refine lv_iload_n hx hb dL_law_1314 rfl (lv_at hl 3 rfl) ?_
          refine lv_iconst (v := 1) hx hb dL_law_1315 ki_1 ?_
          refine lv_iadd hx hb dL_law_1316 ?_
          refine rx_sld hx hb hX hbl hbA hS hd dL_law_1317 (fun v1317 hd => ?_)
          refine rx_upi (fun u => (wGO a_g a_h a_q a_k a_p a_x a_s s_g ++ (wGT cI a_g u ++ (wP cI cJ a_h s_h ++ (wP cI cJ a_q s_q ++ (wP cI cJ a_k s_k ++ (wTP cI cJ a_p s_p ++ (wTX a_x a_z ++ (wTK cI cJ a_z s_z ++ (wSH cJ cQ a_s s_s ++ (wM cI cJ a_m s_m))))))))))) hd hP hD hS hA ⟨[0, 1], [2, 3, 4, 5, 6, 7, 8, 9, 10, 11, 12, 13, 14, 15, 16, 17, 18, 19, 20, 21, 22, 23, 24, 25, 26, 27, 28, 29, 30, 31, 32, 33, 34, 35, 36, 37, 38, 39, 40, 41, 42, 43, 44, 45, 46, 47, 48, 49, 50, 51, 52, 53, 54, 55, 56, 57, 58, 59, 60, 61], [60, 61, 0, 1, 2, 3, 4, 5, 6, 7, 8, 9, 10, 11, 12, 13, 14, 15, 16, 17, 18, 19, 20, 21, 22, 23, 24, 25, 26, 27, 28, 29, 30, 31, 32, 33, 34, 35, 36, 37, 38, 39, 40, 41, 42, 43, 44, 45, 46, 47, 48, 49, 50, 51, 52, 53, 54, 55, 56, 57, 58, 59], wP cI cJ a_h s_h ++ (wP cI cJ a_q s_q ++ (wP cI cJ a_k s_k ++ (wTP cI cJ a_p s_p ++ (wTX a_x a_z ++ (wTK cI cJ a_z s_z ++ (wSH cJ cQ a_s s_s ++ (wM cI cJ a_m s_m))))))), rfl, rfl, rfl, by decide, rfl, fun _ => rfl⟩ (fun v hv => va_runV (As := [.int v1317]) (rest := []) hcf (c_X6_status l dC dI cI cJ cQ fu a_g a_h a_q a_k a_p a_x a_s _  s_g s_o v1317 v hv) (cwV 1 hts gL_law_X6_status rfl rfl rfl cd_X6_status ⟨(Nat.le_of_ble_eq_true rfl), (Nat.le_of_ble_eq_true rfl)⟩) (cq_U_V (q0 := 0) (ci := 5) hK hP hD [0, 1] rfl rfl rfl rfl) rfl rfl hl.1 rfl (lv_room (Nat.le_of_ble_eq_true rfl)) dL_law_1318 ⟨(Nat.le_of_ble_eq_true rfl), (Nat.le_of_ble_eq_true rfl)⟩) (fun u1318 hd H locs hP hD hS => ?_)
          refine lv_aload_n hx hb dL_law_1321 rfl (lv_at hl 2 rfl) ?_
          refine lv_aload_n hx hb dL_law_1322 rfl (lv_at hl 0 rfl) ?_
          refine lv_iload_n hx hb dL_law_1323 rfl (lv_at hl 3 rfl) ?_
          refine lv_iconst (v := 1) hx hb dL_law_1324 ki_1 ?_
          refine lv_iadd hx hb dL_law_1325 ?_
          refine rx_sld hx hb hX hbl hbA hS hd dL_law_1326 (fun v1326 hd => ?_)
          refine rx_upi (fun u => (wGO a_g a_h a_q a_k a_p a_x a_s s_g ++ (wGT cI a_g u1318.2 ++ (wP cI cJ a_h s_h ++ (wP cI cJ a_q s_q ++ (wP cI cJ a_k s_k ++ (wTP cI cJ a_p s_p ++ (wTX a_x a_z ++ (wTK cI cJ a_z s_z ++ (wSH cJ cQ a_s s_s ++ (wM cI cJ a_m u))))))))))) hd hP hD hS hA ⟨[50, 51, 52, 53, 54, 55, 56, 57, 58, 59, 60, 61], [0, 1, 2, 3, 4, 5, 6, 7, 8, 9, 10, 11, 12, 13, 14, 15, 16, 17, 18, 19, 20, 21, 22, 23, 24, 25, 26, 27, 28, 29, 30, 31, 32, 33, 34, 35, 36, 37, 38, 39, 40, 41, 42, 43, 44, 45, 46, 47, 48, 49], [0, 1, 2, 3, 4, 5, 6, 7, 8, 9, 10, 11, 12, 13, 14, 15, 16, 17, 18, 19, 20, 21, 22, 23, 24, 25, 26, 27, 28, 29, 30, 31, 32, 33, 34, 35, 36, 37, 38, 39, 40, 41, 42, 43, 44, 45, 46, 47, 48, 49, 50, 51, 52, 53, 54, 55, 56, 57, 58, 59, 60, 61], wGO a_g a_h a_q a_k a_p a_x a_s s_g ++ (wGT cI a_g u1318.2 ++ (wP cI cJ a_h s_h ++ (wP cI cJ a_q s_q ++ (wP cI cJ a_k s_k ++ (wTP cI cJ a_p s_p ++ (wTX a_x a_z ++ (wTK cI cJ a_z s_z ++ (wSH cJ cQ a_s s_s)))))))), rfl, rfl, rfl, by decide, rfl, fun _ => rfl⟩ (fun v hv => va_runV (As := [.int v1326]) (rest := [.int u1318.1]) hcf (c_X7_status l dC dI cI cJ cQ fu a_m _  s_m v1326 v hv) (cwV 1 hts gL_law_X7_status rfl rfl rfl cd_X7_status ⟨(Nat.le_of_ble_eq_true rfl), (Nat.le_of_ble_eq_true rfl)⟩) (cq_U_V (q0 := 50) (ci := 6) hK hP hD [50, 51, 52, 53, 54, 55, 56, 57, 58, 59, 60, 61] rfl rfl rfl rfl) rfl rfl hl.1 rfl (lv_room (Nat.le_of_ble_eq_true rfl)) dL_law_1327 ⟨(Nat.le_of_ble_eq_true rfl), (Nat.le_of_ble_eq_true rfl)⟩) (fun u1327 hd H locs hP hD hS => ?_)
          refine rx_icmp_eq hx hb 1335 dL_law_1330 rfl hd (fun hd => ?_) (fun hd => ?_)
          · refine rx_iinc (lv' := fun z => (3, .int z) :: [(0, .ref b), (1, .ref (a_g 0)), (2, .ref (a_m 0))]) hx hb (j := 3) dL_law_1335 hl rfl ki_6 hd (Nat.le_of_ble_eq_true rfl) (fun _ => rfl) (fun x3_1335 hd ls hl => ?_)
            refine lv_goto (tgt := 18) hx hb dL_law_1338 rfl ?_
            exact k18 s_g u1318.2 s_h s_q s_k s_p s_z s_s u1327.2 x3_1335 hd _ _ _ hP hD hS (lv_sub hl [1, 2, 3, 0] rfl)
          refine lv_iconst (v := 0) hx hb dL_law_1333 ki_0 ?_
          exact absurd (Option.some.inj hd) (by decide)
        refine lv_tableOut (tgt := 1335) hx hb dL_law_33 (by omega) rfl ?_
        refine rx_iinc (lv' := fun z => (3, .int z) :: [(0, .ref b), (1, .ref (a_g 0)), (2, .ref (a_m 0))]) hx hb (j := 3) dL_law_1335 hl rfl ki_6 hd (Nat.le_of_ble_eq_true rfl) (fun _ => rfl) (fun x3_1335 hd ls hl => ?_)
        refine lv_goto (tgt := 18) hx hb dL_law_1338 rfl ?_
        exact k18 s_g s_o s_h s_q s_k s_p s_z s_s s_m x3_1335 hd _ _ _ hP hD hS (lv_sub hl [1, 2, 3, 0] rfl)
    exact fun s_g s_o s_h s_q s_k s_p s_z s_s s_m x3 => L fu s_g s_o s_h s_q s_k s_p s_z s_s s_m x3
  exact b18
