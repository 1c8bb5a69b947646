/-! the law says 1 of every script -/
theorem law_lt {L i : Nat} (hL : L ≤ 3072) (hi : i ≤ 3072) : (Int32.ofNat L - (6 : Int32) < nI i) ↔ L < i + 6 := by
  rw [Int32.lt_iff_toInt_lt, show Int32.ofNat L - (6 : Int32) = nI L - nI 6 from rfl, pk_sub_toInt (by omega) (by omega), nI_toInt (by omega)]
  omega
theorem law_c0 {fu : Nat} (hF : 5000 ≤ fu) {L : Nat} {xs : Nat → Int32} (hL : L ≤ 3072) {i : Nat} (hi : i + 6 ≤ L) {g : Int32} {o : SS} {h k : PS} {p : TPS} {s : SHS} {t : MS} (hJ : JJ g o h k p s t) (q : PS) (z : TKS) (K : Int32 → (Nat → Int32) → PS → PS → PS → TPS → TKS → SHS → MS → Int32 → Option Int32) (hK : ∀ (g : Int32) (o : SS) (h q k : PS) (p : TPS) (z : TKS) (s : SHS) (t : MS), JJ g o h k p s t → K g o h q k p z s t (nI (i + 6)) = some 1) : (g_ald xs L ((nI i) + (1 : Int32)) (fun v205 => g_ald xs L ((nI i) + (2 : Int32)) (fun v210 => g_ald xs L ((nI i) + (3 : Int32)) (fun v215 => g_bnd (fX6_farm fu  g o h v205 v210 v215) (fun u216 => g_ald xs L ((nI i) + (1 : Int32)) (fun v224 => g_ald xs L ((nI i) + (2 : Int32)) (fun v229 => g_ald xs L ((nI i) + (3 : Int32)) (fun v234 => g_bnd (fX7_farm fu  t v224 v229 v234) (fun u235 => if u216.1 = u235.1 then (g_nm ((nI i) + (6 : Int32)) (fun x3_1335 => K g u216.2.1 u216.2.2 q k p z s u235.2 x3_1335)) else (some (0 : Int32))))))))))) = some 1 := by
  obtain ⟨r, o', h', t', e1, e2, e3⟩ := pr_farm (fu := fu) hJ (xs (i + 1)) (xs (i + 2)) (xs (i + 3))
  rw [show nI i + (1 : Int32) = nI (i + 1) from nI_add i 1, ald_nI (k := i + 1) (by omega) (by omega), show nI i + (2 : Int32) = nI (i + 2) from nI_add i 2, ald_nI (k := i + 2) (by omega) (by omega), show nI i + (3 : Int32) = nI (i + 3) from nI_add i 3, ald_nI (k := i + 3) (by omega) (by omega), e1, bnd_s, ald_nI (k := i + 1) (by omega) (by omega), ald_nI (k := i + 2) (by omega) (by omega), ald_nI (k := i + 3) (by omega) (by omega), e2, bnd_s]
  rw [if_pos rfl, nm_s, show nI i + (6 : Int32) = nI (i + 6) from nI_add i 6]
  exact hK _ _ _ _ _ _ _ _ _ e3
theorem law_c1 {fu : Nat} (hF : 5000 ≤ fu) {L : Nat} {xs : Nat → Int32} (hL : L ≤ 3072) {i : Nat} (hi : i + 6 ≤ L) {g : Int32} {o : SS} {h k : PS} {p : TPS} {s : SHS} {t : MS} (hJ : JJ g o h k p s t) (q : PS) (z : TKS) (K : Int32 → (Nat → Int32) → PS → PS → PS → TPS → TKS → SHS → MS → Int32 → Option Int32) (hK : ∀ (g : Int32) (o : SS) (h q k : PS) (p : TPS) (z : TKS) (s : SHS) (t : MS), JJ g o h k p s t → K g o h q k p z s t (nI (i + 6)) = some 1) : (g_ald xs L ((nI i) + (1 : Int32)) (fun v248 => g_ald xs L ((nI i) + (2 : Int32)) (fun v253 => g_bnd (fX6_farmOf fu  g o h v248 v253) (fun u254 => g_ald xs L ((nI i) + (1 : Int32)) (fun v262 => g_ald xs L ((nI i) + (2 : Int32)) (fun v267 => g_bnd (fX7_farmOf fu  t v262 v267) (fun u268 => if u254.1 = u268.1 then (g_nm ((nI i) + (6 : Int32)) (fun x3_1335 => K g u254.2 h q k p z s u268.2 x3_1335)) else (some (0 : Int32))))))))) = some 1 := by
  obtain ⟨r, o', t', e1, e2, e3⟩ := pr_farmOf (fu := fu) hJ (xs (i + 1)) (xs (i + 2))
  rw [show nI i + (1 : Int32) = nI (i + 1) from nI_add i 1, ald_nI (k := i + 1) (by omega) (by omega), show nI i + (2 : Int32) = nI (i + 2) from nI_add i 2, ald_nI (k := i + 2) (by omega) (by omega), e1, bnd_s, ald_nI (k := i + 1) (by omega) (by omega), ald_nI (k := i + 2) (by omega) (by omega), e2, bnd_s]
  rw [if_pos rfl, nm_s, show nI i + (6 : Int32) = nI (i + 6) from nI_add i 6]
  exact hK _ _ _ _ _ _ _ _ _ e3
theorem law_c2 {fu : Nat} (hF : 5000 ≤ fu) {L : Nat} {xs : Nat → Int32} (hL : L ≤ 3072) {i : Nat} (hi : i + 6 ≤ L) {g : Int32} {o : SS} {h k : PS} {p : TPS} {s : SHS} {t : MS} (hJ : JJ g o h k p s t) (q : PS) (z : TKS) (K : Int32 → (Nat → Int32) → PS → PS → PS → TPS → TKS → SHS → MS → Int32 → Option Int32) (hK : ∀ (g : Int32) (o : SS) (h q k : PS) (p : TPS) (z : TKS) (s : SHS) (t : MS), JJ g o h k p s t → K g o h q k p z s t (nI (i + 6)) = some 1) : (g_ald xs L ((nI i) + (1 : Int32)) (fun v281 => g_ald xs L ((nI i) + (2 : Int32)) (fun v286 => g_bnd (fX6_water fu  g o h v281 v286) (fun u287 => g_ald xs L ((nI i) + (1 : Int32)) (fun v295 => g_ald xs L ((nI i) + (2 : Int32)) (fun v300 => g_bnd (fX7_water fu  t v295 v300) (fun u301 => if u287.1 = u301.1 then (g_nm ((nI i) + (6 : Int32)) (fun x3_1335 => K g u287.2.1 u287.2.2 q k p z s u301.2 x3_1335)) else (some (0 : Int32))))))))) = some 1 := by
  obtain ⟨r, o', h', t', e1, e2, e3⟩ := pr_water (fu := fu) hJ (xs (i + 1)) (xs (i + 2))
  rw [show nI i + (1 : Int32) = nI (i + 1) from nI_add i 1, ald_nI (k := i + 1) (by omega) (by omega), show nI i + (2 : Int32) = nI (i + 2) from nI_add i 2, ald_nI (k := i + 2) (by omega) (by omega), e1, bnd_s, ald_nI (k := i + 1) (by omega) (by omega), ald_nI (k := i + 2) (by omega) (by omega), e2, bnd_s]
  rw [if_pos rfl, nm_s, show nI i + (6 : Int32) = nI (i + 6) from nI_add i 6]
  exact hK _ _ _ _ _ _ _ _ _ e3
theorem law_c3 {fu : Nat} (hF : 5000 ≤ fu) {L : Nat} {xs : Nat → Int32} (hL : L ≤ 3072) {i : Nat} (hi : i + 6 ≤ L) {g : Int32} {o : SS} {h k : PS} {p : TPS} {s : SHS} {t : MS} (hJ : JJ g o h k p s t) (q : PS) (z : TKS) (K : Int32 → (Nat → Int32) → PS → PS → PS → TPS → TKS → SHS → MS → Int32 → Option Int32) (hK : ∀ (g : Int32) (o : SS) (h q k : PS) (p : TPS) (z : TKS) (s : SHS) (t : MS), JJ g o h k p s t → K g o h q k p z s t (nI (i + 6)) = some 1) : (g_ald xs L ((nI i) + (1 : Int32)) (fun v314 => g_bnd (fX6_person fu  g o h v314) (fun u315 => g_ald xs L ((nI i) + (1 : Int32)) (fun v323 => g_bnd (fX7_person fu  t v323) (fun u324 => if u315.1 = u324.1 then (g_nm ((nI i) + (6 : Int32)) (fun x3_1335 => K g u315.2.1 u315.2.2 q k p z s u324.2 x3_1335)) else (some (0 : Int32))))))) = some 1 := by
  obtain ⟨r, o', h', t', e1, e2, e3⟩ := pr_person (fu := fu) hJ (xs (i + 1))
  rw [show nI i + (1 : Int32) = nI (i + 1) from nI_add i 1, ald_nI (k := i + 1) (by omega) (by omega), e1, bnd_s, ald_nI (k := i + 1) (by omega) (by omega), e2, bnd_s]
  rw [if_pos rfl, nm_s, show nI i + (6 : Int32) = nI (i + 6) from nI_add i 6]
  exact hK _ _ _ _ _ _ _ _ _ e3
theorem law_c4 {fu : Nat} (hF : 5000 ≤ fu) {L : Nat} {xs : Nat → Int32} (hL : L ≤ 3072) {i : Nat} (hi : i + 6 ≤ L) {g : Int32} {o : SS} {h k : PS} {p : TPS} {s : SHS} {t : MS} (hJ : JJ g o h k p s t) (q : PS) (z : TKS) (K : Int32 → (Nat → Int32) → PS → PS → PS → TPS → TKS → SHS → MS → Int32 → Option Int32) (hK : ∀ (g : Int32) (o : SS) (h q k : PS) (p : TPS) (z : TKS) (s : SHS) (t : MS), JJ g o h k p s t → K g o h q k p z s t (nI (i + 6)) = some 1) : (g_ald xs L ((nI i) + (1 : Int32)) (fun v337 => g_ald xs L ((nI i) + (2 : Int32)) (fun v342 => g_bnd (fX6_of fu  g o h v337 v342) (fun u343 => g_ald xs L ((nI i) + (1 : Int32)) (fun v351 => g_ald xs L ((nI i) + (2 : Int32)) (fun v356 => g_bnd (fX7_of fu  t v351 v356) (fun u357 => if u343.1 = u357.1 then (g_nm ((nI i) + (6 : Int32)) (fun x3_1335 => K g u343.2 h q k p z s u357.2 x3_1335)) else (some (0 : Int32))))))))) = some 1 := by
  obtain ⟨r, o', t', e1, e2, e3⟩ := pr_of (fu := fu) (by omega) hJ (xs (i + 1)) (xs (i + 2))
  rw [show nI i + (1 : Int32) = nI (i + 1) from nI_add i 1, ald_nI (k := i + 1) (by omega) (by omega), show nI i + (2 : Int32) = nI (i + 2) from nI_add i 2, ald_nI (k := i + 2) (by omega) (by omega), e1, bnd_s, ald_nI (k := i + 1) (by omega) (by omega), ald_nI (k := i + 2) (by omega) (by omega), e2, bnd_s]
  rw [if_pos rfl, nm_s, show nI i + (6 : Int32) = nI (i + 6) from nI_add i 6]
  exact hK _ _ _ _ _ _ _ _ _ e3
theorem law_c5 {fu : Nat} (hF : 5000 ≤ fu) {L : Nat} {xs : Nat → Int32} (hL : L ≤ 3072) {i : Nat} (hi : i + 6 ≤ L) {g : Int32} {o : SS} {h k : PS} {p : TPS} {s : SHS} {t : MS} (hJ : JJ g o h k p s t) (q : PS) (z : TKS) (K : Int32 → (Nat → Int32) → PS → PS → PS → TPS → TKS → SHS → MS → Int32 → Option Int32) (hK : ∀ (g : Int32) (o : SS) (h q k : PS) (p : TPS) (z : TKS) (s : SHS) (t : MS), JJ g o h k p s t → K g o h q k p z s t (nI (i + 6)) = some 1) : (g_ald xs L ((nI i) + (1 : Int32)) (fun v370 => g_ald xs L ((nI i) + (2 : Int32)) (fun v375 => g_ald xs L ((nI i) + (3 : Int32)) (fun v380 => g_bnd (fX6_set fu  g o h v370 v375 v380) (fun u381 => g_ald xs L ((nI i) + (1 : Int32)) (fun v389 => g_ald xs L ((nI i) + (2 : Int32)) (fun v394 => g_ald xs L ((nI i) + (3 : Int32)) (fun v399 => g_bnd (fX7_set fu  t v389 v394 v399) (fun u400 => if u381.1 = u400.1 then (g_nm ((nI i) + (6 : Int32)) (fun x3_1335 => K g u381.2.1 u381.2.2 q k p z s u400.2 x3_1335)) else (some (0 : Int32))))))))))) = some 1 := by
  obtain ⟨r, o', h', t', e1, e2, e3⟩ := pr_set (fu := fu) hJ (xs (i + 1)) (xs (i + 2)) (xs (i + 3))
  rw [show nI i + (1 : Int32) = nI (i + 1) from nI_add i 1, ald_nI (k := i + 1) (by omega) (by omega), show nI i + (2 : Int32) = nI (i + 2) from nI_add i 2, ald_nI (k := i + 2) (by omega) (by omega), show nI i + (3 : Int32) = nI (i + 3) from nI_add i 3, ald_nI (k := i + 3) (by omega) (by omega), e1, bnd_s, ald_nI (k := i + 1) (by omega) (by omega), ald_nI (k := i + 2) (by omega) (by omega), ald_nI (k := i + 3) (by omega) (by omega), e2, bnd_s]
  rw [if_pos rfl, nm_s, show nI i + (6 : Int32) = nI (i + 6) from nI_add i 6]
  exact hK _ _ _ _ _ _ _ _ _ e3
theorem law_c6 {fu : Nat} (hF : 5000 ≤ fu) {L : Nat} {xs : Nat → Int32} (hL : L ≤ 3072) {i : Nat} (hi : i + 6 ≤ L) {g : Int32} {o : SS} {h k : PS} {p : TPS} {s : SHS} {t : MS} (hJ : JJ g o h k p s t) (q : PS) (z : TKS) (K : Int32 → (Nat → Int32) → PS → PS → PS → TPS → TKS → SHS → MS → Int32 → Option Int32) (hK : ∀ (g : Int32) (o : SS) (h q k : PS) (p : TPS) (z : TKS) (s : SHS) (t : MS), JJ g o h k p s t → K g o h q k p z s t (nI (i + 6)) = some 1) : (g_ald xs L ((nI i) + (1 : Int32)) (fun v413 => g_ald xs L ((nI i) + (2 : Int32)) (fun v418 => g_bnd (fX6_turn fu  g o h v413 v418) (fun u419 => g_ald xs L ((nI i) + (1 : Int32)) (fun v427 => g_ald xs L ((nI i) + (2 : Int32)) (fun v432 => g_bnd (fX7_turn fu  t v427 v432) (fun u433 => if u419.1 = u433.1 then (g_nm ((nI i) + (6 : Int32)) (fun x3_1335 => K g u419.2.1 u419.2.2 q k p z s u433.2 x3_1335)) else (some (0 : Int32))))))))) = some 1 := by
  obtain ⟨r, o', h', t', e1, e2, e3⟩ := pr_turn (fu := fu) hJ (xs (i + 1)) (xs (i + 2))
  rw [show nI i + (1 : Int32) = nI (i + 1) from nI_add i 1, ald_nI (k := i + 1) (by omega) (by omega), show nI i + (2 : Int32) = nI (i + 2) from nI_add i 2, ald_nI (k := i + 2) (by omega) (by omega), e1, bnd_s, ald_nI (k := i + 1) (by omega) (by omega), ald_nI (k := i + 2) (by omega) (by omega), e2, bnd_s]
  rw [if_pos rfl, nm_s, show nI i + (6 : Int32) = nI (i + 6) from nI_add i 6]
  exact hK _ _ _ _ _ _ _ _ _ e3
theorem law_c7 {fu : Nat} (hF : 5000 ≤ fu) {L : Nat} {xs : Nat → Int32} (hL : L ≤ 3072) {i : Nat} (hi : i + 6 ≤ L) {g : Int32} {o : SS} {h k : PS} {p : TPS} {s : SHS} {t : MS} (hJ : JJ g o h k p s t) (q : PS) (z : TKS) (K : Int32 → (Nat → Int32) → PS → PS → PS → TPS → TKS → SHS → MS → Int32 → Option Int32) (hK : ∀ (g : Int32) (o : SS) (h q k : PS) (p : TPS) (z : TKS) (s : SHS) (t : MS), JJ g o h k p s t → K g o h q k p z s t (nI (i + 6)) = some 1) : (g_ald xs L ((nI i) + (1 : Int32)) (fun v446 => g_ald xs L ((nI i) + (2 : Int32)) (fun v451 => g_bnd (fX6_as fu  g o h v446 v451) (fun u452 => g_ald xs L ((nI i) + (1 : Int32)) (fun v460 => g_ald xs L ((nI i) + (2 : Int32)) (fun v465 => g_bnd (fX7_as fu  t v460 v465) (fun u466 => if u452.1 = u466.1 then (g_nm ((nI i) + (6 : Int32)) (fun x3_1335 => K g u452.2 h q k p z s u466.2 x3_1335)) else (some (0 : Int32))))))))) = some 1 := by
  obtain ⟨r, o', t', e1, e2, e3⟩ := pr_as (fu := fu) (by omega) hJ (xs (i + 1)) (xs (i + 2))
  rw [show nI i + (1 : Int32) = nI (i + 1) from nI_add i 1, ald_nI (k := i + 1) (by omega) (by omega), show nI i + (2 : Int32) = nI (i + 2) from nI_add i 2, ald_nI (k := i + 2) (by omega) (by omega), e1, bnd_s, ald_nI (k := i + 1) (by omega) (by omega), ald_nI (k := i + 2) (by omega) (by omega), e2, bnd_s]
  rw [if_pos rfl, nm_s, show nI i + (6 : Int32) = nI (i + 6) from nI_add i 6]
  exact hK _ _ _ _ _ _ _ _ _ e3
theorem law_c8 {fu : Nat} (hF : 5000 ≤ fu) {L : Nat} {xs : Nat → Int32} (hL : L ≤ 3072) {i : Nat} (hi : i + 6 ≤ L) {g : Int32} {o : SS} {h k : PS} {p : TPS} {s : SHS} {t : MS} (hJ : JJ g o h k p s t) (q : PS) (z : TKS) (K : Int32 → (Nat → Int32) → PS → PS → PS → TPS → TKS → SHS → MS → Int32 → Option Int32) (hK : ∀ (g : Int32) (o : SS) (h q k : PS) (p : TPS) (z : TKS) (s : SHS) (t : MS), JJ g o h k p s t → K g o h q k p z s t (nI (i + 6)) = some 1) : (g_ald xs L ((nI i) + (1 : Int32)) (fun v479 => g_ald xs L ((nI i) + (2 : Int32)) (fun v484 => g_bnd (fX6_does fu  g o h v479 v484) (fun u485 => g_ald xs L ((nI i) + (1 : Int32)) (fun v493 => g_ald xs L ((nI i) + (2 : Int32)) (fun v498 => g_bnd (fX7_does fu  t v493 v498) (fun u499 => if u485.1 = u499.1 then (g_nm ((nI i) + (6 : Int32)) (fun x3_1335 => K g u485.2.1 u485.2.2 q k p z s u499.2 x3_1335)) else (some (0 : Int32))))))))) = some 1 := by
  obtain ⟨r, o', h', t', e1, e2, e3⟩ := pr_does (fu := fu) (by omega) hJ (xs (i + 1)) (xs (i + 2))
  rw [show nI i + (1 : Int32) = nI (i + 1) from nI_add i 1, ald_nI (k := i + 1) (by omega) (by omega), show nI i + (2 : Int32) = nI (i + 2) from nI_add i 2, ald_nI (k := i + 2) (by omega) (by omega), e1, bnd_s, ald_nI (k := i + 1) (by omega) (by omega), ald_nI (k := i + 2) (by omega) (by omega), e2, bnd_s]
  rw [if_pos rfl, nm_s, show nI i + (6 : Int32) = nI (i + 6) from nI_add i 6]
  exact hK _ _ _ _ _ _ _ _ _ e3
theorem law_c9 {fu : Nat} (hF : 5000 ≤ fu) {L : Nat} {xs : Nat → Int32} (hL : L ≤ 3072) {i : Nat} (hi : i + 6 ≤ L) {g : Int32} {o : SS} {h k : PS} {p : TPS} {s : SHS} {t : MS} (hJ : JJ g o h k p s t) (q : PS) (z : TKS) (K : Int32 → (Nat → Int32) → PS → PS → PS → TPS → TKS → SHS → MS → Int32 → Option Int32) (hK : ∀ (g : Int32) (o : SS) (h q k : PS) (p : TPS) (z : TKS) (s : SHS) (t : MS), JJ g o h k p s t → K g o h q k p z s t (nI (i + 6)) = some 1) : (g_ald xs L ((nI i) + (1 : Int32)) (fun v512 => g_ald xs L ((nI i) + (2 : Int32)) (fun v517 => g_bnd (fX6_pull fu  g o h v512 v517) (fun u518 => g_ald xs L ((nI i) + (1 : Int32)) (fun v526 => g_ald xs L ((nI i) + (2 : Int32)) (fun v531 => g_bnd (fX7_pull fu  t v526 v531) (fun u532 => if u518.1 = u532.1 then (g_nm ((nI i) + (6 : Int32)) (fun x3_1335 => K g u518.2.1 u518.2.2 q k p z s u532.2 x3_1335)) else (some (0 : Int32))))))))) = some 1 := by
  obtain ⟨r, o', h', t', e1, e2, e3⟩ := pr_pull (fu := fu) (by omega) hJ (xs (i + 1)) (xs (i + 2))
  rw [show nI i + (1 : Int32) = nI (i + 1) from nI_add i 1, ald_nI (k := i + 1) (by omega) (by omega), show nI i + (2 : Int32) = nI (i + 2) from nI_add i 2, ald_nI (k := i + 2) (by omega) (by omega), e1, bnd_s, ald_nI (k := i + 1) (by omega) (by omega), ald_nI (k := i + 2) (by omega) (by omega), e2, bnd_s]
  rw [if_pos rfl, nm_s, show nI i + (6 : Int32) = nI (i + 6) from nI_add i 6]
  exact hK _ _ _ _ _ _ _ _ _ e3
theorem law_c10 {fu : Nat} (hF : 5000 ≤ fu) {L : Nat} {xs : Nat → Int32} (hL : L ≤ 3072) {i : Nat} (hi : i + 6 ≤ L) {g : Int32} {o : SS} {h k : PS} {p : TPS} {s : SHS} {t : MS} (hJ : JJ g o h k p s t) (q : PS) (z : TKS) (K : Int32 → (Nat → Int32) → PS → PS → PS → TPS → TKS → SHS → MS → Int32 → Option Int32) (hK : ∀ (g : Int32) (o : SS) (h q k : PS) (p : TPS) (z : TKS) (s : SHS) (t : MS), JJ g o h k p s t → K g o h q k p z s t (nI (i + 6)) = some 1) : (g_ald xs L ((nI i) + (1 : Int32)) (fun v545 => g_bnd (fX6_days fu  g o h v545) (fun u546 => g_ald xs L ((nI i) + (1 : Int32)) (fun v554 => g_bnd (fX7_days fu  t v554) (fun u555 => if u546.1 = u555.1 then (g_nm ((nI i) + (6 : Int32)) (fun x3_1335 => K g u546.2.1 u546.2.2 q k p z s u555.2 x3_1335)) else (some (0 : Int32))))))) = some 1 := by
  obtain ⟨r, o', h', t', e1, e2, e3⟩ := pr_days (fu := fu) (by omega) hJ (xs (i + 1))
  rw [show nI i + (1 : Int32) = nI (i + 1) from nI_add i 1, ald_nI (k := i + 1) (by omega) (by omega), e1, bnd_s, ald_nI (k := i + 1) (by omega) (by omega), e2, bnd_s]
  rw [if_pos rfl, nm_s, show nI i + (6 : Int32) = nI (i + 6) from nI_add i 6]
  exact hK _ _ _ _ _ _ _ _ _ e3
theorem law_c11 {fu : Nat} (hF : 5000 ≤ fu) {L : Nat} {xs : Nat → Int32} (hL : L ≤ 3072) {i : Nat} (hi : i + 6 ≤ L) {g : Int32} {o : SS} {h k : PS} {p : TPS} {s : SHS} {t : MS} (hJ : JJ g o h k p s t) (q : PS) (z : TKS) (K : Int32 → (Nat → Int32) → PS → PS → PS → TPS → TKS → SHS → MS → Int32 → Option Int32) (hK : ∀ (g : Int32) (o : SS) (h q k : PS) (p : TPS) (z : TKS) (s : SHS) (t : MS), JJ g o h k p s t → K g o h q k p z s t (nI (i + 6)) = some 1) : (g_ald xs L ((nI i) + (1 : Int32)) (fun v568 => g_bnd (fX6_now fu  g o h v568) (fun u569 => g_ald xs L ((nI i) + (1 : Int32)) (fun v577 => g_bnd (fX7_now fu  t v577) (fun u578 => if u569.1 = u578.1 then (g_nm ((nI i) + (6 : Int32)) (fun x3_1335 => K g u569.2 h q k p z s u578.2 x3_1335)) else (some (0 : Int32))))))) = some 1 := by
  obtain ⟨r, o', t', e1, e2, e3⟩ := pr_now (fu := fu) (by omega) hJ (xs (i + 1))
  rw [show nI i + (1 : Int32) = nI (i + 1) from nI_add i 1, ald_nI (k := i + 1) (by omega) (by omega), e1, bnd_s, ald_nI (k := i + 1) (by omega) (by omega), e2, bnd_s]
  rw [if_pos rfl, nm_s, show nI i + (6 : Int32) = nI (i + 6) from nI_add i 6]
  exact hK _ _ _ _ _ _ _ _ _ e3
theorem law_c12 {fu : Nat} (hF : 5000 ≤ fu) {L : Nat} {xs : Nat → Int32} (hL : L ≤ 3072) {i : Nat} (hi : i + 6 ≤ L) {g : Int32} {o : SS} {h k : PS} {p : TPS} {s : SHS} {t : MS} (hJ : JJ g o h k p s t) (q : PS) (z : TKS) (K : Int32 → (Nat → Int32) → PS → PS → PS → TPS → TKS → SHS → MS → Int32 → Option Int32) (hK : ∀ (g : Int32) (o : SS) (h q k : PS) (p : TPS) (z : TKS) (s : SHS) (t : MS), JJ g o h k p s t → K g o h q k p z s t (nI (i + 6)) = some 1) : (g_ald xs L ((nI i) + (1 : Int32)) (fun v591 => g_ald xs L ((nI i) + (2 : Int32)) (fun v596 => g_ald xs L ((nI i) + (3 : Int32)) (fun v601 => g_bnd (fX6_on fu  g o h q v591 v596 v601) (fun u602 => g_ald xs L ((nI i) + (1 : Int32)) (fun v610 => g_ald xs L ((nI i) + (2 : Int32)) (fun v615 => g_ald xs L ((nI i) + (3 : Int32)) (fun v620 => g_bnd (fX7_on fu  t v610 v615 v620) (fun u621 => if u602.1 = u621.1 then (g_nm ((nI i) + (6 : Int32)) (fun x3_1335 => K g u602.2.1 h u602.2.2 k p z s u621.2 x3_1335)) else (some (0 : Int32))))))))))) = some 1 := by
  obtain ⟨r, o', q', t', e1, e2, e3⟩ := pr_on (fu := fu) (by omega) hJ q (xs (i + 1)) (xs (i + 2)) (xs (i + 3))
  rw [show nI i + (1 : Int32) = nI (i + 1) from nI_add i 1, ald_nI (k := i + 1) (by omega) (by omega), show nI i + (2 : Int32) = nI (i + 2) from nI_add i 2, ald_nI (k := i + 2) (by omega) (by omega), show nI i + (3 : Int32) = nI (i + 3) from nI_add i 3, ald_nI (k := i + 3) (by omega) (by omega), e1, bnd_s, ald_nI (k := i + 1) (by omega) (by omega), ald_nI (k := i + 2) (by omega) (by omega), ald_nI (k := i + 3) (by omega) (by omega), e2, bnd_s]
  rw [if_pos rfl, nm_s, show nI i + (6 : Int32) = nI (i + 6) from nI_add i 6]
  exact hK _ _ _ _ _ _ _ _ _ e3
theorem law_c13 {fu : Nat} (hF : 5000 ≤ fu) {L : Nat} {xs : Nat → Int32} (hL : L ≤ 3072) {i : Nat} (hi : i + 6 ≤ L) {g : Int32} {o : SS} {h k : PS} {p : TPS} {s : SHS} {t : MS} (hJ : JJ g o h k p s t) (q : PS) (z : TKS) (K : Int32 → (Nat → Int32) → PS → PS → PS → TPS → TKS → SHS → MS → Int32 → Option Int32) (hK : ∀ (g : Int32) (o : SS) (h q k : PS) (p : TPS) (z : TKS) (s : SHS) (t : MS), JJ g o h k p s t → K g o h q k p z s t (nI (i + 6)) = some 1) : (g_ald xs L ((nI i) + (1 : Int32)) (fun v634 => g_bnd (fX6_dry fu  g o h q v634) (fun u635 => g_ald xs L ((nI i) + (1 : Int32)) (fun v643 => g_bnd (fX7_dry fu  t v643) (fun u644 => if u635.1 = u644.1 then (g_nm ((nI i) + (6 : Int32)) (fun x3_1335 => K g u635.2.1 h u635.2.2 k p z s u644.2 x3_1335)) else (some (0 : Int32))))))) = some 1 := by
  obtain ⟨r, o', q', t', e1, e2, e3⟩ := pr_dry (fu := fu) (by omega) hJ q (xs (i + 1))
  rw [show nI i + (1 : Int32) = nI (i + 1) from nI_add i 1, ald_nI (k := i + 1) (by omega) (by omega), e1, bnd_s, ald_nI (k := i + 1) (by omega) (by omega), e2, bnd_s]
  rw [if_pos rfl, nm_s, show nI i + (6 : Int32) = nI (i + 6) from nI_add i 6]
  exact hK _ _ _ _ _ _ _ _ _ e3
theorem law_c14 {fu : Nat} (hF : 5000 ≤ fu) {L : Nat} {xs : Nat → Int32} (hL : L ≤ 3072) {i : Nat} (hi : i + 6 ≤ L) {g : Int32} {o : SS} {h k : PS} {p : TPS} {s : SHS} {t : MS} (hJ : JJ g o h k p s t) (q : PS) (z : TKS) (K : Int32 → (Nat → Int32) → PS → PS → PS → TPS → TKS → SHS → MS → Int32 → Option Int32) (hK : ∀ (g : Int32) (o : SS) (h q k : PS) (p : TPS) (z : TKS) (s : SHS) (t : MS), JJ g o h k p s t → K g o h q k p z s t (nI (i + 6)) = some 1) : (g_bnd (fX6_favourite fu  g o h ) (fun u653 => g_bnd (fX7_favourite fu  t ) (fun u657 => if u653.1 = u657.1 then (g_nm ((nI i) + (6 : Int32)) (fun x3_1335 => K g u653.2 h q k p z s u657.2 x3_1335)) else (some (0 : Int32))))) = some 1 := by
  obtain ⟨r, o', t', e1, e2, e3⟩ := pr_favourite (fu := fu) (by omega) hJ 
  rw [e1, bnd_s, e2, bnd_s]
  rw [if_pos rfl, nm_s, show nI i + (6 : Int32) = nI (i + 6) from nI_add i 6]
  exact hK _ _ _ _ _ _ _ _ _ e3
theorem law_c15 {fu : Nat} (hF : 5000 ≤ fu) {L : Nat} {xs : Nat → Int32} (hL : L ≤ 3072) {i : Nat} (hi : i + 6 ≤ L) {g : Int32} {o : SS} {h k : PS} {p : TPS} {s : SHS} {t : MS} (hJ : JJ g o h k p s t) (q : PS) (z : TKS) (K : Int32 → (Nat → Int32) → PS → PS → PS → TPS → TKS → SHS → MS → Int32 → Option Int32) (hK : ∀ (g : Int32) (o : SS) (h q k : PS) (p : TPS) (z : TKS) (s : SHS) (t : MS), JJ g o h k p s t → K g o h q k p z s t (nI (i + 6)) = some 1) : (g_ald xs L ((nI i) + (1 : Int32)) (fun v670 => g_ald xs L ((nI i) + (2 : Int32)) (fun v675 => g_bnd (fX6_send fu  g o h q v670 v675) (fun u676 => g_ald xs L ((nI i) + (1 : Int32)) (fun v684 => g_ald xs L ((nI i) + (2 : Int32)) (fun v689 => g_bnd (fX7_send fu  t v684 v689) (fun u690 => if u676.1 = u690.1 then (g_nm ((nI i) + (6 : Int32)) (fun x3_1335 => K g u676.2.1 h u676.2.2 k p z s u690.2 x3_1335)) else (some (0 : Int32))))))))) = some 1 := by
  obtain ⟨r, o', q', t', e1, e2, e3⟩ := pr_send (fu := fu) (by omega) hJ q (xs (i + 1)) (xs (i + 2))
  rw [show nI i + (1 : Int32) = nI (i + 1) from nI_add i 1, ald_nI (k := i + 1) (by omega) (by omega), show nI i + (2 : Int32) = nI (i + 2) from nI_add i 2, ald_nI (k := i + 2) (by omega) (by omega), e1, bnd_s, ald_nI (k := i + 1) (by omega) (by omega), ald_nI (k := i + 2) (by omega) (by omega), e2, bnd_s]
  rw [if_pos rfl, nm_s, show nI i + (6 : Int32) = nI (i + 6) from nI_add i 6]
  exact hK _ _ _ _ _ _ _ _ _ e3
theorem law_c16 {fu : Nat} (hF : 5000 ≤ fu) {L : Nat} {xs : Nat → Int32} (hL : L ≤ 3072) {i : Nat} (hi : i + 6 ≤ L) {g : Int32} {o : SS} {h k : PS} {p : TPS} {s : SHS} {t : MS} (hJ : JJ g o h k p s t) (q : PS) (z : TKS) (K : Int32 → (Nat → Int32) → PS → PS → PS → TPS → TKS → SHS → MS → Int32 → Option Int32) (hK : ∀ (g : Int32) (o : SS) (h q k : PS) (p : TPS) (z : TKS) (s : SHS) (t : MS), JJ g o h k p s t → K g o h q k p z s t (nI (i + 6)) = some 1) : (g_ald xs L ((nI i) + (1 : Int32)) (fun v703 => g_bnd (fX6_round fu  g o h q v703) (fun u704 => g_ald xs L ((nI i) + (1 : Int32)) (fun v712 => g_bnd (fX7_round fu  t v712) (fun u713 => if u704.1 = u713.1 then (g_nm ((nI i) + (6 : Int32)) (fun x3_1335 => K g u704.2.1 h u704.2.2 k p z s u713.2 x3_1335)) else (some (0 : Int32))))))) = some 1 := by
  obtain ⟨r, o', q', t', e1, e2, e3⟩ := pr_round (fu := fu) (by omega) hJ q (xs (i + 1))
  rw [show nI i + (1 : Int32) = nI (i + 1) from nI_add i 1, ald_nI (k := i + 1) (by omega) (by omega), e1, bnd_s, ald_nI (k := i + 1) (by omega) (by omega), e2, bnd_s]
  rw [if_pos rfl, nm_s, show nI i + (6 : Int32) = nI (i + 6) from nI_add i 6]
  exact hK _ _ _ _ _ _ _ _ _ e3
theorem law_c17 {fu : Nat} (hF : 5000 ≤ fu) {L : Nat} {xs : Nat → Int32} (hL : L ≤ 3072) {i : Nat} (hi : i + 6 ≤ L) {g : Int32} {o : SS} {h k : PS} {p : TPS} {s : SHS} {t : MS} (hJ : JJ g o h k p s t) (q : PS) (z : TKS) (K : Int32 → (Nat → Int32) → PS → PS → PS → TPS → TKS → SHS → MS → Int32 → Option Int32) (hK : ∀ (g : Int32) (o : SS) (h q k : PS) (p : TPS) (z : TKS) (s : SHS) (t : MS), JJ g o h k p s t → K g o h q k p z s t (nI (i + 6)) = some 1) : (g_ald xs L ((nI i) + (1 : Int32)) (fun v726 => g_ald xs L ((nI i) + (2 : Int32)) (fun v731 => g_bnd (fX6_deeds fu  g o h v726 v731) (fun u732 => g_ald xs L ((nI i) + (1 : Int32)) (fun v740 => g_ald xs L ((nI i) + (2 : Int32)) (fun v745 => g_bnd (fX7_deeds fu  t v740 v745) (fun u746 => if u732.1 = u746.1 then (g_nm ((nI i) + (6 : Int32)) (fun x3_1335 => K g u732.2 h q k p z s u746.2 x3_1335)) else (some (0 : Int32))))))))) = some 1 := by
  obtain ⟨r, o', t', e1, e2, e3⟩ := pr_deeds (fu := fu) (by omega) hJ (xs (i + 1)) (xs (i + 2))
  rw [show nI i + (1 : Int32) = nI (i + 1) from nI_add i 1, ald_nI (k := i + 1) (by omega) (by omega), show nI i + (2 : Int32) = nI (i + 2) from nI_add i 2, ald_nI (k := i + 2) (by omega) (by omega), e1, bnd_s, ald_nI (k := i + 1) (by omega) (by omega), ald_nI (k := i + 2) (by omega) (by omega), e2, bnd_s]
  rw [if_pos rfl, nm_s, show nI i + (6 : Int32) = nI (i + 6) from nI_add i 6]
  exact hK _ _ _ _ _ _ _ _ _ e3
theorem law_c18 {fu : Nat} (hF : 5000 ≤ fu) {L : Nat} {xs : Nat → Int32} (hL : L ≤ 3072) {i : Nat} (hi : i + 6 ≤ L) {g : Int32} {o : SS} {h k : PS} {p : TPS} {s : SHS} {t : MS} (hJ : JJ g o h k p s t) (q : PS) (z : TKS) (K : Int32 → (Nat → Int32) → PS → PS → PS → TPS → TKS → SHS → MS → Int32 → Option Int32) (hK : ∀ (g : Int32) (o : SS) (h q k : PS) (p : TPS) (z : TKS) (s : SHS) (t : MS), JJ g o h k p s t → K g o h q k p z s t (nI (i + 6)) = some 1) : (g_ald xs L ((nI i) + (1 : Int32)) (fun v759 => g_bnd (fX6_step fu  g o h v759) (fun u760 => g_ald xs L ((nI i) + (1 : Int32)) (fun v768 => g_bnd (fX7_step fu  t v768) (fun u769 => if u760.1 = u769.1 then (g_nm ((nI i) + (6 : Int32)) (fun x3_1335 => K g u760.2 h q k p z s u769.2 x3_1335)) else (some (0 : Int32))))))) = some 1 := by
  obtain ⟨r, o', t', e1, e2, e3⟩ := pr_step (fu := fu) (by omega) hJ (xs (i + 1))
  rw [show nI i + (1 : Int32) = nI (i + 1) from nI_add i 1, ald_nI (k := i + 1) (by omega) (by omega), e1, bnd_s, ald_nI (k := i + 1) (by omega) (by omega), e2, bnd_s]
  rw [if_pos rfl, nm_s, show nI i + (6 : Int32) = nI (i + 6) from nI_add i 6]
  exact hK _ _ _ _ _ _ _ _ _ e3
theorem law_c19 {fu : Nat} (hF : 5000 ≤ fu) {L : Nat} {xs : Nat → Int32} (hL : L ≤ 3072) {i : Nat} (hi : i + 6 ≤ L) {g : Int32} {o : SS} {h k : PS} {p : TPS} {s : SHS} {t : MS} (hJ : JJ g o h k p s t) (q : PS) (z : TKS) (K : Int32 → (Nat → Int32) → PS → PS → PS → TPS → TKS → SHS → MS → Int32 → Option Int32) (hK : ∀ (g : Int32) (o : SS) (h q k : PS) (p : TPS) (z : TKS) (s : SHS) (t : MS), JJ g o h k p s t → K g o h q k p z s t (nI (i + 6)) = some 1) : (g_ald xs L ((nI i) + (1 : Int32)) (fun v782 => g_bnd (fX6_kind fu  g o h v782) (fun u783 => g_ald xs L ((nI i) + (1 : Int32)) (fun v791 => g_bnd (fX7_kind fu  t v791) (fun u792 => if u783.1 = u792.1 then (g_nm ((nI i) + (6 : Int32)) (fun x3_1335 => K g u783.2 h q k p z s u792.2 x3_1335)) else (some (0 : Int32))))))) = some 1 := by
  obtain ⟨r, o', t', e1, e2, e3⟩ := pr_kind (fu := fu) (by omega) hJ (xs (i + 1))
  rw [show nI i + (1 : Int32) = nI (i + 1) from nI_add i 1, ald_nI (k := i + 1) (by omega) (by omega), e1, bnd_s, ald_nI (k := i + 1) (by omega) (by omega), e2, bnd_s]
  rw [if_pos rfl, nm_s, show nI i + (6 : Int32) = nI (i + 6) from nI_add i 6]
  exact hK _ _ _ _ _ _ _ _ _ e3
theorem law_c20 {fu : Nat} (hF : 5000 ≤ fu) {L : Nat} {xs : Nat → Int32} (hL : L ≤ 3072) {i : Nat} (hi : i + 6 ≤ L) {g : Int32} {o : SS} {h k : PS} {p : TPS} {s : SHS} {t : MS} (hJ : JJ g o h k p s t) (q : PS) (z : TKS) (K : Int32 → (Nat → Int32) → PS → PS → PS → TPS → TKS → SHS → MS → Int32 → Option Int32) (hK : ∀ (g : Int32) (o : SS) (h q k : PS) (p : TPS) (z : TKS) (s : SHS) (t : MS), JJ g o h k p s t → K g o h q k p z s t (nI (i + 6)) = some 1) : (g_ald xs L ((nI i) + (1 : Int32)) (fun v805 => g_bnd (fX6_spring fu  g o h q v805) (fun u806 => g_ald xs L ((nI i) + (1 : Int32)) (fun v814 => g_bnd (fX7_spring fu  t v814) (fun u815 => if u806.1 = u815.1 then (g_nm ((nI i) + (6 : Int32)) (fun x3_1335 => K g u806.2.1 h u806.2.2 k p z s u815.2 x3_1335)) else (some (0 : Int32))))))) = some 1 := by
  obtain ⟨r, o', q', t', e1, e2, e3⟩ := pr_spring (fu := fu) (by omega) hJ q (xs (i + 1))
  rw [show nI i + (1 : Int32) = nI (i + 1) from nI_add i 1, ald_nI (k := i + 1) (by omega) (by omega), e1, bnd_s, ald_nI (k := i + 1) (by omega) (by omega), e2, bnd_s]
  rw [if_pos rfl, nm_s, show nI i + (6 : Int32) = nI (i + 6) from nI_add i 6]
  exact hK _ _ _ _ _ _ _ _ _ e3
theorem law_c21 {fu : Nat} (hF : 5000 ≤ fu) {L : Nat} {xs : Nat → Int32} (hL : L ≤ 3072) {i : Nat} (hi : i + 6 ≤ L) {g : Int32} {o : SS} {h k : PS} {p : TPS} {s : SHS} {t : MS} (hJ : JJ g o h k p s t) (q : PS) (z : TKS) (K : Int32 → (Nat → Int32) → PS → PS → PS → TPS → TKS → SHS → MS → Int32 → Option Int32) (hK : ∀ (g : Int32) (o : SS) (h q k : PS) (p : TPS) (z : TKS) (s : SHS) (t : MS), JJ g o h k p s t → K g o h q k p z s t (nI (i + 6)) = some 1) : (g_ald xs L ((nI i) + (1 : Int32)) (fun v828 => g_ald xs L ((nI i) + (2 : Int32)) (fun v833 => g_bnd (fX6_enough fu  g o h q v828 v833) (fun u834 => g_ald xs L ((nI i) + (1 : Int32)) (fun v842 => g_ald xs L ((nI i) + (2 : Int32)) (fun v847 => g_bnd (fX7_enough fu  t v842 v847) (fun u848 => if u834.1 = u848.1 then (g_nm ((nI i) + (6 : Int32)) (fun x3_1335 => K g u834.2.1 h u834.2.2 k p z s u848.2 x3_1335)) else (some (0 : Int32))))))))) = some 1 := by
  obtain ⟨r, o', q', t', e1, e2, e3⟩ := pr_enough (fu := fu) (by omega) hJ q (xs (i + 1)) (xs (i + 2))
  rw [show nI i + (1 : Int32) = nI (i + 1) from nI_add i 1, ald_nI (k := i + 1) (by omega) (by omega), show nI i + (2 : Int32) = nI (i + 2) from nI_add i 2, ald_nI (k := i + 2) (by omega) (by omega), e1, bnd_s, ald_nI (k := i + 1) (by omega) (by omega), ald_nI (k := i + 2) (by omega) (by omega), e2, bnd_s]
  rw [if_pos rfl, nm_s, show nI i + (6 : Int32) = nI (i + 6) from nI_add i 6]
  exact hK _ _ _ _ _ _ _ _ _ e3
theorem law_c22 {fu : Nat} (hF : 5000 ≤ fu) {L : Nat} {xs : Nat → Int32} (hL : L ≤ 3072) {i : Nat} (hi : i + 6 ≤ L) {g : Int32} {o : SS} {h k : PS} {p : TPS} {s : SHS} {t : MS} (hJ : JJ g o h k p s t) (q : PS) (z : TKS) (K : Int32 → (Nat → Int32) → PS → PS → PS → TPS → TKS → SHS → MS → Int32 → Option Int32) (hK : ∀ (g : Int32) (o : SS) (h q k : PS) (p : TPS) (z : TKS) (s : SHS) (t : MS), JJ g o h k p s t → K g o h q k p z s t (nI (i + 6)) = some 1) : (g_ald xs L ((nI i) + (1 : Int32)) (fun v861 => g_ald xs L ((nI i) + (2 : Int32)) (fun v866 => g_bnd (fX6_worth fu  g o h q v861 v866) (fun u867 => g_ald xs L ((nI i) + (1 : Int32)) (fun v875 => g_ald xs L ((nI i) + (2 : Int32)) (fun v880 => g_bnd (fX7_worth fu  t v875 v880) (fun u881 => if u867.1 = u881.1 then (g_nm ((nI i) + (6 : Int32)) (fun x3_1335 => K g u867.2.1 h u867.2.2 k p z s u881.2 x3_1335)) else (some (0 : Int32))))))))) = some 1 := by
  obtain ⟨r, o', q', t', e1, e2, e3⟩ := pr_worth (fu := fu) (by omega) hJ q (xs (i + 1)) (xs (i + 2))
  rw [show nI i + (1 : Int32) = nI (i + 1) from nI_add i 1, ald_nI (k := i + 1) (by omega) (by omega), show nI i + (2 : Int32) = nI (i + 2) from nI_add i 2, ald_nI (k := i + 2) (by omega) (by omega), e1, bnd_s, ald_nI (k := i + 1) (by omega) (by omega), ald_nI (k := i + 2) (by omega) (by omega), e2, bnd_s]
  rw [if_pos rfl, nm_s, show nI i + (6 : Int32) = nI (i + 6) from nI_add i 6]
  exact hK _ _ _ _ _ _ _ _ _ e3
theorem law_c23 {fu : Nat} (hF : 5000 ≤ fu) {L : Nat} {xs : Nat → Int32} (hL : L ≤ 3072) {i : Nat} (hi : i + 6 ≤ L) {g : Int32} {o : SS} {h k : PS} {p : TPS} {s : SHS} {t : MS} (hJ : JJ g o h k p s t) (q : PS) (z : TKS) (K : Int32 → (Nat → Int32) → PS → PS → PS → TPS → TKS → SHS → MS → Int32 → Option Int32) (hK : ∀ (g : Int32) (o : SS) (h q k : PS) (p : TPS) (z : TKS) (s : SHS) (t : MS), JJ g o h k p s t → K g o h q k p z s t (nI (i + 6)) = some 1) : (g_ald xs L ((nI i) + (1 : Int32)) (fun v894 => g_ald xs L ((nI i) + (2 : Int32)) (fun v899 => g_bnd (fX6_did fu  g o h v894 v899) (fun u900 => g_ald xs L ((nI i) + (1 : Int32)) (fun v908 => g_ald xs L ((nI i) + (2 : Int32)) (fun v913 => g_bnd (fX7_did fu  t v908 v913) (fun u914 => if u900.1 = u914.1 then (g_nm ((nI i) + (6 : Int32)) (fun x3_1335 => K g u900.2 h q k p z s u914.2 x3_1335)) else (some (0 : Int32))))))))) = some 1 := by
  obtain ⟨r, o', t', e1, e2, e3⟩ := pr_did (fu := fu) (by omega) hJ (xs (i + 1)) (xs (i + 2))
  rw [show nI i + (1 : Int32) = nI (i + 1) from nI_add i 1, ald_nI (k := i + 1) (by omega) (by omega), show nI i + (2 : Int32) = nI (i + 2) from nI_add i 2, ald_nI (k := i + 2) (by omega) (by omega), e1, bnd_s, ald_nI (k := i + 1) (by omega) (by omega), ald_nI (k := i + 2) (by omega) (by omega), e2, bnd_s]
  rw [if_pos rfl, nm_s, show nI i + (6 : Int32) = nI (i + 6) from nI_add i 6]
  exact hK _ _ _ _ _ _ _ _ _ e3
theorem law_c24 {fu : Nat} (hF : 5000 ≤ fu) {L : Nat} {xs : Nat → Int32} (hL : L ≤ 3072) {i : Nat} (hi : i + 6 ≤ L) {g : Int32} {o : SS} {h k : PS} {p : TPS} {s : SHS} {t : MS} (hJ : JJ g o h k p s t) (q : PS) (z : TKS) (K : Int32 → (Nat → Int32) → PS → PS → PS → TPS → TKS → SHS → MS → Int32 → Option Int32) (hK : ∀ (g : Int32) (o : SS) (h q k : PS) (p : TPS) (z : TKS) (s : SHS) (t : MS), JJ g o h k p s t → K g o h q k p z s t (nI (i + 6)) = some 1) : (g_ald xs L ((nI i) + (1 : Int32)) (fun v927 => g_ald xs L ((nI i) + (2 : Int32)) (fun v932 => g_bnd (fX6_feed fu  g o p v927 v932) (fun u933 => g_ald xs L ((nI i) + (1 : Int32)) (fun v941 => g_ald xs L ((nI i) + (2 : Int32)) (fun v946 => g_bnd (fX7_feed fu  t v941 v946) (fun u947 => if u933.1 = u947.1 then (g_nm ((nI i) + (6 : Int32)) (fun x3_1335 => K g u933.2.1 h q k u933.2.2 z s u947.2 x3_1335)) else (some (0 : Int32))))))))) = some 1 := by
  obtain ⟨r, o', p', t', e1, e2, e3⟩ := pr_feed (fu := fu) (by omega) hJ (xs (i + 1)) (xs (i + 2))
  rw [show nI i + (1 : Int32) = nI (i + 1) from nI_add i 1, ald_nI (k := i + 1) (by omega) (by omega), show nI i + (2 : Int32) = nI (i + 2) from nI_add i 2, ald_nI (k := i + 2) (by omega) (by omega), e1, bnd_s, ald_nI (k := i + 1) (by omega) (by omega), ald_nI (k := i + 2) (by omega) (by omega), e2, bnd_s]
  rw [if_pos rfl, nm_s, show nI i + (6 : Int32) = nI (i + 6) from nI_add i 6]
  exact hK _ _ _ _ _ _ _ _ _ e3
theorem law_c25 {fu : Nat} (hF : 5000 ≤ fu) {L : Nat} {xs : Nat → Int32} (hL : L ≤ 3072) {i : Nat} (hi : i + 6 ≤ L) {g : Int32} {o : SS} {h k : PS} {p : TPS} {s : SHS} {t : MS} (hJ : JJ g o h k p s t) (q : PS) (z : TKS) (K : Int32 → (Nat → Int32) → PS → PS → PS → TPS → TKS → SHS → MS → Int32 → Option Int32) (hK : ∀ (g : Int32) (o : SS) (h q k : PS) (p : TPS) (z : TKS) (s : SHS) (t : MS), JJ g o h k p s t → K g o h q k p z s t (nI (i + 6)) = some 1) : (g_bnd (fX6_wipe fu  g p ) (fun u956 => g_bnd (fX7_wipe fu  t ) (fun u960 => if u956.1 = u960.1 then (g_nm ((nI i) + (6 : Int32)) (fun x3_1335 => K g o h q k u956.2 z s u960.2 x3_1335)) else (some (0 : Int32))))) = some 1 := by
  obtain ⟨r, p', t', e1, e2, e3⟩ := pr_wipe (fu := fu) hJ 
  rw [e1, bnd_s, e2, bnd_s]
  rw [if_pos rfl, nm_s, show nI i + (6 : Int32) = nI (i + 6) from nI_add i 6]
  exact hK _ _ _ _ _ _ _ _ _ e3
theorem law_c26 {fu : Nat} (hF : 5000 ≤ fu) {L : Nat} {xs : Nat → Int32} (hL : L ≤ 3072) {i : Nat} (hi : i + 6 ≤ L) {g : Int32} {o : SS} {h k : PS} {p : TPS} {s : SHS} {t : MS} (hJ : JJ g o h k p s t) (q : PS) (z : TKS) (K : Int32 → (Nat → Int32) → PS → PS → PS → TPS → TKS → SHS → MS → Int32 → Option Int32) (hK : ∀ (g : Int32) (o : SS) (h q k : PS) (p : TPS) (z : TKS) (s : SHS) (t : MS), JJ g o h k p s t → K g o h q k p z s t (nI (i + 6)) = some 1) : (g_bnd (fX6_parish fu  g h q p z ) (fun u969 => g_bnd (fX7_parish fu  t ) (fun u973 => if u969.1 = u973.1 then (g_nm ((nI i) + (6 : Int32)) (fun x3_1335 => K g o u969.2.1 u969.2.2.1 k u969.2.2.2.1 u969.2.2.2.2 s u973.2 x3_1335)) else (some (0 : Int32))))) = some 1 := by
  obtain ⟨r, h', q', p', z', t', e1, e2, e3⟩ := pr_parish (fu := fu) (by omega) hJ q z
  rw [e1, bnd_s, e2, bnd_s]
  rw [if_pos rfl, nm_s, show nI i + (6 : Int32) = nI (i + 6) from nI_add i 6]
  exact hK _ _ _ _ _ _ _ _ _ e3
theorem law_c27 {fu : Nat} (hF : 5000 ≤ fu) {L : Nat} {xs : Nat → Int32} (hL : L ≤ 3072) {i : Nat} (hi : i + 6 ≤ L) {g : Int32} {o : SS} {h k : PS} {p : TPS} {s : SHS} {t : MS} (hJ : JJ g o h k p s t) (q : PS) (z : TKS) (K : Int32 → (Nat → Int32) → PS → PS → PS → TPS → TKS → SHS → MS → Int32 → Option Int32) (hK : ∀ (g : Int32) (o : SS) (h q k : PS) (p : TPS) (z : TKS) (s : SHS) (t : MS), JJ g o h k p s t → K g o h q k p z s t (nI (i + 6)) = some 1) : (g_ald xs L ((nI i) + (1 : Int32)) (fun v986 => g_ald xs L ((nI i) + (2 : Int32)) (fun v991 => g_ald xs L ((nI i) + (3 : Int32)) (fun v996 => g_bnd (fX6_sheet fu  g o s v986 v991 v996) (fun u997 => g_ald xs L ((nI i) + (1 : Int32)) (fun v1005 => g_ald xs L ((nI i) + (2 : Int32)) (fun v1010 => g_ald xs L ((nI i) + (3 : Int32)) (fun v1015 => g_bnd (fX7_sheet fu  t v1005 v1010 v1015) (fun u1016 => if u997.1 = u1016.1 then (g_nm ((nI i) + (6 : Int32)) (fun x3_1335 => K g u997.2.1 h q k p z u997.2.2 u1016.2 x3_1335)) else (some (0 : Int32))))))))))) = some 1 := by
  obtain ⟨r, o', s', t', e1, e2, e3⟩ := pr_sheet (fu := fu) (by omega) hJ (xs (i + 1)) (xs (i + 2)) (xs (i + 3))
  rw [show nI i + (1 : Int32) = nI (i + 1) from nI_add i 1, ald_nI (k := i + 1) (by omega) (by omega), show nI i + (2 : Int32) = nI (i + 2) from nI_add i 2, ald_nI (k := i + 2) (by omega) (by omega), show nI i + (3 : Int32) = nI (i + 3) from nI_add i 3, ald_nI (k := i + 3) (by omega) (by omega), e1, bnd_s, ald_nI (k := i + 1) (by omega) (by omega), ald_nI (k := i + 2) (by omega) (by omega), ald_nI (k := i + 3) (by omega) (by omega), e2, bnd_s]
  rw [if_pos rfl, nm_s, show nI i + (6 : Int32) = nI (i + 6) from nI_add i 6]
  exact hK _ _ _ _ _ _ _ _ _ e3
theorem law_c28 {fu : Nat} (hF : 5000 ≤ fu) {L : Nat} {xs : Nat → Int32} (hL : L ≤ 3072) {i : Nat} (hi : i + 6 ≤ L) {g : Int32} {o : SS} {h k : PS} {p : TPS} {s : SHS} {t : MS} (hJ : JJ g o h k p s t) (q : PS) (z : TKS) (K : Int32 → (Nat → Int32) → PS → PS → PS → TPS → TKS → SHS → MS → Int32 → Option Int32) (hK : ∀ (g : Int32) (o : SS) (h q k : PS) (p : TPS) (z : TKS) (s : SHS) (t : MS), JJ g o h k p s t → K g o h q k p z s t (nI (i + 6)) = some 1) : (g_ald xs L ((nI i) + (1 : Int32)) (fun v1029 => g_ald xs L ((nI i) + (2 : Int32)) (fun v1034 => g_ald xs L ((nI i) + (3 : Int32)) (fun v1039 => g_ald xs L ((nI i) + (4 : Int32)) (fun v1048 => g_bnd (fX6_write fu  g o s v1029 v1034 (((Int32.toInt64 v1039) <<< (Int32.toInt64 (32 : Int32) &&& (63 : Int64))) ||| ((Int32.toInt64 v1048) &&& (4294967295 : Int64)))) (fun u1055 => g_ald xs L ((nI i) + (1 : Int32)) (fun v1063 => g_ald xs L ((nI i) + (2 : Int32)) (fun v1068 => g_ald xs L ((nI i) + (3 : Int32)) (fun v1073 => g_ald xs L ((nI i) + (4 : Int32)) (fun v1082 => g_bnd (fX7_write fu  t v1063 v1068 (((Int32.toInt64 v1073) <<< (Int32.toInt64 (32 : Int32) &&& (63 : Int64))) ||| ((Int32.toInt64 v1082) &&& (4294967295 : Int64)))) (fun u1089 => if (lg_cmp u1055.1 u1089.1) = (0 : Int32) then (g_nm ((nI i) + (6 : Int32)) (fun x3_1335 => K g u1055.2.1 h q k p z u1055.2.2 u1089.2 x3_1335)) else (some (0 : Int32))))))))))))) = some 1 := by
  obtain ⟨r, o', s', t', e1, e2, e3⟩ := pr_write (fu := fu) hJ (xs (i + 1)) (xs (i + 2)) (((Int32.toInt64 (xs (i + 3))) <<< (Int32.toInt64 (32 : Int32) &&& (63 : Int64))) ||| ((Int32.toInt64 (xs (i + 4))) &&& (4294967295 : Int64)))
  rw [show nI i + (1 : Int32) = nI (i + 1) from nI_add i 1, ald_nI (k := i + 1) (by omega) (by omega), show nI i + (2 : Int32) = nI (i + 2) from nI_add i 2, ald_nI (k := i + 2) (by omega) (by omega), show nI i + (3 : Int32) = nI (i + 3) from nI_add i 3, ald_nI (k := i + 3) (by omega) (by omega), show nI i + (4 : Int32) = nI (i + 4) from nI_add i 4, ald_nI (k := i + 4) (by omega) (by omega), e1, bnd_s, ald_nI (k := i + 1) (by omega) (by omega), ald_nI (k := i + 2) (by omega) (by omega), ald_nI (k := i + 3) (by omega) (by omega), ald_nI (k := i + 4) (by omega) (by omega), e2, bnd_s]
  rw [if_pos (cmpL_eq.mpr rfl), nm_s, show nI i + (6 : Int32) = nI (i + 6) from nI_add i 6]
  exact hK _ _ _ _ _ _ _ _ _ e3
theorem law_c29 {fu : Nat} (hF : 5000 ≤ fu) {L : Nat} {xs : Nat → Int32} (hL : L ≤ 3072) {i : Nat} (hi : i + 6 ≤ L) {g : Int32} {o : SS} {h k : PS} {p : TPS} {s : SHS} {t : MS} (hJ : JJ g o h k p s t) (q : PS) (z : TKS) (K : Int32 → (Nat → Int32) → PS → PS → PS → TPS → TKS → SHS → MS → Int32 → Option Int32) (hK : ∀ (g : Int32) (o : SS) (h q k : PS) (p : TPS) (z : TKS) (s : SHS) (t : MS), JJ g o h k p s t → K g o h q k p z s t (nI (i + 6)) = some 1) : (g_ald xs L ((nI i) + (1 : Int32)) (fun v1103 => g_ald xs L ((nI i) + (2 : Int32)) (fun v1108 => g_ald xs L ((nI i) + (3 : Int32)) (fun v1113 => g_ald xs L ((nI i) + (4 : Int32)) (fun v1118 => g_ald xs L ((nI i) + (5 : Int32)) (fun v1123 => g_bnd (fX6_copy fu  g o s v1103 v1108 v1113 v1118 v1123) (fun u1124 => g_ald xs L ((nI i) + (1 : Int32)) (fun v1132 => g_ald xs L ((nI i) + (2 : Int32)) (fun v1137 => g_ald xs L ((nI i) + (3 : Int32)) (fun v1142 => g_ald xs L ((nI i) + (4 : Int32)) (fun v1147 => g_ald xs L ((nI i) + (5 : Int32)) (fun v1152 => g_bnd (fX7_copy fu  t v1132 v1137 v1142 v1147 v1152) (fun u1153 => if u1124.1 = u1153.1 then (g_nm ((nI i) + (6 : Int32)) (fun x3_1335 => K g u1124.2.1 h q k p z u1124.2.2 u1153.2 x3_1335)) else (some (0 : Int32))))))))))))))) = some 1 := by
  obtain ⟨r, o', s', t', e1, e2, e3⟩ := pr_copy (fu := fu) (by omega) hJ (xs (i + 1)) (xs (i + 2)) (xs (i + 3)) (xs (i + 4)) (xs (i + 5))
  rw [show nI i + (1 : Int32) = nI (i + 1) from nI_add i 1, ald_nI (k := i + 1) (by omega) (by omega), show nI i + (2 : Int32) = nI (i + 2) from nI_add i 2, ald_nI (k := i + 2) (by omega) (by omega), show nI i + (3 : Int32) = nI (i + 3) from nI_add i 3, ald_nI (k := i + 3) (by omega) (by omega), show nI i + (4 : Int32) = nI (i + 4) from nI_add i 4, ald_nI (k := i + 4) (by omega) (by omega), show nI i + (5 : Int32) = nI (i + 5) from nI_add i 5, ald_nI (k := i + 5) (by omega) (by omega), e1, bnd_s, ald_nI (k := i + 1) (by omega) (by omega), ald_nI (k := i + 2) (by omega) (by omega), ald_nI (k := i + 3) (by omega) (by omega), ald_nI (k := i + 4) (by omega) (by omega), ald_nI (k := i + 5) (by omega) (by omega), e2, bnd_s]
  rw [if_pos rfl, nm_s, show nI i + (6 : Int32) = nI (i + 6) from nI_add i 6]
  exact hK _ _ _ _ _ _ _ _ _ e3
theorem law_c30 {fu : Nat} (hF : 5000 ≤ fu) {L : Nat} {xs : Nat → Int32} (hL : L ≤ 3072) {i : Nat} (hi : i + 6 ≤ L) {g : Int32} {o : SS} {h k : PS} {p : TPS} {s : SHS} {t : MS} (hJ : JJ g o h k p s t) (q : PS) (z : TKS) (K : Int32 → (Nat → Int32) → PS → PS → PS → TPS → TKS → SHS → MS → Int32 → Option Int32) (hK : ∀ (g : Int32) (o : SS) (h q k : PS) (p : TPS) (z : TKS) (s : SHS) (t : MS), JJ g o h k p s t → K g o h q k p z s t (nI (i + 6)) = some 1) : (g_ald xs L ((nI i) + (1 : Int32)) (fun v1166 => g_bnd (fX6_lays fu  g o h s v1166) (fun u1167 => g_ald xs L ((nI i) + (1 : Int32)) (fun v1175 => g_bnd (fX7_lays fu  t v1175) (fun u1176 => if u1167.1 = u1176.1 then (g_nm ((nI i) + (6 : Int32)) (fun x3_1335 => K g u1167.2.1 u1167.2.2 q k p z s u1176.2 x3_1335)) else (some (0 : Int32))))))) = some 1 := by
  obtain ⟨r, o', h', t', e1, e2, e3⟩ := pr_lays (fu := fu) (by omega) hJ (xs (i + 1))
  rw [show nI i + (1 : Int32) = nI (i + 1) from nI_add i 1, ald_nI (k := i + 1) (by omega) (by omega), e1, bnd_s, ald_nI (k := i + 1) (by omega) (by omega), e2, bnd_s]
  rw [if_pos rfl, nm_s, show nI i + (6 : Int32) = nI (i + 6) from nI_add i 6]
  exact hK _ _ _ _ _ _ _ _ _ e3
theorem law_c31 {fu : Nat} (hF : 5000 ≤ fu) {L : Nat} {xs : Nat → Int32} (hL : L ≤ 3072) {i : Nat} (hi : i + 6 ≤ L) {g : Int32} {o : SS} {h k : PS} {p : TPS} {s : SHS} {t : MS} (hJ : JJ g o h k p s t) (q : PS) (z : TKS) (K : Int32 → (Nat → Int32) → PS → PS → PS → TPS → TKS → SHS → MS → Int32 → Option Int32) (hK : ∀ (g : Int32) (o : SS) (h q k : PS) (p : TPS) (z : TKS) (s : SHS) (t : MS), JJ g o h k p s t → K g o h q k p z s t (nI (i + 6)) = some 1) : (g_ald xs L ((nI i) + (1 : Int32)) (fun v1189 => g_ald xs L ((nI i) + (2 : Int32)) (fun v1194 => g_bnd (fX6_book fu  g o h q s v1189 v1194) (fun u1195 => g_ald xs L ((nI i) + (1 : Int32)) (fun v1203 => g_ald xs L ((nI i) + (2 : Int32)) (fun v1208 => g_bnd (fX7_book fu  t v1203 v1208) (fun u1209 => if u1195.1 = u1209.1 then (g_nm ((nI i) + (6 : Int32)) (fun x3_1335 => K g u1195.2.1 h u1195.2.2.1 k p z u1195.2.2.2 u1209.2 x3_1335)) else (some (0 : Int32))))))))) = some 1 := by
  obtain ⟨r, o', q', s', t', e1, e2, e3⟩ := pr_book (fu := fu) (by omega) hJ q (xs (i + 1)) (xs (i + 2))
  rw [show nI i + (1 : Int32) = nI (i + 1) from nI_add i 1, ald_nI (k := i + 1) (by omega) (by omega), show nI i + (2 : Int32) = nI (i + 2) from nI_add i 2, ald_nI (k := i + 2) (by omega) (by omega), e1, bnd_s, ald_nI (k := i + 1) (by omega) (by omega), ald_nI (k := i + 2) (by omega) (by omega), e2, bnd_s]
  rw [if_pos rfl, nm_s, show nI i + (6 : Int32) = nI (i + 6) from nI_add i 6]
  exact hK _ _ _ _ _ _ _ _ _ e3
theorem law_c32 {fu : Nat} (hF : 5000 ≤ fu) {L : Nat} {xs : Nat → Int32} (hL : L ≤ 3072) {i : Nat} (hi : i + 6 ≤ L) {g : Int32} {o : SS} {h k : PS} {p : TPS} {s : SHS} {t : MS} (hJ : JJ g o h k p s t) (q : PS) (z : TKS) (K : Int32 → (Nat → Int32) → PS → PS → PS → TPS → TKS → SHS → MS → Int32 → Option Int32) (hK : ∀ (g : Int32) (o : SS) (h q k : PS) (p : TPS) (z : TKS) (s : SHS) (t : MS), JJ g o h k p s t → K g o h q k p z s t (nI (i + 6)) = some 1) : (g_ald xs L ((nI i) + (1 : Int32)) (fun v1222 => g_ald xs L ((nI i) + (2 : Int32)) (fun v1227 => g_bnd (fX6_read fu  g o h q s v1222 v1227) (fun u1228 => g_ald xs L ((nI i) + (1 : Int32)) (fun v1236 => g_ald xs L ((nI i) + (2 : Int32)) (fun v1241 => g_bnd (fX7_read fu  t v1236 v1241) (fun u1242 => if u1228.1 = u1242.1 then (g_nm ((nI i) + (6 : Int32)) (fun x3_1335 => K g u1228.2.1 h u1228.2.2 k p z s u1242.2 x3_1335)) else (some (0 : Int32))))))))) = some 1 := by
  obtain ⟨r, o', q', t', e1, e2, e3⟩ := pr_read (fu := fu) (by omega) hJ q (xs (i + 1)) (xs (i + 2))
  rw [show nI i + (1 : Int32) = nI (i + 1) from nI_add i 1, ald_nI (k := i + 1) (by omega) (by omega), show nI i + (2 : Int32) = nI (i + 2) from nI_add i 2, ald_nI (k := i + 2) (by omega) (by omega), e1, bnd_s, ald_nI (k := i + 1) (by omega) (by omega), ald_nI (k := i + 2) (by omega) (by omega), e2, bnd_s]
  rw [if_pos rfl, nm_s, show nI i + (6 : Int32) = nI (i + 6) from nI_add i 6]
  exact hK _ _ _ _ _ _ _ _ _ e3
theorem law_c33 {fu : Nat} (hF : 5000 ≤ fu) {L : Nat} {xs : Nat → Int32} (hL : L ≤ 3072) {i : Nat} (hi : i + 6 ≤ L) {g : Int32} {o : SS} {h k : PS} {p : TPS} {s : SHS} {t : MS} (hJ : JJ g o h k p s t) (q : PS) (z : TKS) (K : Int32 → (Nat → Int32) → PS → PS → PS → TPS → TKS → SHS → MS → Int32 → Option Int32) (hK : ∀ (g : Int32) (o : SS) (h q k : PS) (p : TPS) (z : TKS) (s : SHS) (t : MS), JJ g o h k p s t → K g o h q k p z s t (nI (i + 6)) = some 1) : (g_bnd (fX6_image fu  g h k ) (fun u1251 => g_bnd (fX7_image fu  t ) (fun u1255 => if u1251.1 = u1255.1 then (g_nm ((nI i) + (6 : Int32)) (fun x3_1335 => K u1251.2.1 o h q u1251.2.2 p z s u1255.2 x3_1335)) else (some (0 : Int32))))) = some 1 := by
  obtain ⟨r, g', k', t', e1, e2, e3⟩ := pr_image (fu := fu) (by omega) hJ 
  rw [e1, bnd_s, e2, bnd_s]
  rw [if_pos rfl, nm_s, show nI i + (6 : Int32) = nI (i + 6) from nI_add i 6]
  exact hK _ _ _ _ _ _ _ _ _ e3
theorem law_c34 {fu : Nat} (hF : 5000 ≤ fu) {L : Nat} {xs : Nat → Int32} (hL : L ≤ 3072) {i : Nat} (hi : i + 6 ≤ L) {g : Int32} {o : SS} {h k : PS} {p : TPS} {s : SHS} {t : MS} (hJ : JJ g o h k p s t) (q : PS) (z : TKS) (K : Int32 → (Nat → Int32) → PS → PS → PS → TPS → TKS → SHS → MS → Int32 → Option Int32) (hK : ∀ (g : Int32) (o : SS) (h q k : PS) (p : TPS) (z : TKS) (s : SHS) (t : MS), JJ g o h k p s t → K g o h q k p z s t (nI (i + 6)) = some 1) : (g_bnd (fX6_undo fu  g o h k ) (fun u1264 => g_bnd (fX7_undo fu  t ) (fun u1268 => if u1264.1 = u1268.1 then (g_nm ((nI i) + (6 : Int32)) (fun x3_1335 => K g u1264.2.1 u1264.2.2 q k p z s u1268.2 x3_1335)) else (some (0 : Int32))))) = some 1 := by
  obtain ⟨r, o', h', t', e1, e2, e3⟩ := pr_undo (fu := fu) (by omega) hJ 
  rw [e1, bnd_s, e2, bnd_s]
  rw [if_pos rfl, nm_s, show nI i + (6 : Int32) = nI (i + 6) from nI_add i 6]
  exact hK _ _ _ _ _ _ _ _ _ e3
theorem law_c35 {fu : Nat} (hF : 5000 ≤ fu) {L : Nat} {xs : Nat → Int32} (hL : L ≤ 3072) {i : Nat} (hi : i + 6 ≤ L) {g : Int32} {o : SS} {h k : PS} {p : TPS} {s : SHS} {t : MS} (hJ : JJ g o h k p s t) (q : PS) (z : TKS) (K : Int32 → (Nat → Int32) → PS → PS → PS → TPS → TKS → SHS → MS → Int32 → Option Int32) (hK : ∀ (g : Int32) (o : SS) (h q k : PS) (p : TPS) (z : TKS) (s : SHS) (t : MS), JJ g o h k p s t → K g o h q k p z s t (nI (i + 6)) = some 1) : (g_bnd (fX6_tear fu  g ) (fun u1277 => g_bnd (fX7_tear fu  t ) (fun u1281 => if u1277.1 = u1281.1 then (g_nm ((nI i) + (6 : Int32)) (fun x3_1335 => K u1277.2 o h q k p z s u1281.2 x3_1335)) else (some (0 : Int32))))) = some 1 := by
  obtain ⟨r, g', t', e1, e2, e3⟩ := pr_tear (fu := fu) hJ 
  rw [e1, bnd_s, e2, bnd_s]
  rw [if_pos rfl, nm_s, show nI i + (6 : Int32) = nI (i + 6) from nI_add i 6]
  exact hK _ _ _ _ _ _ _ _ _ e3
theorem law_c36 {fu : Nat} (hF : 5000 ≤ fu) {L : Nat} {xs : Nat → Int32} (hL : L ≤ 3072) {i : Nat} (hi : i + 6 ≤ L) {g : Int32} {o : SS} {h k : PS} {p : TPS} {s : SHS} {t : MS} (hJ : JJ g o h k p s t) (q : PS) (z : TKS) (K : Int32 → (Nat → Int32) → PS → PS → PS → TPS → TKS → SHS → MS → Int32 → Option Int32) (hK : ∀ (g : Int32) (o : SS) (h q k : PS) (p : TPS) (z : TKS) (s : SHS) (t : MS), JJ g o h k p s t → K g o h q k p z s t (nI (i + 6)) = some 1) : (g_ald xs L ((nI i) + (1 : Int32)) (fun v1294 => g_bnd (fX6_count fu  g o h p v1294) (fun u1295 => g_ald xs L ((nI i) + (1 : Int32)) (fun v1303 => g_bnd (fX7_count fu  t v1303) (fun u1304 => if u1295.1 = u1304.1 then (g_nm ((nI i) + (6 : Int32)) (fun x3_1335 => K g u1295.2 h q k p z s u1304.2 x3_1335)) else (some (0 : Int32))))))) = some 1 := by
  obtain ⟨r, o', t', e1, e2, e3⟩ := pr_count (fu := fu) (by omega) hJ (xs (i + 1))
  rw [show nI i + (1 : Int32) = nI (i + 1) from nI_add i 1, ald_nI (k := i + 1) (by omega) (by omega), e1, bnd_s, ald_nI (k := i + 1) (by omega) (by omega), e2, bnd_s]
  rw [if_pos rfl, nm_s, show nI i + (6 : Int32) = nI (i + 6) from nI_add i 6]
  exact hK _ _ _ _ _ _ _ _ _ e3
theorem law_c37 {fu : Nat} (hF : 5000 ≤ fu) {L : Nat} {xs : Nat → Int32} (hL : L ≤ 3072) {i : Nat} (hi : i + 6 ≤ L) {g : Int32} {o : SS} {h k : PS} {p : TPS} {s : SHS} {t : MS} (hJ : JJ g o h k p s t) (q : PS) (z : TKS) (K : Int32 → (Nat → Int32) → PS → PS → PS → TPS → TKS → SHS → MS → Int32 → Option Int32) (hK : ∀ (g : Int32) (o : SS) (h q k : PS) (p : TPS) (z : TKS) (s : SHS) (t : MS), JJ g o h k p s t → K g o h q k p z s t (nI (i + 6)) = some 1) : (g_ald xs L ((nI i) + (1 : Int32)) (fun v1317 => g_bnd (fX6_status fu  g o v1317) (fun u1318 => g_ald xs L ((nI i) + (1 : Int32)) (fun v1326 => g_bnd (fX7_status fu  t v1326) (fun u1327 => if u1318.1 = u1327.1 then (g_nm ((nI i) + (6 : Int32)) (fun x3_1335 => K g u1318.2 h q k p z s u1327.2 x3_1335)) else (some (0 : Int32))))))) = some 1 := by
  obtain ⟨r, o', t', e1, e2, e3⟩ := pr_status (fu := fu) (by omega) hJ (xs (i + 1))
  rw [show nI i + (1 : Int32) = nI (i + 1) from nI_add i 1, ald_nI (k := i + 1) (by omega) (by omega), e1, bnd_s, ald_nI (k := i + 1) (by omega) (by omega), e2, bnd_s]
  rw [if_pos rfl, nm_s, show nI i + (6 : Int32) = nI (i + 6) from nI_add i 6]
  exact hK _ _ _ _ _ _ _ _ _ e3
set_option maxHeartbeats 4000000 in
set_option maxRecDepth 10000 in
theorem law_st {fu : Nat} (hF : 5000 ≤ fu) {L : Nat} {xs : Nat → Int32} (hL : L ≤ 3072) {i : Nat} (hi : i + 6 ≤ L) {g : Int32} {o : SS} {h k : PS} {p : TPS} {s : SHS} {t : MS} (hJ : JJ g o h k p s t) (q : PS) (z : TKS) (K : Int32 → (Nat → Int32) → PS → PS → PS → TPS → TKS → SHS → MS → Int32 → Option Int32) (hK : ∀ (g : Int32) (o : SS) (h q k : PS) (p : TPS) (z : TKS) (s : SHS) (t : MS), JJ g o h k p s t → K g o h q k p z s t (nI (i + 6)) = some 1) : fL_law_b18B fu L xs K g o h q k p z s t (nI i) = some 1 := by
  unfold fL_law_b18B
  rw [if_neg (fun w => by have := (law_lt hL (by omega)).mp w; omega), ald_nI (k := i) (by omega) (by omega), nm_s]
  generalize xs i &&& (63 : Int32) = y
  by_cases h0 : y = (0 : Int32)
  · rw [if_pos h0]
    exact law_c0 (xs := xs) hF hL hi hJ q z K hK
  rw [if_neg h0]
  by_cases h1 : y = (1 : Int32)
  · rw [if_pos h1]
    exact law_c1 (xs := xs) hF hL hi hJ q z K hK
  rw [if_neg h1]
  by_cases h2 : y = (2 : Int32)
  · rw [if_pos h2]
    exact law_c2 (xs := xs) hF hL hi hJ q z K hK
  rw [if_neg h2]
  by_cases h3 : y = (3 : Int32)
  · rw [if_pos h3]
    exact law_c3 (xs := xs) hF hL hi hJ q z K hK
  rw [if_neg h3]
  by_cases h4 : y = (4 : Int32)
  · rw [if_pos h4]
    exact law_c4 (xs := xs) hF hL hi hJ q z K hK
  rw [if_neg h4]
  by_cases h5 : y = (5 : Int32)
  · rw [if_pos h5]
    exact law_c5 (xs := xs) hF hL hi hJ q z K hK
  rw [if_neg h5]
  by_cases h6 : y = (6 : Int32)
  · rw [if_pos h6]
    exact law_c6 (xs := xs) hF hL hi hJ q z K hK
  rw [if_neg h6]
  by_cases h7 : y = (7 : Int32)
  · rw [if_pos h7]
    exact law_c7 (xs := xs) hF hL hi hJ q z K hK
  rw [if_neg h7]
  by_cases h8 : y = (8 : Int32)
  · rw [if_pos h8]
    exact law_c8 (xs := xs) hF hL hi hJ q z K hK
  rw [if_neg h8]
  by_cases h9 : y = (9 : Int32)
  · rw [if_pos h9]
    exact law_c9 (xs := xs) hF hL hi hJ q z K hK
  rw [if_neg h9]
  by_cases h10 : y = (10 : Int32)
  · rw [if_pos h10]
    exact law_c10 (xs := xs) hF hL hi hJ q z K hK
  rw [if_neg h10]
  by_cases h11 : y = (11 : Int32)
  · rw [if_pos h11]
    exact law_c11 (xs := xs) hF hL hi hJ q z K hK
  rw [if_neg h11]
  by_cases h12 : y = (12 : Int32)
  · rw [if_pos h12]
    exact law_c12 (xs := xs) hF hL hi hJ q z K hK
  rw [if_neg h12]
  by_cases h13 : y = (13 : Int32)
  · rw [if_pos h13]
    exact law_c13 (xs := xs) hF hL hi hJ q z K hK
  rw [if_neg h13]
  by_cases h14 : y = (14 : Int32)
  · rw [if_pos h14]
    exact law_c14 (xs := xs) hF hL hi hJ q z K hK
  rw [if_neg h14]
  by_cases h15 : y = (15 : Int32)
  · rw [if_pos h15]
    exact law_c15 (xs := xs) hF hL hi hJ q z K hK
  rw [if_neg h15]
  by_cases h16 : y = (16 : Int32)
  · rw [if_pos h16]
    exact law_c16 (xs := xs) hF hL hi hJ q z K hK
  rw [if_neg h16]
  by_cases h17 : y = (17 : Int32)
  · rw [if_pos h17]
    exact law_c17 (xs := xs) hF hL hi hJ q z K hK
  rw [if_neg h17]
  by_cases h18 : y = (18 : Int32)
  · rw [if_pos h18]
    exact law_c18 (xs := xs) hF hL hi hJ q z K hK
  rw [if_neg h18]
  by_cases h19 : y = (19 : Int32)
  · rw [if_pos h19]
    exact law_c19 (xs := xs) hF hL hi hJ q z K hK
  rw [if_neg h19]
  by_cases h20 : y = (20 : Int32)
  · rw [if_pos h20]
    exact law_c20 (xs := xs) hF hL hi hJ q z K hK
  rw [if_neg h20]
  by_cases h21 : y = (21 : Int32)
  · rw [if_pos h21]
    exact law_c21 (xs := xs) hF hL hi hJ q z K hK
  rw [if_neg h21]
  by_cases h22 : y = (22 : Int32)
  · rw [if_pos h22]
    exact law_c22 (xs := xs) hF hL hi hJ q z K hK
  rw [if_neg h22]
  by_cases h23 : y = (23 : Int32)
  · rw [if_pos h23]
    exact law_c23 (xs := xs) hF hL hi hJ q z K hK
  rw [if_neg h23]
  by_cases h24 : y = (24 : Int32)
  · rw [if_pos h24]
    exact law_c24 (xs := xs) hF hL hi hJ q z K hK
  rw [if_neg h24]
  by_cases h25 : y = (25 : Int32)
  · rw [if_pos h25]
    exact law_c25 (xs := xs) hF hL hi hJ q z K hK
  rw [if_neg h25]
  by_cases h26 : y = (26 : Int32)
  · rw [if_pos h26]
    exact law_c26 (xs := xs) hF hL hi hJ q z K hK
  rw [if_neg h26]
  by_cases h27 : y = (27 : Int32)
  · rw [if_pos h27]
    exact law_c27 (xs := xs) hF hL hi hJ q z K hK
  rw [if_neg h27]
  by_cases h28 : y = (28 : Int32)
  · rw [if_pos h28]
    exact law_c28 (xs := xs) hF hL hi hJ q z K hK
  rw [if_neg h28]
  by_cases h29 : y = (29 : Int32)
  · rw [if_pos h29]
    exact law_c29 (xs := xs) hF hL hi hJ q z K hK
  rw [if_neg h29]
  by_cases h30 : y = (30 : Int32)
  · rw [if_pos h30]
    exact law_c30 (xs := xs) hF hL hi hJ q z K hK
  rw [if_neg h30]
  by_cases h31 : y = (31 : Int32)
  · rw [if_pos h31]
    exact law_c31 (xs := xs) hF hL hi hJ q z K hK
  rw [if_neg h31]
  by_cases h32 : y = (32 : Int32)
  · rw [if_pos h32]
    exact law_c32 (xs := xs) hF hL hi hJ q z K hK
  rw [if_neg h32]
  by_cases h33 : y = (33 : Int32)
  · rw [if_pos h33]
    exact law_c33 (xs := xs) hF hL hi hJ q z K hK
  rw [if_neg h33]
  by_cases h34 : y = (34 : Int32)
  · rw [if_pos h34]
    exact law_c34 (xs := xs) hF hL hi hJ q z K hK
  rw [if_neg h34]
  by_cases h35 : y = (35 : Int32)
  · rw [if_pos h35]
    exact law_c35 (xs := xs) hF hL hi hJ q z K hK
  rw [if_neg h35]
  by_cases h36 : y = (36 : Int32)
  · rw [if_pos h36]
    exact law_c36 (xs := xs) hF hL hi hJ q z K hK
  rw [if_neg h36]
  by_cases h37 : y = (37 : Int32)
  · rw [if_pos h37]
    exact law_c37 (xs := xs) hF hL hi hJ q z K hK
  rw [if_neg h37]
  rw [nm_s, show nI i + (6 : Int32) = nI (i + 6) from nI_add i 6]
  exact hK _ _ _ _ _ _ _ _ _ hJ
theorem law_all {fu : Nat} (hF : 5000 ≤ fu) {L : Nat} {xs : Nat → Int32} (hL : L ≤ 3072) : ∀ (n i fuel : Nat) (g : Int32) (o : SS) (h q k : PS) (p : TPS) (z : TKS) (s : SHS) (t : MS), L < i + 6 * n + 6 → i ≤ L → n < fuel → JJ g o h k p s t → g_lp (fun _ _ _ _ _ _ _ _ _ _ => none) (fL_law_b18B fu L xs) fuel g o h q k p z s t (nI i) = some 1 := by
  intro n
  induction n with
  | zero =>
    intro i fuel g o h q k p z s t hi hiL hf hJ
    obtain ⟨j, rfl⟩ : ∃ j, fuel = j + 1 := ⟨fuel - 1, by omega⟩
    rw [g_lp_s]
    unfold fL_law_b18B
    rw [if_pos ((law_lt hL (by omega)).mpr (by omega))]
  | succ n ih =>
    intro i fuel g o h q k p z s t hi hiL hf hJ
    obtain ⟨j, rfl⟩ : ∃ j, fuel = j + 1 := ⟨fuel - 1, by omega⟩
    rw [g_lp_s]
    by_cases hd : L < i + 6
    · unfold fL_law_b18B
      rw [if_pos ((law_lt hL (by omega)).mpr hd)]
    · exact law_st hF hL (by omega) hJ q z _ (fun g o h q k p z s t hJ' => ih (i + 6) j g o h q k p z s t (by omega) (by omega) (by omega) hJ')
theorem law_one {L : Nat} {xs : Nat → Int32} (hL : L ≤ 3072) {g : Int32} {o : SS} {h q k : PS} {p : TPS} {z : TKS} {s : SHS} {t : MS} (hJ : JJ g o h k p s t) : fL_law_b18 5000 L xs g o h q k p z s t 0 = some 1 := law_all (Nat.le_refl _) hL 600 0 5000 g o h q k p z s t (by omega) (by omega) (by omega) hJ
