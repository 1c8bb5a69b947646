/-! the reference's rounds, gone through -/
theorem nz_nI {ρ : Type} {n : Nat} (h0 : 0 < n) (h : n < 2 ^ 31) (k : Option ρ) : g_nz (nI n) k = k := if_neg (nI_ne0 h0 h)
def agr (c s : SS) : Prop := ∀ k, k ≠ 5 + 4 * 0 + 3 → k ≠ 5 + 4 * 1 + 3 → k ≠ 5 + 4 * 2 + 3 → k ≠ 5 + 4 * 3 + 3 → c k = s k
theorem agr_u {c s : SS} (h : agr c s) (v0 v1 v2 v3 : Int32) : upd (upd (upd (upd c (5 + 4 * 0 + 3) v0) (5 + 4 * 1 + 3) v1) (5 + 4 * 2 + 3) v2) (5 + 4 * 3 + 3) v3 = upd (upd (upd (upd s (5 + 4 * 0 + 3) v0) (5 + 4 * 1 + 3) v1) (5 + 4 * 2 + 3) v2) (5 + 4 * 3 + 3) v3 := by
  funext k
  by_cases k3 : k = 5 + 4 * 3 + 3
  · subst k3; rw [pk_us, pk_us]
  · rw [pk_un k3, pk_un k3]
    by_cases k2 : k = 5 + 4 * 2 + 3
    · subst k2; rw [pk_us, pk_us]
    · rw [pk_un k2, pk_un k2]
      by_cases k1 : k = 5 + 4 * 1 + 3
      · subst k1; rw [pk_us, pk_us]
      · rw [pk_un k1, pk_un k1]
        by_cases k0 : k = 5 + 4 * 0 + 3
        · subst k0; rw [pk_us, pk_us]
        · rw [pk_un k0, pk_un k0]; exact h k k0 k1 k2 k3
theorem agr_sd (s : SS) (c : Nat) : agr (sdN s c) s := by
  intro k q0 q1 q2 q3
  unfold sdN
  rw [pk_un q3, pk_un q2, pk_un q1, pk_un q0]
theorem dg_mo {a b c e : Nat} (ha : a < 8) (hb : b < 8) (hc : c < 8) (he : e < 8) : dg (512 * a + 64 * b + 8 * c + e) 0 = a ∧ dg (512 * a + 64 * b + 8 * c + e) 1 = b ∧ dg (512 * a + 64 * b + 8 * c + e) 2 = c ∧ dg (512 * a + 64 * b + 8 * c + e) 3 = e := by
  refine ⟨?_, ?_, ?_, ?_⟩
  · show (512 * a + 64 * b + 8 * c + e) / 512 % 8 = a; omega
  · show (512 * a + 64 * b + 8 * c + e) / 64 % 8 = b; omega
  · show (512 * a + 64 * b + 8 * c + e) / 8 % 8 = c; omega
  · show (512 * a + 64 * b + 8 * c + e) / 1 % 8 = e; omega
theorem tens_i (a b c e : Nat) : ((nI a + (10 : Int32) * nI b) + (100 : Int32) * nI c) + (1000 : Int32) * nI e = nI (a + 10 * b + 100 * c + 1000 * e) := by
  rw [show (10 : Int32) = nI 10 from rfl, show (100 : Int32) = nI 100 from rfl, show (1000 : Int32) = nI 1000 from rfl, pk_mul, pk_mul, pk_mul, nI_add, nI_add, nI_add]
theorem m4_lt {M : Nat} (hM : M ≤ 8) : M * M ≤ 64 ∧ M * M * M ≤ 512 ∧ M * M * M * M ≤ 4096 := by
  have h1 : M * M ≤ 8 * 8 := Nat.mul_le_mul hM hM
  have h2 : M * M * M ≤ 8 * 8 * 8 := Nat.mul_le_mul h1 hM
  have h3 : M * M * M * M ≤ 8 * 8 * 8 * 8 := Nat.mul_le_mul h2 hM
  exact ⟨h1, h2, h3⟩
theorem r7_n {fu : Nat} {M q : Nat} (hM0 : 0 < M) (hM : M ≤ 8) (hq : q < M * M * M * M) (hB : mB M q = false) (m : Nat) (K : MS → Int32 → Int32 → Int32 → Option (Int32 × MS)) (u : MS) (x2 x3 : Int32) : fX7_round_b63B fu (nI m) (nI M) K u x2 x3 (nI q) = K u x2 x3 (nI (q + 1)) := by
  obtain ⟨m2, m3, m4⟩ := m4_lt hM
  have p2 : 0 < M * M := Nat.mul_pos hM0 hM0
  have p3 : 0 < M * M * M := Nat.mul_pos p2 hM0
  have d2 : q / (M * M) < 2 ^ 31 := Nat.lt_of_le_of_lt (Nat.div_le_self _ _) (by omega)
  have d1 : q / M < 2 ^ 31 := Nat.lt_of_le_of_lt (Nat.div_le_self _ _) (by omega)
  have d3 : q / (M * M * M) < 2 ^ 31 := Nat.lt_of_le_of_lt (Nat.div_le_self _ _) (by omega)
  have e1 : q / (M * M) % M < 2 ^ 31 := Nat.lt_of_le_of_lt (Nat.mod_le _ _) d2
  have e2 : q / M % M < 2 ^ 31 := Nat.lt_of_le_of_lt (Nat.mod_le _ _) d1
  have e3 : q % M < 2 ^ 31 := Nat.lt_of_le_of_lt (Nat.mod_le _ _) (by omega)
  unfold fX7_round_b63B
  simp only [pk_mul]
  rw [if_neg (nI_ge hq (by omega)), nz_nI p3 (by omega), nm_s, nz_nI p2 (by omega), nz_nI hM0 (by omega), nm_s, nz_nI hM0 (by omega), nz_nI hM0 (by omega), nm_s, nz_nI hM0 (by omega), nm_s, nm_s, pk_div (by omega) p3 (by omega), pk_div (by omega) p2 (by omega), pk_rem d2 hM0 (by omega), pk_rem (a := q) (by omega) hM0 (by omega), pk_div (a := q) (by omega) hM0 (by omega), pk_rem d1 hM0 (by omega), nI_1]
  unfold mB at hB
  generalize q / (M * M * M) = A at hB d3 ⊢
  generalize q / (M * M) % M = B at hB e1 ⊢
  generalize q / M % M = C at hB e2 ⊢
  generalize q % M = E at hB e3 ⊢
  by_cases c1 : A = B
  · rw [if_pos (by rw [c1])]
  · rw [if_neg (fun z => c1 ((nI_eq d3 e1).mp z))]
    by_cases c2 : A = C
    · rw [if_pos (by rw [c2])]
    · rw [if_neg (fun z => c2 ((nI_eq d3 e2).mp z))]
      by_cases c3 : A = E
      · rw [if_pos (by rw [c3])]
      · rw [if_neg (fun z => c3 ((nI_eq d3 e3).mp z))]
        by_cases c4 : B = C
        · rw [if_pos (by rw [c4])]
        · rw [if_neg (fun z => c4 ((nI_eq e1 e2).mp z))]
          by_cases c5 : B = E
          · rw [if_pos (by rw [c5])]
          · rw [if_neg (fun z => c5 ((nI_eq e1 e3).mp z))]
            by_cases c6 : C = E
            · rw [if_pos (by rw [c6])]
            · simp [c1, c2, c3, c4, c5, c6] at hB
theorem mB_t {M q : Nat} (h : mB M q = true) : q / (M * M * M) ≠ q / (M * M) % M ∧ q / (M * M * M) ≠ q / M % M ∧ q / (M * M * M) ≠ q % M ∧ q / (M * M) % M ≠ q / M % M ∧ q / (M * M) % M ≠ q % M ∧ q / M % M ≠ q % M := by
  unfold mB at h
  simp at h
  exact h
theorem mo_VP {M q : Nat} (hM0 : 0 < M) (hM : M ≤ 8) (hq : q < M * M * M * M) (hB : mB M q = true) : VP M (mo M q) ∧ mo M q < 4096 ∧ dg (mo M q) 0 = q / (M * M * M) ∧ dg (mo M q) 1 = q / (M * M) % M ∧ dg (mo M q) 2 = q / M % M ∧ dg (mo M q) 3 = q % M := by
  have a1 : q / (M * M * M) < M := Nat.div_lt_of_lt_mul hq
  have a2 : q / (M * M) % M < M := Nat.mod_lt _ hM0
  have a3 : q / M % M < M := Nat.mod_lt _ hM0
  have a4 : q % M < M := Nat.mod_lt _ hM0
  have hb := mB_t hB
  unfold VP mo
  generalize q / (M * M * M) = A at *
  generalize q / (M * M) % M = B at *
  generalize q / M % M = C at *
  generalize q % M = E at *
  obtain ⟨g0, g1, g2, g3⟩ := dg_mo (a := A) (b := B) (c := C) (e := E) (by omega) (by omega) (by omega) (by omega)
  rw [g0, g1, g2, g3]
  exact ⟨⟨a1, a2, a3, a4, hb⟩, by omega, rfl, rfl, rfl, rfl⟩
theorem r7_y {fu : Nat} (hF : 5000 ≤ fu) {s : SS} (hI : IS s) {q : Nat} (hM0 : 0 < vv s 0) (hq : q < vv s 0 * vv s 0 * vv s 0 * vv s 0) (hB : mB (vv s 0) q = true) {m : Nat} (hm : m ≤ 60) (t : MS) {c : SS} (hc : agr c s) (a : SS) (d : Int32) (e : SS) : ∃ a' d', ∀ (K : MS → Int32 → Int32 → Int32 → Option (Int32 × MS)) (x2 x3 : Int32), fX7_round_b63B fu (nI m) (nI (vv s 0)) K (NF t c a d e) x2 x3 (nI q) = if x2 < 0 then K (NF t (sdN s (mo (vv s 0) q)) a' d' e) (nI (tens (mo (vv s 0) q))) (nI (dryN m (sdN s (mo (vv s 0) q)))) (nI (q + 1)) else if x3 ≤ nI (dryN m (sdN s (mo (vv s 0) q))) then K (NF t (sdN s (mo (vv s 0) q)) a' d' e) x2 x3 (nI (q + 1)) else K (NF t (sdN s (mo (vv s 0) q)) a' d' e) (nI (tens (mo (vv s 0) q))) (nI (dryN m (sdN s (mo (vv s 0) q)))) (nI (q + 1)) := by
  have hM := hI.1.2
  obtain ⟨w1, w2, w3, w4, w5, w6⟩ := mo_VP hM0 hM hq hB
  obtain ⟨d', h1⟩ := dryOn_s hF t a d e (IS_sd hI w1) hm
  refine ⟨sdN s (mo (vv s 0) q), d', fun K x2 x3 => ?_⟩
  have hb := mB_t hB
  have hs : upd (upd (upd (upd c (5 + 4 * 0 + 3) (nI (q / (vv s 0 * vv s 0 * vv s 0)))) (5 + 4 * 1 + 3) (nI (q / (vv s 0 * vv s 0) % vv s 0))) (5 + 4 * 2 + 3) (nI (q / vv s 0 % vv s 0))) (5 + 4 * 3 + 3) (nI (q % vv s 0)) = sdN s (mo (vv s 0) q) := by
    unfold sdN
    rw [w3, w4, w5, w6]
    exact agr_u hc _ _ _ _
  have ht : tens (mo (vv s 0) q) = q / (vv s 0 * vv s 0 * vv s 0) + 10 * (q / (vv s 0 * vv s 0) % vv s 0) + 100 * (q / vv s 0 % vv s 0) + 1000 * (q % vv s 0) := by
    unfold tens
    rw [w3, w4, w5, w6]
  generalize vv s 0 = M at *
  obtain ⟨m2, m3, m4⟩ := m4_lt hM
  have p2 : 0 < M * M := Nat.mul_pos hM0 hM0
  have p3 : 0 < M * M * M := Nat.mul_pos p2 hM0
  have d2 : q / (M * M) < 2 ^ 31 := Nat.lt_of_le_of_lt (Nat.div_le_self _ _) (by omega)
  have d1 : q / M < 2 ^ 31 := Nat.lt_of_le_of_lt (Nat.div_le_self _ _) (by omega)
  have d3 : q / (M * M * M) < 2 ^ 31 := Nat.lt_of_le_of_lt (Nat.div_le_self _ _) (by omega)
  have e1 : q / (M * M) % M < 2 ^ 31 := Nat.lt_of_le_of_lt (Nat.mod_le _ _) d2
  have e2 : q / M % M < 2 ^ 31 := Nat.lt_of_le_of_lt (Nat.mod_le _ _) d1
  have e3 : q % M < 2 ^ 31 := Nat.lt_of_le_of_lt (Nat.mod_le _ _) (by omega)
  have f0 : fX7_field fu (0 : Int32) 3 = some (nI (5 + 4 * 0 + 3)) := fld3 fu (f := 0) (by decide)
  have f1 : fX7_field fu (1 : Int32) 3 = some (nI (5 + 4 * 1 + 3)) := fld3 fu (f := 1) (by decide)
  have f2 : fX7_field fu (2 : Int32) 3 = some (nI (5 + 4 * 2 + 3)) := fld3 fu (f := 2) (by decide)
  have f3 : fX7_field fu (3 : Int32) 3 = some (nI (5 + 4 * 3 + 3)) := fld3 fu (f := 3) (by decide)
  unfold fX7_round_b63B fX7_round_b234 fX7_round_b266
  simp only [pk_mul]
  rw [if_neg (nI_ge hq (by omega)), nz_nI p3 (by omega), nm_s, nz_nI p2 (by omega), nz_nI hM0 (by omega), nm_s, nz_nI hM0 (by omega), nz_nI hM0 (by omega), nm_s, nz_nI hM0 (by omega), nm_s, nm_s, pk_div (by omega) p3 (by omega), pk_div (by omega) p2 (by omega), pk_rem d2 hM0 (by omega), pk_rem (a := q) (by omega) hM0 (by omega), pk_div (a := q) (by omega) hM0 (by omega), pk_rem d1 hM0 (by omega), nI_1]
  rw [if_neg (fun z => hb.1 ((nI_eq d3 e1).mp z)), if_neg (fun z => hb.2.1 ((nI_eq d3 e2).mp z)), if_neg (fun z => hb.2.2.1 ((nI_eq d3 e3).mp z)), if_neg (fun z => hb.2.2.2.1 ((nI_eq e1 e2).mp z)), if_neg (fun z => hb.2.2.2.2.1 ((nI_eq e1 e3).mp z)), if_neg (fun z => hb.2.2.2.2.2 ((nI_eq e2 e3).mp z))]
  rw [f0, bnd_s, in53 (by decide), f1, bnd_s, in53 (by decide), f2, bnd_s, in53 (by decide), f3, bnd_s, in53 (by decide), nI_clamp (by decide), nI_clamp (by decide), nI_clamp (by decide), nI_clamp (by decide), NF_u, NF_u, NF_u, NF_u, hs, h1, bnd_s, tens_i, ← ht]
  have z1 : ∀ (a b : Option (Int32 × MS)), (if (1 : Int32) = 0 then a else b) = b := fun _ _ => if_neg (by decide)
  simp only [z1, nm_s, if_true]
theorem rdm_y {M q : Nat} (n : Nat) (h : mB M q = true) : rdm M q (n + 1) = mo M q :: rdm M (q + 1) n := by
  unfold rdm
  rw [List.range'_succ, List.filter_cons_of_pos h, List.map_cons]
theorem rdm_n {M q : Nat} (n : Nat) (h : mB M q = false) : rdm M q (n + 1) = rdm M (q + 1) n := by
  unfold rdm
  rw [List.range'_succ, List.filter_cons_of_neg (by rw [h]; decide)]
theorem tens_lt (c : Nat) : tens c < 2 ^ 31 := by
  have h0 := dg_lt c 0
  have h1 := dg_lt c 1
  have h2 := dg_lt c 2
  have h3 := dg_lt c 3
  unfold tens
  omega
theorem rou7_b {fu : Nat} (hF : 5000 ≤ fu) {s : SS} (hI : IS s) (hM0 : 0 < vv s 0) {m : Nat} (hm : m ≤ 60) (t : MS) (e : SS) : ∀ (n q fuel b l : Nat) (c a : SS) (d : Int32), q + n = vv s 0 * vv s 0 * vv s 0 * vv s 0 → n < fuel → agr c s → l < 2 ^ 31 → ∃ c' a' d', agr c' s ∧ g_lp (fun _ _ _ _ => none) (fX7_round_b63B fu (nI m) (nI (vv s 0))) fuel (NF t c a d e) (nI (tens b)) (nI l) (nI q) = fX7_round_b288 fu (nI (tens (amL (fun c => dryN m (sdN s c)) (rdm (vv s 0) q n) b l))) (NF t c' a' d' e) 0 := by
  have hM := hI.1.2
  obtain ⟨m2, m3, m4⟩ := m4_lt hM
  intro n
  induction n with
  | zero =>
    intro q fuel b l c a d hq hf hc hl
    obtain ⟨j, rfl⟩ : ∃ j, fuel = j + 1 := ⟨fuel - 1, by omega⟩
    refine ⟨c, a, d, hc, ?_⟩
    rw [g_lp_s]
    unfold fX7_round_b63B
    rw [pk_mul, pk_mul, pk_mul, if_pos (nI_le (by omega) (by omega))]
    rfl
  | succ n ih =>
    intro q fuel b l c a d hq hf hc hl
    obtain ⟨j, rfl⟩ : ∃ j, fuel = j + 1 := ⟨fuel - 1, by omega⟩
    cases hB : mB (vv s 0) q with
    | false =>
      rw [g_lp_s, r7_n hM0 hM (by omega) hB, rdm_n n hB]
      exact ih (q + 1) j b l c a d (by omega) (by omega) hc hl
    | true =>
      obtain ⟨a', d', h1⟩ := r7_y hF hI hM0 (q := q) (by omega) hB hm t hc a d e
      have hd := dryN_le m (IS_sd hI (mo_VP hM0 hM (by omega) hB).1)
      rw [g_lp_s, h1, if_neg (nI_pos (tens_lt b)), rdm_y n hB]
      unfold amL
      by_cases hlt : dryN m (sdN s (mo (vv s 0) q)) < l
      · rw [if_neg (nI_ge hlt hl), if_pos hlt]
        exact ih (q + 1) j _ _ _ _ _ (by omega) (by omega) (agr_sd s _) (by omega)
      · rw [if_pos (nI_le (by omega) (by omega)), if_neg hlt]
        exact ih (q + 1) j b l _ _ _ (by omega) (by omega) (agr_sd s _) hl
def rr (D : Nat → Nat) : List Nat → Int32
  | [] => -1
  | c :: L => nI (tens (amL D L c (D c)))
theorem rou7_a {fu : Nat} (hF : 5000 ≤ fu) {s : SS} (hI : IS s) (hM0 : 0 < vv s 0) {m : Nat} (hm : m ≤ 60) (t : MS) (e : SS) : ∀ (n q fuel : Nat) (c a : SS) (d : Int32), q + n = vv s 0 * vv s 0 * vv s 0 * vv s 0 → n < fuel → agr c s → ∃ c' a' d', agr c' s ∧ g_lp (fun _ _ _ _ => none) (fX7_round_b63B fu (nI m) (nI (vv s 0))) fuel (NF t c a d e) (-1) 0 (nI q) = fX7_round_b288 fu (rr (fun c => dryN m (sdN s c)) (rdm (vv s 0) q n)) (NF t c' a' d' e) 0 := by
  have hM := hI.1.2
  obtain ⟨m2, m3, m4⟩ := m4_lt hM
  intro n
  induction n with
  | zero =>
    intro q fuel c a d hq hf hc
    obtain ⟨j, rfl⟩ : ∃ j, fuel = j + 1 := ⟨fuel - 1, by omega⟩
    refine ⟨c, a, d, hc, ?_⟩
    rw [g_lp_s]
    unfold fX7_round_b63B
    rw [pk_mul, pk_mul, pk_mul, if_pos (nI_le (by omega) (by omega))]
    rfl
  | succ n ih =>
    intro q fuel c a d hq hf hc
    obtain ⟨j, rfl⟩ : ∃ j, fuel = j + 1 := ⟨fuel - 1, by omega⟩
    cases hB : mB (vv s 0) q with
    | false =>
      rw [g_lp_s, r7_n hM0 hM (by omega) hB, rdm_n n hB]
      exact ih (q + 1) j c a d (by omega) (by omega) hc
    | true =>
      obtain ⟨a', d', h1⟩ := r7_y hF hI hM0 (q := q) (by omega) hB hm t hc a d e
      have hd := dryN_le m (IS_sd hI (mo_VP hM0 hM (by omega) hB).1)
      rw [g_lp_s, h1, if_pos (by decide), rdm_y n hB]
      exact rou7_b hF hI hM0 hm t e n (q + 1) j _ _ _ _ _ (by omega) (by omega) (agr_sd s _) (by omega)
theorem rs1_st (fu : Nat) (m : Int32) (t : MS) (c a : SS) (d : Int32) (e : SS) {f : Nat} (hf : f < 4) (K : MS → Int32 → Option (Int32 × MS)) : fX7_round_b21B fu m K (NF t c a d e) (nI f) = K (NF t c a d (upd e f (c (5 + 4 * f + 3)))) (nI (f + 1)) := by
  unfold fX7_round_b21B
  rw [if_neg (show ¬ (4 : Int32) ≤ nI f from nI_ge (b := 4) hf (by decide)), fld3 fu hf, bnd_s, NF_S, ald53 (by omega), in4 hf, nm_s, nI_1, nI_clamp (by omega), NF_ue]
theorem rs2_st (fu : Nat) (x2 : Int32) (t : MS) (c a : SS) (d : Int32) (e : SS) {f : Nat} (hf : f < 4) (K : MS → Int32 → Option (Int32 × MS)) : fX7_round_b288B fu x2 K (NF t c a d e) (nI f) = K (NF t (upd c (5 + 4 * f + 3) (e f)) a d e) (nI (f + 1)) := by
  unfold fX7_round_b288B
  rw [if_neg (show ¬ (4 : Int32) ≤ nI f from nI_ge (b := 4) hf (by decide)), fld3 fu hf, bnd_s, NF_e, ald4 hf, in53 (by omega), nm_s, nI_1, nI_clamp (by omega), NF_u]
theorem rs2_s {fu : Nat} (hF : 5000 ≤ fu) (x2 : Int32) (t : MS) {s c : SS} (hc : agr c s) (a : SS) (d : Int32) (e : SS) (h0 : e 0 = s (5 + 4 * 0 + 3)) (h1 : e 1 = s (5 + 4 * 1 + 3)) (h2 : e 2 = s (5 + 4 * 2 + 3)) (h3 : e 3 = s (5 + 4 * 3 + 3)) : fX7_round_b288 fu x2 (NF t c a d e) 0 = if (0 : Int32) ≤ x2 then some (x2, NF t s a d e) else some (-1000000004, ftN (NF t s a d e) 3) := by
  obtain ⟨k, rfl⟩ : ∃ k, fu = k + 5 := ⟨fu - 5, by omega⟩
  show g_lp (fun _ _ => none) (fX7_round_b288B (k + 5) x2) (k + 5) (NF t c a d e) (nI 0) = _
  rw [g_lp_s, rs2_st (k + 5) _ t _ _ _ e (by decide), g_lp_s, rs2_st (k + 5) _ t _ _ _ e (by decide), g_lp_s, rs2_st (k + 5) _ t _ _ _ e (by decide), g_lp_s, rs2_st (k + 5) _ t _ _ _ e (by decide), g_lp_s]
  have eb : upd (upd (upd (upd c (5 + 4 * 0 + 3) (e 0)) (5 + 4 * (0 + 1) + 3) (e (0 + 1))) (5 + 4 * (0 + 1 + 1) + 3) (e (0 + 1 + 1))) (5 + 4 * (0 + 1 + 1 + 1) + 3) (e (0 + 1 + 1 + 1)) = s := back4 hc h0 h1 h2 h3
  rw [eb]
  unfold fX7_round_b288B
  rw [if_pos (show (4 : Int32) ≤ nI (0 + 1 + 1 + 1 + 1) by decide), f7_3, bnd_s]
theorem rou7_s {fu : Nat} (hF : 5000 ≤ fu) {m : Nat} (hm : m ≤ 60) (t : MS) {s : SS} (hI : IS s) (a : SS) (d : Int32) (e : SS) : ∃ a' d' e', fX7_round_b21 fu (nI m) (NF t s a d e) 0 = if (0 : Int32) ≤ rr (fun c => dryN m (sdN s c)) (rds (vv s 0) 0 4096) then some (rr (fun c => dryN m (sdN s c)) (rds (vv s 0) 0 4096), NF t s a' d' e') else some (-1000000004, ftN (NF t s a' d' e') 3) := by
  have hM := hI.1.2
  obtain ⟨m2, m3, m4⟩ := m4_lt hM
  obtain ⟨k, rfl⟩ : ∃ k, fu = k + 5 := ⟨fu - 5, by omega⟩
  have e1 : fX7_round_b21 (k + 5) (nI m) (NF t s a d e) 0 = fX7_round_b63 (k + 5) (nI m) (s 0) (NF t s a d (upd (upd (upd (upd e 0 (s (5 + 4 * 0 + 3))) 1 (s (5 + 4 * 1 + 3))) 2 (s (5 + 4 * 2 + 3))) 3 (s (5 + 4 * 3 + 3)))) (-1) 0 0 := by
    show g_lp (fun _ _ => none) (fX7_round_b21B (k + 5) (nI m)) (k + 5) (NF t s a d e) (nI 0) = _
    rw [g_lp_s, rs1_st (k + 5) _ t _ _ _ _ (by decide), g_lp_s, rs1_st (k + 5) _ t _ _ _ _ (by decide), g_lp_s, rs1_st (k + 5) _ t _ _ _ _ (by decide), g_lp_s, rs1_st (k + 5) _ t _ _ _ _ (by decide), g_lp_s]
    unfold fX7_round_b21B
    rw [if_pos (show (4 : Int32) ≤ nI (0 + 1 + 1 + 1 + 1) by decide), NF_S, a53_0]
  rw [e1, hI.1.1, rds_rdm _ (by omega)]
  generalize hE : upd (upd (upd (upd e 0 (s (5 + 4 * 0 + 3))) 1 (s (5 + 4 * 1 + 3))) 2 (s (5 + 4 * 2 + 3))) 3 (s (5 + 4 * 3 + 3)) = E
  have E0 : E 0 = s (5 + 4 * 0 + 3) := by rw [← hE, pk_un (by omega), pk_un (by omega), pk_un (by omega), pk_us]
  have E1 : E 1 = s (5 + 4 * 1 + 3) := by rw [← hE, pk_un (by omega), pk_un (by omega), pk_us]
  have E2 : E 2 = s (5 + 4 * 2 + 3) := by rw [← hE, pk_un (by omega), pk_us]
  have E3 : E 3 = s (5 + 4 * 3 + 3) := by rw [← hE, pk_us]
  by_cases hM0 : 0 < vv s 0
  · obtain ⟨c', a', d', h1, h2⟩ := rou7_a hF hI hM0 hm t E (vv s 0 * vv s 0 * vv s 0 * vv s 0) 0 (k + 5) s a d (by omega) (by omega) (fun _ _ _ _ _ => rfl)
    have h2' : fX7_round_b63 (k + 5) (nI m) (nI (vv s 0)) (NF t s a d E) (-1) 0 0 = _ := h2
    refine ⟨a', d', E, ?_⟩
    rw [h2']
    exact rs2_s hF _ t h1 a' d' E E0 E1 E2 E3
  · have e0 : vv s 0 = 0 := by omega
    refine ⟨a, d, E, ?_⟩
    have e2 : fX7_round_b63 (k + 5) (nI m) (nI (vv s 0)) (NF t s a d E) (-1) 0 0 = fX7_round_b288 (k + 5) (-1) (NF t s a d E) 0 := by
      rw [e0]
      show g_lp (fun _ _ _ _ => none) (fX7_round_b63B (k + 5) (nI m) (nI 0)) (k + 5) (NF t s a d E) (-1) 0 0 = _
      rw [g_lp_s]
      unfold fX7_round_b63B
      rw [if_pos (by decide)]
    rw [e2, rs2_s hF _ t (s := s) (fun _ _ _ _ _ => rfl) a d E E0 E1 E2 E3, e0]
    rfl
theorem rds_lt (M : Nat) : ∀ c ∈ rds M 0 4096, c < 4096 := by
  intro c hc
  unfold rds at hc
  have := (List.mem_filter.mp hc).1
  rw [List.mem_range'_1] at this
  omega
theorem rds_4 : ∀ M, M < 9 → (rds M 0 4096 = [] ↔ M < 4) := by decide +kernel
theorem pr_round {fu : Nat} (hF : 5000 ≤ fu) {g : Int32} {o : SS} {h k : PS} {p : TPS} {s : SHS} {t : MS} (hJ : JJ g o h k p s t) (q : PS) (a : Int32) : ∃ r o' q' t', fX6_round fu g o h q a = some (r, o', q') ∧ fX7_round fu t a = some (r, t') ∧ JJ g o' h k p s t' := by
  obtain ⟨hR, hI⟩ := hJ.2.1
  have h8 := hI.1.2
  unfold fX6_round fX7_round
  rw [within_s, bnd_s, tb_if, in_k fu a 1 7 1 7 (by decide) (by decide), bnd_s, tb_if]
  by_cases ha : (1 : Int32) ≤ a ∧ a ≤ 7
  · obtain ⟨n, hn1, hn2, rfl⟩ := rng1 (n := 7) ha (by decide)
    obtain ⟨a', d', e', e1⟩ := rou7_s hF (m := n) (by omega) t hI (mgAside t) (mgDryNow t) (mgSent t)
    rw [NF_id] at e1
    have h4 := rds_4 (vv (mgS t) 0) (by omega)
    rw [if_pos ha, if_pos ha, e1, hR.1, hI.1.1]
    by_cases hp : vv (mgS t) 0 < 4
    · rw [h4.mpr hp, if_neg (show ¬ (4 : Int32) ≤ nI (vv (mgS t) 0) from nI_ge (b := 4) hp (by decide)), f6_3]
      show ∃ r o' q' t', _ ∧ (if (0 : Int32) ≤ -1 then _ else _) = _ ∧ _
      rw [if_neg (by decide)]
      exact ⟨_, _, _, _, rfl, rfl, JJ_f (NF_J hJ a' d' e') 3 (by decide)⟩
    · obtain ⟨x', e2⟩ := rou6_l hF g o hR hI (m := n) (by omega) 4096 0 fu 0 1000000 q (by omega) (by omega) (by omega)
      have f1 : fX6_round_b41 fu g h (nI n) o q 0 1000000 0 = _ := e2
      have hlt := amL_lt (fun c => dryN n (sdN (mgS t) c)) 4096 (rds (vv (mgS t) 0) 0 4096) 0 1000000 (rds_lt _) (by omega)
      rw [if_pos (show (4 : Int32) ≤ nI (vv (mgS t) 0) from nI_le (a := 4) (by omega) (by omega)), f1]
      unfold fX6_round_b111
      rw [rt_s (by omega) hlt, bnd_s]
      have e3 : rr (fun c => dryN n (sdN (mgS t) c)) (rds (vv (mgS t) 0) 0 4096) = nI (tens (amL (fun c => dryN n (sdN (mgS t) c)) (rds (vv (mgS t) 0) 0 4096) 0 1000000)) := by
        have hv : ∀ c ∈ rds (vv (mgS t) 0) 0 4096, dryN n (sdN (mgS t) c) < 1000000 := by
          intro c hc
          unfold rds at hc
          have := dryN_le n (IS_sd hI ((VB_P _ _).mp ((List.mem_filter.mp hc).2)))
          omega
        have hne : rds (vv (mgS t) 0) 0 4096 ≠ [] := fun z => hp (h4.mp z)
        generalize rds (vv (mgS t) 0) 0 4096 = L at hv hne ⊢
        cases L with
        | nil => exact absurd rfl hne
        | cons c L =>
          show nI (tens (amL _ L c _)) = nI (tens (if dryN n (sdN (mgS t) c) < 1000000 then amL _ L c _ else _))
          rw [if_pos (hv c List.mem_cons_self)]
      rw [e3, if_pos (nI_pos' (tens_lt _))]
      exact ⟨_, _, _, _, rfl, rfl, NF_J hJ a' d' e'⟩
  · rw [if_neg ha, if_neg ha, f6_0, f7_0]
    exact ⟨_, _, _, _, rfl, rfl, JJ_f hJ 0 (by decide)⟩
