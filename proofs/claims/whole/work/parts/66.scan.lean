/-! the class cuts the text into tokens -/
theorem sc_0 (fu : Nat) {p : TPS} {B : Nat → Nat} {L : Nat} (hL : L ≤ 120) (hp : tgLength p = nI L) {z : TKS} {k : Nat} (hk : k < L) (hB : B k < 256) (hz : kgBytes z k = nI (B k)) {b : Nat} (hb : b ≤ 4) (K : TKS → Int32 → Int32 → Option TKS) : fX5_scan_b31B fu p K z (nI b) (nI k) = if srt (B k) = b ∧ (srt (B k) = 1 ∨ srt (B k) = 2) then fX5_scan_b73 fu p K z (nI k) (nI (srt (B k))) 1 else fX5_scan_b73 fu p K z (nI k) (nI (srt (B k))) 0 := by
  have hs := srt_le (B k)
  unfold fX5_scan_b31B
  rw [hp, if_neg (nI_ge hk (by omega)), ald_nI (by omega) (by decide), hz, srt_s fu hB, bnd_s]
  generalize srt (B k) = s at hs ⊢
  have e1 : (nI s = (1 : Int32)) ↔ s = 1 := nI_eq (b := 1) (by omega) (by omega)
  have e2 : (nI s = (2 : Int32)) ↔ s = 2 := nI_eq (b := 2) (by omega) (by omega)
  by_cases h : s = b
  · rw [if_pos (by rw [h])]
    by_cases h1 : s = 1
    · rw [if_pos (e1.mpr h1), if_pos ⟨h, Or.inl h1⟩]
    · rw [if_neg (fun w => h1 (e1.mp w))]
      by_cases h2 : s = 2
      · rw [if_pos (e2.mpr h2), if_pos ⟨h, Or.inr h2⟩]
      · rw [if_neg (fun w => h2 (e2.mp w)), if_neg (fun w => w.2.elim h1 h2)]
  · rw [if_neg (fun w => h ((nI_eq (by omega) (by omega)).mp w)), if_neg (fun w => h w.1)]
theorem sc_1 (fu : Nat) {p : TPS} {B : Nat → Nat} {z : TKS} {k c l : Nat} (hk : k < 120) (hc : c < 121) (hm : kgMany z = nI (c + 1)) (hl : kgLengths z c = nI l) (K : TKS → Int32 → Int32 → Option TKS) (h : srt (B k) = 1) : fX5_scan_b73 fu p K z (nI k) (nI (srt (B k))) 1 = K (kuLengths z c (nI (l + 1))) (nI (srt (B k))) (nI (k + 1)) := by
  unfold fX5_scan_b73 fX5_scan_b92 fX5_scan_b112
  rw [h, if_neg (by decide), if_neg (by decide), if_neg (by decide), hm, nI_pred, ald_nI hc (by decide), in_nI hc (by decide), if_neg (by decide), nm_s, nI_1, hl, nI_1, nI_clamp (by omega)]
theorem sc_2 (fu : Nat) {p : TPS} {B : Nat → Nat} {z : TKS} {k c l v : Nat} (hk : k < 120) (hz : kgBytes z k = nI (B k)) (hc : c < 121) (hm : kgMany z = nI (c + 1)) (hl : kgLengths z c = nI l) (hv : kgValues z c = nI v) (hv1 : v ≤ 10000) (K : TKS → Int32 → Int32 → Option TKS) (h : srt (B k) = 2) : fX5_scan_b73 fu p K z (nI k) (nI (srt (B k))) 1 = K (kuValues (kuLengths z c (nI (l + 1))) c (nI (min 10000 (10 * v + (B k - 48))))) (nI (srt (B k))) (nI (k + 1)) := by
  have hd := srt_dig h
  have ad := addDigit_s fu (kuLengths z c (nI (l + 1))) hc hm (v := v) (d := B k - 48) hv hv1 (by omega)
  unfold fX5_scan_b73 fX5_scan_b92 fX5_scan_b112
  rw [h, if_neg (by decide), if_neg (by decide), if_neg (by decide), hm, nI_pred, ald_nI hc (by decide), in_nI hc (by decide), if_pos (by decide), ald_nI hk (by decide), hl, nI_1, nI_clamp (by omega)]
  have hz' : kgBytes (kuLengths z c (nI (l + 1))) k = nI (B k) := hz
  rw [hz', n48 hd.1, ad, bnd_s, nm_s, nI_1]
theorem sc_3 (fu : Nat) {p : TPS} {B : Nat → Nat} {z : TKS} {k : Nat} (K : TKS → Int32 → Int32 → Option TKS) (h : srt (B k) = 0) : fX5_scan_b73 fu p K z (nI k) (nI (srt (B k))) 0 = K z (nI (srt (B k))) (nI (k + 1)) := by
  unfold fX5_scan_b73 fX5_scan_b92 fX5_scan_b112
  rw [h, if_pos (by decide), if_pos rfl, if_neg (by decide), nm_s, nI_1]
theorem sc_4 (fu : Nat) {p : TPS} {B : Nat → Nat} {z : TKS} {k c : Nat} (hc : c < 121) (hm : kgMany z = nI c) (K : TKS → Int32 → Int32 → Option TKS) (h0 : ¬ srt (B k) = 0) (h2 : ¬ srt (B k) = 2) : fX5_scan_b73 fu p K z (nI k) (nI (srt (B k))) 0 = K (beg z c (nI (srt (B k))) (nI k)) (nI (srt (B k))) (nI (k + 1)) := by
  have hs := srt_le (B k)
  unfold fX5_scan_b73 fX5_scan_b92 fX5_scan_b112
  rw [if_neg (show ¬ nI (srt (B k)) = (0 : Int32) from fun w => h0 ((nI_eq (b := 0) (by omega) (by decide)).mp w)), if_pos rfl, begin_s fu z hc hm, bnd_s, if_pos rfl, if_neg (show ¬ nI (srt (B k)) = (2 : Int32) from fun w => h2 ((nI_eq (b := 2) (by omega) (by decide)).mp w)), nm_s, nI_1]
theorem sc_5 (fu : Nat) {p : TPS} {B : Nat → Nat} {z : TKS} {k c : Nat} (hk : k < 120) (hz : kgBytes z k = nI (B k)) (hc : c < 121) (hm : kgMany z = nI c) (K : TKS → Int32 → Int32 → Option TKS) (h : srt (B k) = 2) : fX5_scan_b73 fu p K z (nI k) (nI (srt (B k))) 0 = K (kuValues (beg z c (nI (srt (B k))) (nI k)) c (nI (min 10000 (10 * 0 + (B k - 48))))) (nI (srt (B k))) (nI (k + 1)) := by
  have hd := srt_dig h
  have hv : kgValues (beg z c (nI 2) (nI k)) c = nI 0 := by
    show upd (kgValues z) c 0 c = nI 0
    rw [pk_us]
    rfl
  have ad := addDigit_s fu (beg z c (nI 2) (nI k)) hc rfl (v := 0) (d := B k - 48) hv (by omega) (by omega)
  have hz' : kgBytes (beg z c (nI 2) (nI k)) k = nI (B k) := hz
  unfold fX5_scan_b73 fX5_scan_b92 fX5_scan_b112
  rw [h, if_neg (by decide), if_pos rfl, begin_s fu z hc hm, bnd_s, if_pos rfl, if_pos (by decide), ald_nI hk (by decide), hz', n48 hd.1, ad, bnd_s, nm_s, nI_1]
theorem ext_y {B : Nat → Nat} {b n k : Nat} (hb : b = 1 ∨ b = 2) (h : srt (B k) = b) : ext B b (n + 1) k = ext B b n (k + 1) := by
  unfold ext
  rw [if_pos hb, if_pos hb, run_y h]
theorem ext_n {B : Nat → Nat} {b n k : Nat} (h : ¬ (srt (B k) = b ∧ (b = 1 ∨ b = 2))) : ext B b (n + 1) k = k := by
  unfold ext
  by_cases hb : b = 1 ∨ b = 2
  · rw [if_pos hb, run_n (fun w => h ⟨w, hb⟩)]
  · rw [if_neg hb]
theorem ext_ge (B : Nat → Nat) (b n k : Nat) : k ≤ ext B b n k ∧ ext B b n k ≤ k + n := by
  have := run_ge B b n k
  unfold ext
  split <;> omega
theorem enq_ext {B : Nat → Nat} {L k n : Nat} (hk : k + (n + 1) = L) : enq B L k = ext B (srt (B k)) n (k + 1) := by
  unfold enq ext
  rw [if_pos (by omega), show L - (k + 1) = n by omega]
theorem scan_l (fu : Nat) {p : TPS} {B : Nat → Nat} {L : Nat} (hL : L ≤ 120) (hp : tgLength p = nI L) (hB : ∀ j, j < L → B j < 256) : ∀ (n k fuel : Nat) (z : TKS) (b c v l : Nat), k + n = L → n < fuel → kgMany z = nI c → c ≤ k → b ≤ 4 → ((b = 1 ∨ b = 2) → 0 < c) → (∀ j, j < L → kgBytes z j = nI (B j)) → (b = 2 → kgValues z (c - 1) = nI v ∧ v ≤ 10000) → ((b = 1 ∨ b = 2) → kgLengths z (c - 1) = nI l) → ∃ z' M, g_lp (fun _ _ _ => none) (fX5_scan_b31B fu p) fuel z (nI b) (nI k) = some z' ∧ FRM z z' c ∧ (0 < c → kgLengths z' (c - 1) = (if b = 1 ∨ b = 2 then nI (l + (ext B b n k - k)) else kgLengths z (c - 1)) ∧ kgValues z' (c - 1) = (if b = 2 then nI (vc B (ext B b n k - k) k v) else kgValues z (c - 1))) ∧ M ≤ 120 ∧ TX B L z' M c (skp B L (ext B b n k)) := by
  intro n
  induction n with
  | zero =>
    intro k fuel z b c v l hk hf hm hc hb hb0 hz hv hl
    obtain ⟨j, rfl⟩ : ∃ j, fuel = j + 1 := ⟨fuel - 1, by omega⟩
    have hkL : k = L := by omega
    have he : ext B b 0 k = k := by
      unfold ext
      split <;> rfl
    have st : ∀ K, fX5_scan_b31B fu p K z (nI b) (nI k) = some (beg z c 5 (nI L)) := by
      intro K
      unfold fX5_scan_b31B
      rw [hp, if_pos (nI_le (by omega) (by omega)), begin_s fu z (by omega) hm, bnd_s]
    refine ⟨beg z c 5 (nI L), c, by rw [g_lp_s, st], ⟨fun i hi => ⟨?_, ?_⟩, fun i hi => ⟨?_, ?_⟩, fun i => rfl, rfl⟩, fun hc0 => ⟨?_, ?_⟩, by omega, ?_⟩
    · show upd (kgSorts z) c 5 i = _; exact pk_un (by omega)
    · show upd (kgStarts z) c _ i = _; exact pk_un (by omega)
    · show upd (kgLengths z) c _ i = _; exact pk_un (by omega)
    · show upd (kgValues z) c _ i = _; exact pk_un (by omega)
    · show upd (kgLengths z) c _ (c - 1) = _
      rw [pk_un (by omega), he, Nat.sub_self]
      by_cases h12 : b = 1 ∨ b = 2
      · rw [if_pos h12]; exact hl h12
      · rw [if_neg h12]
    · show upd (kgValues z) c _ (c - 1) = _
      rw [pk_un (by omega), he, Nat.sub_self]
      by_cases h2 : b = 2
      · rw [if_pos h2]; exact (hv h2).1
      · rw [if_neg h2]
    · rw [he, hkL, skp_L]
      refine TX_e ⟨?_, ?_, rfl⟩
      · show upd (kgSorts z) c 5 c = _; rw [pk_us]; rfl
      · show upd (kgStarts z) c _ c = _; rw [pk_us]
  | succ n ih =>
    intro k fuel z b c v l hk hf hm hc hb hb0 hz hv hl
    obtain ⟨j, rfl⟩ : ∃ j, fuel = j + 1 := ⟨fuel - 1, by omega⟩
    have hkL : k < L := by omega
    have hs4 := srt_le (B k)
    have s0 := fun K => sc_0 fu hL hp (z := z) hkL (hB k hkL) (hz k hkL) hb K
    by_cases hg : srt (B k) = b ∧ (srt (B k) = 1 ∨ srt (B k) = 2)
    · obtain ⟨hg1, hg2⟩ := hg
      have hb12 : b = 1 ∨ b = 2 := by rw [← hg1]; exact hg2
      have hc0 := hb0 hb12
      obtain ⟨c', rfl⟩ : ∃ c', c = c' + 1 := ⟨c - 1, by omega⟩
      have hl' : kgLengths z c' = nI l := hl hb12
      have he : ext B b (n + 1) k = ext B b n (k + 1) := ext_y hb12 hg1
      have hge := ext_ge B b n (k + 1)
      by_cases h1 : srt (B k) = 1
      · have hb1 : b = 1 := by omega
        obtain ⟨z', M, r1, ⟨r2, r3, r4, r5⟩, r6, r7, r8⟩ := ih (k + 1) j (kuLengths z c' (nI (l + 1))) b (c' + 1) v (l + 1) (by omega) (by omega) hm (by omega) hb hb0 hz (fun w => by omega) (fun _ => by
          show upd (kgLengths z) c' (nI (l + 1)) c' = _
          exact pk_us)
        have r6' := r6 (by omega)
        refine ⟨z', M, ?_, ⟨r2, fun i hi => ⟨?_, (r3 i hi).2⟩, r4, r5⟩, fun _ => ⟨?_, ?_⟩, r7, ?_⟩
        · rw [g_lp_s, s0, if_pos ⟨hg1, hg2⟩, sc_1 fu (by omega) (by omega) hm hl' _ h1, hg1]; exact r1
        · refine (r3 i hi).1.trans ?_
          show upd (kgLengths z) c' (nI (l + 1)) i = _
          exact pk_un (by omega)
        · rw [r6'.1, if_pos hb12, if_pos hb12, he]; congr 1; omega
        · rw [r6'.2, if_neg (by omega), if_neg (by omega)]; rfl
        · rw [he]; exact r8
      · have h2 : srt (B k) = 2 := by omega
        have hb2 : b = 2 := by omega
        obtain ⟨hv1, hv2⟩ := hv hb2
        have hv1' : kgValues z c' = nI v := hv1
        obtain ⟨z', M, r1, ⟨r2, r3, r4, r5⟩, r6, r7, r8⟩ := ih (k + 1) j (kuValues (kuLengths z c' (nI (l + 1))) c' (nI (min 10000 (10 * v + (B k - 48))))) b (c' + 1) (min 10000 (10 * v + (B k - 48))) (l + 1) (by omega) (by omega) hm (by omega) hb hb0 hz (fun w => ⟨by
          show upd (kgValues z) c' _ c' = _
          exact pk_us, Nat.min_le_left _ _⟩) (fun _ => by
          show upd (kgLengths z) c' (nI (l + 1)) c' = _
          exact pk_us)
        have r6' := r6 (by omega)
        refine ⟨z', M, ?_, ⟨r2, fun i hi => ⟨?_, ?_⟩, r4, r5⟩, fun _ => ⟨?_, ?_⟩, r7, ?_⟩
        · rw [g_lp_s, s0, if_pos ⟨hg1, hg2⟩, sc_2 fu (by omega) (hz k hkL) (by omega) hm hl' hv1' hv2 _ h2, hg1]; exact r1
        · refine (r3 i hi).1.trans ?_
          show upd (kgLengths z) c' (nI (l + 1)) i = _
          exact pk_un (by omega)
        · refine (r3 i hi).2.trans ?_
          show upd (kgValues z) c' _ i = _
          exact pk_un (by omega)
        · rw [r6'.1, if_pos hb12, if_pos hb12, he]; congr 1; omega
        · rw [r6'.2, if_pos hb2, if_pos hb2, he, show ext B b n (k + 1) - k = (ext B b n (k + 1) - (k + 1)) + 1 by omega]; rfl
        · rw [he]; exact r8
    · have he : ext B b (n + 1) k = k := ext_n (fun w => hg ⟨w.1, by rw [w.1]; exact w.2⟩)
      rw [he, Nat.sub_self]
      by_cases h0 : srt (B k) = 0
      · obtain ⟨z', M, r1, r2, r6, r7, r8⟩ := ih (k + 1) j z (srt (B k)) c v l (by omega) (by omega) hm (by omega) (by omega) (fun w => by omega) hz (fun w => by omega) (fun w => by omega)
        have he' : ext B (srt (B k)) n (k + 1) = k + 1 := by unfold ext; rw [if_neg (by omega)]
        rw [he', ← skp_0 hkL h0] at r8
        refine ⟨z', M, ?_, r2, fun hc0 => ⟨?_, ?_⟩, r7, r8⟩
        · rw [g_lp_s, s0, if_neg hg, sc_3 fu _ h0]; exact r1
        · rw [(r6 hc0).1, if_neg (by omega)]
          by_cases h12 : b = 1 ∨ b = 2
          · rw [if_pos h12]; exact hl h12
          · rw [if_neg h12]
        · rw [(r6 hc0).2, if_neg (by omega)]
          by_cases h2 : b = 2
          · rw [if_pos h2]; exact (hv h2).1
          · rw [if_neg h2]
      · rw [skp_n hkL h0]
        have fin : ∀ (z1 : TKS) (v1 : Nat), (∀ K, fX5_scan_b73 fu p K z (nI k) (nI (srt (B k))) 0 = K z1 (nI (srt (B k))) (nI (k + 1))) → kgMany z1 = nI (c + 1) → (∀ j, j < L → kgBytes z1 j = nI (B j)) → kgLengths z1 c = nI 1 → (srt (B k) = 2 → kgValues z1 c = nI v1 ∧ v1 ≤ 10000 ∧ v1 = min 10000 (10 * 0 + (B k - 48))) → kgSorts z1 c = nI (srt (B k)) → kgStarts z1 c = nI k → (∀ i, i < c → kgSorts z1 i = kgSorts z i ∧ kgStarts z1 i = kgStarts z i ∧ kgLengths z1 i = kgLengths z i ∧ kgValues z1 i = kgValues z i) → (∀ i, kgBytes z1 i = kgBytes z i) → kgAt z1 = kgAt z → ∃ z' M, g_lp (fun _ _ _ => none) (fX5_scan_b31B fu p) (j + 1) z (nI b) (nI k) = some z' ∧ FRM z z' c ∧ (0 < c → kgLengths z' (c - 1) = (if b = 1 ∨ b = 2 then nI (l + 0) else kgLengths z (c - 1)) ∧ kgValues z' (c - 1) = (if b = 2 then nI (vc B 0 k v) else kgValues z (c - 1))) ∧ M ≤ 120 ∧ TX B L z' M c k := by
          intro z1 v1 hst q1 q2 q3 q4 q5 q6 q7 q8 q9
          obtain ⟨z', M, r1, ⟨r2, r3, r4, r5⟩, r6, r7, r8⟩ := ih (k + 1) j z1 (srt (B k)) (c + 1) v1 1 (by omega) (by omega) q1 (by omega) (by omega) (fun w => by omega) q2 (fun w => ⟨(q4 w).1, (q4 w).2.1⟩) (fun _ => q3)
          have r6' := r6 (by omega)
          have he2 := enq_ext (B := B) hk
          have hge := ext_ge B (srt (B k)) n (k + 1)
          rw [← he2] at r6' r8 hge
          refine ⟨z', M, ?_, ⟨fun i hi => ⟨?_, ?_⟩, fun i hi => ⟨?_, ?_⟩, fun i => (r4 i).trans (q8 i), r5.trans q9⟩, fun hc0 => ⟨?_, ?_⟩, r7, ?_⟩
          · rw [g_lp_s, s0, if_neg hg, hst]; exact r1
          · exact (r2 i (by omega)).1.trans (q7 i hi).1
          · exact (r2 i (by omega)).2.trans (q7 i hi).2.1
          · exact (r3 i (by omega)).1.trans (q7 i (by omega)).2.2.1
          · exact (r3 i (by omega)).2.trans (q7 i (by omega)).2.2.2
          · refine ((r3 (c - 1) (by omega)).1.trans (q7 (c - 1) (by omega)).2.2.1).trans ?_
            by_cases h12 : b = 1 ∨ b = 2
            · rw [if_pos h12]; exact hl h12
            · rw [if_neg h12]
          · refine ((r3 (c - 1) (by omega)).2.trans (q7 (c - 1) (by omega)).2.2.2).trans ?_
            by_cases h2 : b = 2
            · rw [if_pos h2]; exact (hv h2).1
            · rw [if_neg h2]
          · have hcM : c < M := by
              obtain ⟨m, hm8⟩ := r8
              have := TX_M m hm8
              omega
            refine TX_s hkL hcM ⟨?_, ?_, ?_, fun h2 => ?_, h0⟩ r8
            · exact (r2 c (by omega)).1.trans q5
            · exact (r2 c (by omega)).2.trans q6
            · have := r6'.1
              rw [show c + 1 - 1 = c from rfl] at this
              rw [this]
              by_cases h12 : srt (B k) = 1 ∨ srt (B k) = 2
              · rw [if_pos h12]; congr 1; omega
              · rw [if_neg h12, q3]
                congr 1
                unfold enq
                rw [if_pos hkL, if_neg h12]
                omega
            · have := r6'.2
              rw [show c + 1 - 1 = c from rfl, if_pos h2] at this
              rw [this, show enq B L k - k = (enq B L k - (k + 1)) + 1 by omega, (q4 h2).2.2]
              rfl
        by_cases h2 : srt (B k) = 2
        · refine fin (kuValues (beg z c (nI (srt (B k))) (nI k)) c (nI (min 10000 (10 * 0 + (B k - 48))))) (min 10000 (10 * 0 + (B k - 48))) (fun K => sc_5 fu (by omega) (hz k hkL) (by omega) hm K h2) rfl hz ?_ (fun _ => ⟨?_, Nat.min_le_left _ _, rfl⟩) ?_ ?_ (fun i hi => ⟨?_, ?_, ?_, ?_⟩) (fun i => rfl) rfl
          · show upd (kgLengths z) c 1 c = _; rw [pk_us]; rfl
          · show upd (upd (kgValues z) c 0) c _ c = _; rw [pk_us]
          · show upd (kgSorts z) c _ c = _; rw [pk_us]
          · show upd (kgStarts z) c _ c = _; rw [pk_us]
          · show upd (kgSorts z) c _ i = _; rw [pk_un (by omega)]
          · show upd (kgStarts z) c _ i = _; rw [pk_un (by omega)]
          · show upd (kgLengths z) c _ i = _; rw [pk_un (by omega)]
          · show upd (upd (kgValues z) c 0) c _ i = _; rw [pk_un (by omega), pk_un (by omega)]
        · refine fin (beg z c (nI (srt (B k))) (nI k)) 0 (fun K => sc_4 fu (by omega) hm K h0 h2) rfl hz ?_ (fun w => absurd w h2) ?_ ?_ (fun i hi => ⟨?_, ?_, ?_, ?_⟩) (fun i => rfl) rfl
          · show upd (kgLengths z) c 1 c = _; rw [pk_us]; rfl
          · show upd (kgSorts z) c _ c = _; rw [pk_us]
          · show upd (kgStarts z) c _ c = _; rw [pk_us]
          · show upd (kgSorts z) c _ i = _; rw [pk_un (by omega)]
          · show upd (kgStarts z) c _ i = _; rw [pk_un (by omega)]
          · show upd (kgLengths z) c _ i = _; rw [pk_un (by omega)]
          · show upd (kgValues z) c _ i = _; rw [pk_un (by omega)]
theorem cpy_120 {ρ : Type} {m : Nat} (hi : m ≤ 120) (K : Option ρ) : g_cpy (nI 0) (nI 0) (nI m) 120 120 K = K := by
  unfold g_cpy
  rw [nI_clamp (by omega), nI_clamp (by omega), if_pos ⟨nI_pos (by omega), nI_pos (by omega), nI_pos (by omega), by omega, by omega⟩]
theorem scan_s {fu : Nat} (hF : 5000 ≤ fu) {p : TPS} {B : Nat → Nat} {L : Nat} (hL : L ≤ 120) (hp : tgLength p = nI L) (hB : ∀ j, j < L → B j < 256) (hb : ∀ j, j < L → tgBytes p j = nI (B j)) (z : TKS) : ∃ z' M, fX5_scan fu z p = some (ksAt z' (nI 0)) ∧ M ≤ 120 ∧ (∀ j, j < L → kgBytes z' j = nI (B j)) ∧ TX B L z' M 0 (skp B L 0) := by
  unfold fX5_scan
  rw [hp, l0, cpy_120 hL, nI_clamp (by omega), nI_clamp (by omega)]
  obtain ⟨z', M, r1, ⟨r2, r3, r4, r5⟩, r6, r7, r8⟩ := scan_l fu hL hp hB L 0 fu (ksAt (ksMany (ksBytes z (va_cpy (tgBytes p) (kgBytes z) 0 0 L)) (nI 0)) (nI 0)) 0 0 0 0 (by omega) (by omega) rfl (by omega) (by omega) (fun w => by omega) (fun j hj => by
    show va_cpy (tgBytes p) (kgBytes z) 0 0 L j = _
    rw [pk_cpy_in (by omega) (by omega), ← hb j hj]
    congr 1
    omega) (fun w => by omega) (fun w => by omega)
  have he : ext B 0 L 0 = 0 := if_neg (by omega)
  rw [he] at r8
  refine ⟨z', M, ?_, r7, fun j hj => (r4 j).trans ?_, r8⟩
  · have f1 : fX5_scan_b31 fu p (ksAt (ksMany (ksBytes z (va_cpy (tgBytes p) (kgBytes z) 0 0 L)) (nI 0)) (nI 0)) (nI 0) (nI 0) = some z' := r1
    rw [f1]
    have e : kgAt z' = nI 0 := r5
    rw [← e]
    rfl
  · show va_cpy (tgBytes p) (kgBytes z) 0 0 L j = _
    rw [pk_cpy_in (by omega) (by omega), ← hb j hj]
    congr 1
    omega
