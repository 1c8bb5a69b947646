/-! what stands where the class reads -/
def wl (w : Nat) : Nat := gLen.getD w 0
def wc (w j : Nat) : Nat := ((gByt.getD w []).getD j 0).toNatClampNeg
theorem wd_l : ∀ w, w < 14 → fJ0_length_8abf5 0 w = some (nI (wl w)) ∧ wl w ≤ 8 ∧ 1 ≤ wl w := by decide +kernel
theorem wd_c : ∀ w, w < 14 → ∀ j, j < wl w → fJ0_charAt_5068e 0 w (nI j) = some (nI (wc w j)) ∧ 97 ≤ wc w j ∧ wc w j ≤ 122 := by decide +kernel
theorem len_s (fu : Nat) {w : Nat} (hw : w < 14) : fJ0_length_8abf5 fu w = some (nI (wl w)) := (wd_l w hw).1
theorem chr_s (fu : Nat) {w : Nat} (hw : w < 14) {j : Nat} (hj : j < wl w) : fJ0_charAt_5068e fu w (nI j) = some (nI (wc w j)) := (wd_c w hw j hj).1
theorem gw_s {ρ : Type} {w : Nat} (hw : w < 14) (k : Option ρ) : g_w w k = k := if_pos hw
def isW (B : Nat → Nat) (L w q : Nat) : Prop := q < L ∧ srt (B q) = 1 ∧ enq B L q - q = wl w ∧ ∀ j, j < wl w → B (q + j) = wc w j
theorem TX_many : ∀ (n : Nat) {B : Nat → Nat} {L : Nat} {z : TKS} {M c q : Nat}, TT B L z M n c q → kgMany z = nI (M + 1) := by
  intro n
  induction n with
  | zero => intro B L z M c q h; exact h.2.2.2.2
  | succ n ih =>
    intro B L z M c q h
    rcases h with h | ⟨h1, h2, h3, h4⟩
    · exact h.2.2.2.2
    · exact ih h4
/-- the text as the class has cut it -/
def CUT (B : Nat → Nat) (L : Nat) (z : TKS) (M : Nat) : Prop := L ≤ 120 ∧ M ≤ 120 ∧ (∀ j, j < L → B j < 256) ∧ ∀ j, j < L → kgBytes z j = nI (B j)
theorem a121 {ρ : Type} {f : Nat → Int32} {k : Nat} {K : Int32 → Option ρ} (hk : k < 121) : g_ald f 121 (nI k) K = K (f k) := ald_nI hk (by decide)
theorem TX_cM {B : Nat → Nat} {L : Nat} {z : TKS} {M c q : Nat} (h : TX B L z M c q) : c ≤ M := by
  obtain ⟨n, h⟩ := h
  exact TX_M n h
theorem goOn_s (fu : Nat) {B : Nat → Nat} {L : Nat} {z : TKS} {M c q : Nat} (hM : M ≤ 120) (h : TX B L z M c q) (hq : q < L) : fX5_goOn fu (ksAt z (nI c)) = some (ksAt z (nI (c + 1))) ∧ TX B L z M (c + 1) (skp B L (enq B L q)) := by
  have hm : kgMany (ksAt z (nI c)) = nI (M + 1) := by
    obtain ⟨n, h⟩ := h
    exact (TX_many n h : kgMany z = nI (M + 1))
  have ha : kgAt (ksAt z (nI c)) = nI c := rfl
  rcases TX_i h with ⟨h1, -⟩ | ⟨h1, h2, h3, h4⟩
  · omega
  · refine ⟨?_, h4⟩
    unfold fX5_goOn
    rw [hm, ha, nI_pred, if_neg (nI_ge h2 (by omega)), nI_1]
    rfl
theorem isw_l (fu : Nat) {B : Nat → Nat} {L : Nat} {z : TKS} {M c q w : Nat} (hC : CUT B L z M) (hw : w < 14) (hc : c < 121) (hs : kgStarts z c = nI q) (hq : q + wl w ≤ L) : ∀ (n i fuel : Nat), i + n = wl w → n < fuel → (∀ j, j < i → B (q + j) = wc w j) → ((∀ j, j < wl w → B (q + j) = wc w j) ∧ g_lp (fun _ => none) (fX5_isAtWord_b33B fu w (ksAt z (nI c))) fuel (nI i) = some 1) ∨ (¬ (∀ j, j < wl w → B (q + j) = wc w j) ∧ g_lp (fun _ => none) (fX5_isAtWord_b33B fu w (ksAt z (nI c))) fuel (nI i) = some 0) := by
  obtain ⟨hL, hM, hB, hb⟩ := hC
  have hl8 := (wd_l w hw).2.1
  intro n
  induction n with
  | zero =>
    intro i fuel hi hf h
    obtain ⟨j, rfl⟩ : ∃ j, fuel = j + 1 := ⟨fuel - 1, by omega⟩
    refine Or.inl ⟨fun j hj => h j (by omega), ?_⟩
    rw [g_lp_s]
    unfold fX5_isAtWord_b33B
    rw [len_s fu hw, bnd_s, if_pos (nI_le (by omega) (by omega)), z_1]
  | succ n ih =>
    intro i fuel hi hf h
    obtain ⟨j, rfl⟩ : ∃ j, fuel = j + 1 := ⟨fuel - 1, by omega⟩
    have ha : kgAt (ksAt z (nI c)) = nI c := rfl
    have hs' : kgStarts (ksAt z (nI c)) c = nI q := hs
    have hb' : kgBytes (ksAt z (nI c)) (q + i) = nI (B (q + i)) := hb (q + i) (by omega)
    have hbb := hB (q + i) (by omega)
    have hcc := (wd_c w hw i (by omega)).2
    have st : ∀ K, fX5_isAtWord_b33B fu w (ksAt z (nI c)) K (nI i) = if nI (B (q + i)) = nI (wc w i) then K (nI (i + 1)) else some 0 := by
      intro K
      unfold fX5_isAtWord_b33B
      rw [len_s fu hw, bnd_s, if_neg (nI_ge (by omega) (by omega)), ha, a121 hc, hs', nI_add, ald_nI (by omega) (by decide), hb', chr_s fu hw (by omega), bnd_s, nm_s, nI_1, z_0]
    rw [g_lp_s, st]
    by_cases he : B (q + i) = wc w i
    · rw [if_pos (by rw [he])]
      refine ih (i + 1) j (by omega) (by omega) (fun j hj => ?_)
      by_cases hji : j = i
      · subst hji; exact he
      · exact h j (by omega)
    · rw [if_neg (fun v => he ((nI_eq (by omega) (by omega)).mp v))]
      exact Or.inr ⟨fun v => he (v i (by omega)), rfl⟩
theorem isAtWord_s {fu : Nat} (hF : 5000 ≤ fu) {B : Nat → Nat} {L : Nat} {z : TKS} {M c q w : Nat} (hC : CUT B L z M) (hw : w < 14) (h : TX B L z M c q) : (isW B L w q ∧ fX5_isAtWord fu w (ksAt z (nI c)) = some 1) ∨ (¬ isW B L w q ∧ fX5_isAtWord fu w (ksAt z (nI c)) = some 0) := by
  have hM := hC.2.1
  have hL := hC.1
  have hcM := TX_cM h
  have hl8 := (wd_l w hw).2.1
  have ha : kgAt (ksAt z (nI c)) = nI c := rfl
  have hS : kgSorts (ksAt z (nI c)) c = kgSorts z c := rfl
  have hLn : kgLengths (ksAt z (nI c)) c = kgLengths z c := rfl
  unfold fX5_isAtWord
  rw [gw_s hw, ha, a121 (by omega), a121 (by omega), hS, hLn, len_s fu hw, bnd_s, z_0]
  rcases TX_i h with ⟨h1, h2, h3, h4, h5⟩ | ⟨h1, h2, ⟨h3, h4, h5, h6, h7⟩, h8⟩
  · subst h2
    rw [h3, if_neg (by decide)]
    exact Or.inr ⟨fun v => by have := v.1; omega, rfl⟩
  · have hs4 := srt_le (B q)
    have hen := enq_ge B h1
    rw [h3, h5]
    by_cases hs : srt (B q) = 1
    · rw [if_pos (by rw [hs]; rfl)]
      by_cases hl : enq B L q - q = wl w
      · rw [if_pos (by rw [hl])]
        rcases isw_l fu hC hw (c := c) (by omega) h4 (by omega) (wl w) 0 fu (by omega) (by omega) (fun j hj => absurd hj (by omega)) with ⟨a, b⟩ | ⟨a, b⟩
        · exact Or.inl ⟨⟨h1, hs, hl, a⟩, b⟩
        · exact Or.inr ⟨fun v => a v.2.2.2, b⟩
      · rw [if_neg (fun v => hl ((nI_eq (by omega) (by omega)).mp v))]
        exact Or.inr ⟨fun v => hl v.2.2.1, rfl⟩
    · rw [if_neg (show ¬ nI (srt (B q)) = (1 : Int32) from fun v => hs ((nI_eq (b := 1) (by omega) (by decide)).mp v))]
      exact Or.inr ⟨fun v => hs v.2.1, rfl⟩
theorem takesWord_s {fu : Nat} (hF : 5000 ≤ fu) {B : Nat → Nat} {L : Nat} {z : TKS} {M c q w : Nat} (hC : CUT B L z M) (hw : w < 14) (h : TX B L z M c q) : (isW B L w q ∧ fX5_takesWord fu w (ksAt z (nI c)) = some (1, ksAt z (nI (c + 1))) ∧ TX B L z M (c + 1) (skp B L (enq B L q))) ∨ (¬ isW B L w q ∧ fX5_takesWord fu w (ksAt z (nI c)) = some (0, ksAt z (nI c))) := by
  unfold fX5_takesWord
  rcases isAtWord_s hF hC hw h with ⟨a, b⟩ | ⟨a, b⟩
  · obtain ⟨g1, g2⟩ := goOn_s fu hC.2.1 h a.1
    rw [gw_s hw, b, bnd_s, if_neg (by decide), g1, bnd_s, z_1]
    exact Or.inl ⟨a, rfl, g2⟩
  · rw [gw_s hw, b, bnd_s, if_pos rfl, z_0]
    exact Or.inr ⟨a, rfl⟩
def vcq (B : Nat → Nat) (L q : Nat) : Nat := vc B (enq B L q - q) q 0
theorem takeNumber_s (fu : Nat) {B : Nat → Nat} {L : Nat} {z : TKS} {M c q : Nat} (hC : CUT B L z M) (h : TX B L z M c q) (hi : Int32) : ((q < L ∧ srt (B q) = 2 ∧ nI (vcq B L q) ≤ hi) ∧ fX5_takeNumber fu (ksAt z (nI c)) hi = some (nI (vcq B L q), ksAt z (nI (c + 1))) ∧ TX B L z M (c + 1) (skp B L (enq B L q))) ∨ (¬ (q < L ∧ srt (B q) = 2 ∧ nI (vcq B L q) ≤ hi) ∧ fX5_takeNumber fu (ksAt z (nI c)) hi = some (-1, ksAt z (nI c))) := by
  have hM := hC.2.1
  have hcM := TX_cM h
  have ha : kgAt (ksAt z (nI c)) = nI c := rfl
  have hS : kgSorts (ksAt z (nI c)) c = kgSorts z c := rfl
  have hV : kgValues (ksAt z (nI c)) c = kgValues z c := rfl
  unfold fX5_takeNumber
  rw [ha, a121 (by omega), a121 (by omega), a121 (by omega), hS, hV]
  rcases TX_i h with ⟨h1, h2, h3, h4, h5⟩ | ⟨h1, h2, ⟨h3, h4, h5, h6, h7⟩, h8⟩
  · subst h2
    rw [h3, if_neg (by decide)]
    exact Or.inr ⟨fun v => by have := v.1; omega, rfl⟩
  · have hs4 := srt_le (B q)
    rw [h3]
    by_cases hs : srt (B q) = 2
    · have hv : kgValues z c = nI (vcq B L q) := h6 hs
      rw [if_pos (by rw [hs]; rfl), hv]
      by_cases hn : nI (vcq B L q) ≤ hi
      · obtain ⟨g1, g2⟩ := goOn_s fu hC.2.1 h h1
        rw [if_pos hn, g1, bnd_s]
        exact Or.inl ⟨⟨h1, hs, hn⟩, rfl, g2⟩
      · rw [if_neg hn]
        exact Or.inr ⟨fun v => hn v.2.2, rfl⟩
    · rw [if_neg (show ¬ nI (srt (B q)) = (2 : Int32) from fun v => hs ((nI_eq (b := 2) (by omega) (by decide)).mp v))]
      exact Or.inr ⟨fun v => hs v.2.1, rfl⟩
theorem isAt_s (fu : Nat) {B : Nat → Nat} {L : Nat} {z : TKS} {M c q : Nat} (hC : CUT B L z M) (h : TX B L z M c q) {s : Nat} (hs : s ≤ 4) : fX5_isAt fu (ksAt z (nI c)) (nI s) = some (tb (q < L ∧ srt (B q) = s)) := by
  have hM := hC.2.1
  have hcM := TX_cM h
  have ha : kgAt (ksAt z (nI c)) = nI c := rfl
  have hS : kgSorts (ksAt z (nI c)) c = kgSorts z c := rfl
  unfold fX5_isAt tb
  rw [ha, a121 (by omega), hS, z_0, z_1]
  rcases TX_i h with ⟨h1, h2, h3, h4, h5⟩ | ⟨h1, h2, ⟨h3, h4, h5, h6, h7⟩, h8⟩
  · subst h2
    rw [h3, if_neg (fun v => by have := (nI_eq (by omega) (by omega)).mp v; omega), if_neg (fun v => by have := v.1; omega)]
  · have hs4 := srt_le (B q)
    rw [h3]
    by_cases e : srt (B q) = s
    · rw [if_pos (by rw [e]), if_pos ⟨h1, e⟩]
    · rw [if_neg (fun v => e ((nI_eq (by omega) (by omega)).mp v)), if_neg (fun v => e v.2)]
theorem isEnd_s (fu : Nat) {B : Nat → Nat} {L : Nat} {z : TKS} {M c q : Nat} (hC : CUT B L z M) (h : TX B L z M c q) : fX5_isAt fu (ksAt z (nI c)) 5 = some (tb (q = L)) := by
  have hM := hC.2.1
  have hcM := TX_cM h
  have ha : kgAt (ksAt z (nI c)) = nI c := rfl
  have hS : kgSorts (ksAt z (nI c)) c = kgSorts z c := rfl
  unfold fX5_isAt tb
  rw [ha, a121 (by omega), hS, z_0, z_1]
  rcases TX_i h with ⟨h1, h2, h3, h4, h5⟩ | ⟨h1, h2, ⟨h3, h4, h5, h6, h7⟩, h8⟩
  · subst h2
    rw [h3, if_pos (by decide), if_pos h1]
  · have hs4 := srt_le (B q)
    rw [h3, if_neg (show ¬ nI (srt (B q)) = (5 : Int32) from fun v => by have := (nI_eq (b := 5) (by omega) (by decide)).mp v; omega), if_neg (by omega)]
theorem place_s (fu : Nat) {B : Nat → Nat} {L : Nat} {z : TKS} {M c q : Nat} (hC : CUT B L z M) (h : TX B L z M c q) : fX5_place fu (ksAt z (nI c)) = some (nI q) := by
  have hM := hC.2.1
  have hcM := TX_cM h
  have ha : kgAt (ksAt z (nI c)) = nI c := rfl
  have hS : kgStarts (ksAt z (nI c)) c = kgStarts z c := rfl
  unfold fX5_place
  rw [ha, a121 (by omega), hS]
  rcases TX_i h with ⟨h1, h2, h3, h4, h5⟩ | ⟨h1, h2, ⟨h3, h4, h5, h6, h7⟩, h8⟩
  · subst h2
    rw [h4, h1]
  · rw [h4]
