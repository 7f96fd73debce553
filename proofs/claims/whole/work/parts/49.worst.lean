def Tq (τ τ' : ojS) : Prop := (∀ k, k ≠ 0 → k ≠ 2 → k ≠ 9 → k ≠ 13 → k ≠ 14 → k ≠ 21 → k ≠ 22 → τ' k = τ k) ∧ (∀ c, c < 96 → τ' 2 c = τ 2 c) ∧ (∀ i, i < 4 → τ' 9 i = τ 9 i ∧ τ' 13 i = τ 13 i ∧ τ' 14 i = τ 14 i) ∧ ∀ j, τ' 0 j = τ 0 j
theorem Tq_tr {a b c : ojS} (h1 : Tq a b) (h2 : Tq b c) : Tq a c := ⟨fun k q1 q2 q3 q4 q5 q6 q7 => (h2.1 k q1 q2 q3 q4 q5 q6 q7).trans (h1.1 k q1 q2 q3 q4 q5 q6 q7), fun c hc => (h2.2.1 c hc).trans (h1.2.1 c hc), fun i hi => ⟨((h2.2.2.1 i hi).1).trans (h1.2.2.1 i hi).1, ((h2.2.2.1 i hi).2.1).trans (h1.2.2.1 i hi).2.1, ((h2.2.2.1 i hi).2.2).trans (h1.2.2.1 i hi).2.2⟩, fun j => (h2.2.2.2 j).trans (h1.2.2.2 j)⟩
theorem Tq_rf (a : ojS) : Tq a a := ⟨fun _ _ _ _ _ _ _ _ => rfl, fun _ _ => rfl, fun _ _ => ⟨rfl, rfl, rfl⟩, fun _ => rfl⟩
theorem Tq_RR {N S K P : Nat} {σ τ σ' τ' : ojS} (h : RR N S K P σ τ) (hq : Tq τ τ') (h1 : ∀ k, k ≠ 12 → (k < 20 ∨ k = 23 ∨ k = 27 ∨ 31 ≤ k) → σ' k = σ k) : RR N S K P σ' τ' := RR_fr2 h h1 (fun k q1 q2 q3 q4 q5 q6 => hq.1 k (by omega) q3 q4 q5 q6 (by omega) (by omega)) hq.2.1 hq.2.2.1 (fun j _ _ => hq.2.2.2 j)
theorem itH_congr {τ τ' : ojS} (hq : Tq τ τ') {wd N : Nat} {at_ rt rm : Nat → Nat} {K : Nat} {fs : Int32} {L ld : Nat → Nat} : ∀ t, itH τ' wd N at_ rt rm K fs L ld t = itH τ wd N at_ rt rm K fs L ld t
  | 0 => rfl
  | t + 1 => by
    rw [itH, itH, itH_congr hq t, hrL_congr (hq.1 1 (by decide) (by decide) (by decide) (by decide) (by decide) (by decide) (by decide)) (hq.1 3 (by decide) (by decide) (by decide) (by decide) (by decide) (by decide) (by decide)) (hq.1 4 (by decide) (by decide) (by decide) (by decide) (by decide) (by decide) (by decide)) (hq.1 5 (by decide) (by decide) (by decide) (by decide) (by decide) (by decide) (by decide)) (hq.1 6 (by decide) (by decide) (by decide) (by decide) (by decide) (by decide) (by decide)) (hq.1 7 (by decide) (by decide) (by decide) (by decide) (by decide) (by decide) (by decide)) (hq.1 8 (by decide) (by decide) (by decide) (by decide) (by decide) (by decide) (by decide))]
theorem EV_q {K : Nat} {σ τ σ' τ' : ojS} (h : EV K σ τ) (hs : ∀ k, k ≠ 12 → k < 19 → σ' k = σ k) (hq : Tq τ τ') : EV K σ' τ' := EV_fr h (hs 2 (by decide) (by decide)) (hs 8 (by decide) (by decide)) (hs 3 (by decide) (by decide)) (hs 4 (by decide) (by decide)) (hs 5 (by decide) (by decide)) (hs 6 (by decide) (by decide)) (hs 9 (by decide) (by decide)) (hq.1 1 (by decide) (by decide) (by decide) (by decide) (by decide) (by decide) (by decide)) (hq.1 3 (by decide) (by decide) (by decide) (by decide) (by decide) (by decide) (by decide)) (hq.1 4 (by decide) (by decide) (by decide) (by decide) (by decide) (by decide) (by decide)) (hq.1 5 (by decide) (by decide) (by decide) (by decide) (by decide) (by decide) (by decide)) (hq.1 6 (by decide) (by decide) (by decide) (by decide) (by decide) (by decide) (by decide)) (hq.1 7 (by decide) (by decide) (by decide) (by decide) (by decide) (by decide) (by decide)) (hq.1 8 (by decide) (by decide) (by decide) (by decide) (by decide) (by decide) (by decide)) (hq.2.2.2 14)
theorem fore_both {N S K P : Nat} {σ τ : ojS} (hR : RR N S K P σ τ) {n : Nat} (hn : n ≤ 48) : ∃ hv : Nat → Nat, (∀ wd, hv wd ≤ 9000) ∧ (∀ σ' wd, wd ≤ 2 → (∀ k, k ≠ 24 → k ≠ 20 → k ≠ 28 → σ' k = σ k) → ∃ σ2, f_X8_harmAhead (nI wd) (nI n) σ' = some (nI (hv wd), σ2) ∧ ∀ k, k ≠ 24 → k ≠ 20 → k ≠ 28 → σ2 k = σ k) ∧ ∀ τ' wd, wd ≤ 2 → Tq τ τ' → ∃ τ2, f_X9_foretold (nI wd) (nI n) τ' = some (nI (hv wd), τ2) ∧ Tq τ τ2 := by
  obtain ⟨at_, rt, rm, L, ld, t, hE, hFO, hFM, hL1, hL2, hD1, hD2, hl, ht, hsum, hS1, hS0, hld0, hats⟩ := pre_hour hR
  obtain ⟨hN, hS, hK, hP, hnet, hsky, hfs, hlq, hlo, haw, hfl, hskd, hhr, hpt, hbm, hsh⟩ := id hR
  have hK4 := hK.1
  refine ⟨fun wd => hmN (itH τ wd N at_ rt rm K (τ 0 10) L ld n).1 (fun c => (τ 1 c).toNatClampNeg), fun wd => ?_, fun σ' wd hwd hs => ?_, fun τ' wd hwd hq => ?_⟩
  · refine (harm_div (fun c hc => ?_) (Nat.le_trans (itH_sum n) (by omega : nsum L 96 ≤ 1000000))).2
    obtain ⟨v, hv, e1, e2⟩ := hnet c hc
    rw [e2, nI_clamp (by omega)]; exact hv
  · have hE' : EV K σ' τ := EV_q hE (fun k q1 q2 => hs k (by omega) (by omega) (by omega)) (Tq_rf τ)
    obtain ⟨σ2, b1, b2⟩ := ow_ahead hE' hwd hN.1 hn (by rw [hs 0 (by decide) (by decide) (by decide)]; exact hN.2.1) (at_ := at_) (rt := rt) (rm := rm) (L := L) (ld := ld) (fun i hi => by rw [hs (15 + i) (by omega) (by omega) (by omega)]; exact hFO i hi) (by rw [hs 23 (by decide) (by decide) (by decide)]; exact hL1) (by rw [hs 27 (by decide) (by decide) (by decide)]; exact hD1) (by omega) hl
    rw [hs 0 (by decide) (by decide) (by decide), itH_fs hfs hS0 n] at b1
    exact ⟨σ2, b1, fun k q1 q2 q3 => by rw [b2 k q1 q2 q3, hs k q1 q2 q3]⟩
  · have hE' : EV K σ τ' := EV_q hE (fun _ _ _ => rfl) hq
    obtain ⟨τ2, b1, b2⟩ := md_fore hE' hwd hN.1 hn (by rw [hq.2.2.2 0]; exact hN.2.2) (at_ := at_) (rt := rt) (rm := rm) (L := L) (ld := ld) (fun i hi => by rw [(hq.2.2.1 i (by omega)).1, hq.1 10 (by decide) (by decide) (by decide) (by decide) (by decide) (by decide) (by decide), hq.1 11 (by decide) (by decide) (by decide) (by decide) (by decide) (by decide) (by decide)]; exact hFM i hi) (fun c hc => by rw [hq.2.1 c hc]; exact hL2 c hc) (fun i hi => by rw [(hq.2.2.1 i hi).2.1]; exact hD2 i hi) (by omega) hl
    rw [itH_congr hq, hq.2.2.2 10, hq.1 1 (by decide) (by decide) (by decide) (by decide) (by decide) (by decide) (by decide)] at b1
    exact ⟨τ2, b1, Tq_tr hq b2⟩
theorem st_foretold {σ τ : ojS} (h : RRR σ τ) (a b : Int32) : stp (f_X8_foretold a b σ) (f_X9_foretold a b τ) := by
  obtain ⟨N, S, K, P, hR⟩ := id h
  unfold f_X8_foretold
  rw [isWithin_eq, isWithin_eq]
  rcases in_cases a 0 2 (by decide) (by decide) with e | ⟨wd, -, hwd, rfl, e⟩
  · unfold f_X9_foretold
    rw [show f_X9_in a 0 2 = some 0 from e]; exact ⟨_, σ, τ, rfl, rfl, h⟩
  rcases in_cases b 0 48 (by decide) (by decide) with e2 | ⟨n, -, hn, rfl, e2⟩
  · unfold f_X9_foretold
    rw [show f_X9_in (nI wd) 0 2 = some 1 from e, show f_X9_in b 0 48 = some 0 from e2]; exact ⟨_, σ, τ, rfl, rfl, h⟩
  rw [show f_X9_in (nI wd) 0 2 = some 1 from e, show f_X9_in (nI n) 0 48 = some 1 from e2]
  simp only [ojB1_s, if10, ifF]
  obtain ⟨hv, -, f1, f2⟩ := fore_both hR hn
  obtain ⟨σ2, b1, b2⟩ := f1 σ wd hwd (fun _ _ _ _ => rfl)
  obtain ⟨τ2, c1, c2⟩ := f2 τ wd hwd (Tq_rf τ)
  rw [b1, c1]
  exact ⟨_, σ2, τ2, rfl, rfl, N, S, K, P, Tq_RR hR c2 (fun k q1 q2 => b2 k (by omega) (by omega) (by omega))⟩
def mxF (hv : Nat → Nat) : Nat → Nat
  | 0 => 0
  | w + 1 => max (mxF hv w) (hv w)
theorem mxF_le {hv : Nat → Nat} (h : ∀ w, hv w ≤ 9000) : ∀ w, mxF hv w ≤ 9000
  | 0 => Nat.zero_le _
  | w + 1 => Nat.max_le.mpr ⟨mxF_le h w, h w⟩
theorem ojMax_nI {a b : Nat} (ha : a < 2 ^ 31) (hb : b < 2 ^ 31) : ojMax (nI a) (nI b) = nI (max a b) := by
  unfold ojMax
  by_cases h : a < b
  · rw [if_pos ((nI_ltI ha hb).mpr h), Nat.max_eq_right (by omega)]
  · rw [if_neg (fun q => h ((nI_ltI ha hb).mp q)), Nat.max_eq_left (by omega)]
theorem st_worst {σ τ : ojS} (h : RRR σ τ) (a : Int32) : stp (f_X8_worst a σ) (f_X9_worst a τ) := by
  obtain ⟨N, S, K, P, hR⟩ := id h
  unfold f_X8_worst f_X9_worst
  rw [isWithin_eq]
  rcases in_cases a 0 48 (by decide) (by decide) with e | ⟨n, -, hn, rfl, e⟩
  · rw [show f_X9_in a 0 48 = some 0 from e]
    have : f_X9_worst_4 a (-1) 0 τ = some (-1, τ) := by
      unfold f_X9_worst_4
      refine ojFix_inv (bot := fun _ _ _ => none) (fun (r : Int32 → Int32 → ojS → Option (Int32 × ojS)) (q : Int32 × Int32 × ojS) => r q.1 q.2.1 q.2.2) _ (fun _ q => q = (-1, 0, τ)) (fun z => z = some (-1, τ)) 0 (fun r k a hk => absurd hk (Nat.not_lt_zero _)) ?_ 600 0 (-1, 0, τ) (Nat.le_refl _) (by decide) rfl
      rintro r q rfl
      dsimp only
      rw [if_neg (show ¬ (3 : Int32) ≤ 0 by decide), show f_X9_in a 0 48 = some 0 from e]
      rfl
    rw [this]
    exact ⟨_, σ, τ, rfl, rfl, h⟩
  rw [show f_X9_in (nI n) 0 48 = some 1 from e]
  simp only [ojB1_s, if10, ifF]
  obtain ⟨hv, hv9, f1, f2⟩ := fore_both hR hn
  have mx9 := mxF_le hv9
  have hO : ∃ σ2, f_X8_worst_16 (nI n) 0 0 σ = some (nI (mxF hv 3), σ2) ∧ ∀ k, k ≠ 24 → k ≠ 20 → k ≠ 28 → σ2 k = σ k := by
    unfold f_X8_worst_16
    refine ojFix_inv (bot := fun _ _ _ => none) (fun (r : Int32 → Int32 → ojS → Option (Int32 × ojS)) (q : Int32 × Int32 × ojS) => r q.1 q.2.1 q.2.2) _ (fun t q => q.1 = nI (mxF hv t) ∧ q.2.1 = nI t ∧ ∀ k, k ≠ 24 → k ≠ 20 → k ≠ 28 → q.2.2 k = σ k) (fun z => ∃ σ2, z = some (nI (mxF hv 3), σ2) ∧ ∀ k, k ≠ 24 → k ≠ 20 → k ≠ 28 → σ2 k = σ k) 3 ?_ ?_ 600 0 (0, 0, σ) (by decide) (by decide) ⟨rfl, rfl, fun _ _ _ _ => rfl⟩
    · rintro r t ⟨v2, v3, s⟩ ht ⟨h1, h2, h3⟩
      dsimp only at h1 h2 h3 ⊢
      subst h1; subst h2
      rw [if_neg (ge_3 ht)]
      obtain ⟨σ2, b1, b2⟩ := f1 s t (by omega) h3
      rw [b1]
      simp only [ojB2_s, ojLet_s]
      rw [ojMax_nI (by have := mx9 t; omega) (by have := hv9 t; omega)]
      exact Or.inl ⟨(nI (mxF hv (t + 1)), nI t + 1, σ2), ⟨rfl, nI_1 t, b2⟩, rfl⟩
    · rintro r ⟨v2, v3, s⟩ ⟨h1, h2, h3⟩
      dsimp only at h1 h2 h3 ⊢
      subst h1; subst h2
      rw [if_pos (show (3 : Int32) ≤ nI 3 by decide)]
      exact ⟨s, rfl, h3⟩
  have hM : ∃ τ2, f_X9_worst_4 (nI n) (-1) 0 τ = some (nI (mxF hv 3), τ2) ∧ Tq τ τ2 := by
    unfold f_X9_worst_4
    refine ojFix_inv (bot := fun _ _ _ => none) (fun (r : Int32 → Int32 → ojS → Option (Int32 × ojS)) (q : Int32 × Int32 × ojS) => r q.1 q.2.1 q.2.2) _ (fun t q => q.1 = (if t = 0 then -1 else nI (mxF hv t)) ∧ q.2.1 = nI t ∧ Tq τ q.2.2) (fun z => ∃ τ2, z = some (nI (mxF hv 3), τ2) ∧ Tq τ τ2) 3 ?_ ?_ 600 0 (-1, 0, τ) (by decide) (by decide) ⟨rfl, rfl, Tq_rf τ⟩
    · rintro r t ⟨v2, v3, s⟩ ht ⟨h1, h2, h3⟩
      dsimp only at h1 h2 h3 ⊢
      subst h2
      rw [if_neg (ge_3 ht), show f_X9_in (nI n) 0 48 = some 1 from e]
      simp only [ojB1_s, if10, ifF]
      obtain ⟨τ2, c1, c2⟩ := f2 s t (by omega) h3
      obtain ⟨τ3, d1, d2⟩ := f2 τ2 t (by omega) c2
      have m1 := mx9 t
      have m2 := hv9 t
      rw [c1]
      simp only [ojB2_s]
      rw [d1]
      simp only [ojB2_s, ojLet_s]
      by_cases t0 : t = 0
      · rw [if_pos t0] at h1
        rw [h1, if_neg (show ¬ nI (hv t) ≤ -1 from fun q => by
          rw [Int32.le_iff_toInt_le, nI_toInt (by omega)] at q
          have : (-1 : Int32).toInt = -1 := by decide
          omega)]
        refine Or.inl ⟨(nI (hv t), nI t + 1, τ3), ⟨?_, nI_1 t, d2⟩, rfl⟩
        dsimp only
        rw [if_neg (by omega), mxF]
        subst t0
        exact congrArg nI (by show hv 0 = max 0 (hv 0); omega)
      · rw [if_neg t0] at h1
        rw [h1]
        by_cases q : hv t ≤ mxF hv t
        · rw [if_pos (nI_le q (by omega))]
          refine Or.inl ⟨(nI (mxF hv t), nI t + 1, τ2), ⟨?_, nI_1 t, c2⟩, rfl⟩
          dsimp only
          rw [if_neg (by omega), mxF, Nat.max_eq_left q]
        · rw [if_neg (fun z => q ((nI_leI (by omega) (by omega)).mp z))]
          refine Or.inl ⟨(nI (hv t), nI t + 1, τ3), ⟨?_, nI_1 t, d2⟩, rfl⟩
          dsimp only
          rw [if_neg (by omega), mxF, Nat.max_eq_right (by omega)]
    · rintro r ⟨v2, v3, s⟩ ⟨h1, h2, h3⟩
      dsimp only at h1 h2 h3 ⊢
      subst h2
      rw [if_pos (show (3 : Int32) ≤ nI 3 by decide), h1, if_neg (by decide)]
      exact ⟨s, rfl, h3⟩
  obtain ⟨σ2, b1, b2⟩ := hO
  obtain ⟨τ2, c1, c2⟩ := hM
  rw [b1, c1]
  exact ⟨_, σ2, τ2, rfl, rfl, N, S, K, P, Tq_RR hR c2 (fun k q1 q2 => b2 k (by omega) (by omega) (by omega))⟩
