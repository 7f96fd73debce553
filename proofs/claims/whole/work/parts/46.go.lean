theorem pre_hour {N S K P : Nat} {σ τ : ojS} (hR : RR N S K P σ τ) : ∃ at_ rt rm L ld t : Nat → Nat, EV K σ τ ∧ FO K at_ rt rm σ ∧ FM K at_ rt rm τ ∧ (∀ c, c < 96 → σ 23 c = nI (L c)) ∧ (∀ c, c < 96 → τ 2 c = nI (L c)) ∧ (∀ i, i < 4 → σ 27 i = nI (ld i)) ∧ (∀ i, i < 4 → τ 13 i = nI (ld i)) ∧ (∀ i, i < K → ld i ≤ rm i) ∧ (∀ i, i < 4 → τ 14 i = nI (t i)) ∧ nsum L 96 + nsum t 4 ≤ S ∧ S ≤ 1000000 ∧ (S = 0 → L = fun _ => 0) ∧ (∀ i, K ≤ i → i < 4 → ld i = 0) ∧ ∀ i, i < K → τ 1 (at_ i) = 0 := by
  obtain ⟨hN, hS, hK, hP, hnet, hsky, hfs, hlq, hlo, haw, hfl, hskd, hhr, hpt, hbm, hsh⟩ := hR
  obtain ⟨L0, t, q1, q2, q3⟩ := hlq
  have hK4 := hK.1
  have hS1 := hS.1
  obtain ⟨L, l1, l2, l3⟩ : ∃ L : Nat → Nat, (∀ c, c < 96 → L c = L0 c) ∧ nsum L 96 = nsum L0 96 ∧ (S = 0 → L = fun _ => 0) := by
    by_cases h0 : S = 0
    · have hz : ∀ c, c < 96 → L0 c = 0 := fun c hc => by have := nsum_ge (f := L0) hc; omega
      exact ⟨fun _ => 0, fun c hc => (hz c hc).symm, nsum_congr (fun c hc => (hz c hc).symm), fun _ => rfl⟩
    · exact ⟨L0, fun _ _ => rfl, rfl, fun q => absurd q h0⟩
  refine ⟨fun i => (τ 9 i).toNatClampNeg, fun i => (τ 10 i).toNatClampNeg, fun i => (τ 11 i).toNatClampNeg, L, fun i => (τ 13 i).toNatClampNeg, t, ⟨hnet, hsky, hbm, hK4, hK.2.1, hK.2.2⟩, fun i hi => ?_, fun i hi => ?_, fun c hc => by rw [(q1 c hc).1, l1 c hc], fun c hc => by rw [(q1 c hc).2, l1 c hc], fun i hi => ?_, fun i hi => ?_, fun i hi => ?_, q2, by omega, hS1, l3, fun i h1 h2 => ?_, fun i hi => ?_⟩
  · obtain ⟨-, -, -, -, g5, -⟩ := hfl i (by omega)
    obtain ⟨e1, e2, e3, e4, a, b, c, d, e, f1, f2, f3, f4, f5, f6, f7, f8, f9, f10, f11, f12, f13⟩ := g5 hi
    dsimp only
    rw [e1, e2, e3, f2, f6, f8, nI_clamp (by omega), nI_clamp (by omega), nI_clamp (by omega)]
    exact ⟨rfl, rfl, rfl, f1, f5, f7⟩
  · obtain ⟨-, -, -, -, g5, -⟩ := hfl i (by omega)
    obtain ⟨e1, e2, e3, e4, a, b, c, d, e, f1, f2, f3, f4, f5, f6, f7, f8, f9, f10, f11, f12, f13⟩ := g5 hi
    dsimp only
    rw [f2, f6, f8, nI_clamp (by omega), nI_clamp (by omega), nI_clamp (by omega)]
    exact ⟨rfl, rfl, rfl, f1, f5, f7⟩
  · obtain ⟨g1, -, -, -, g5, g6⟩ := hfl i hi
    dsimp only
    rw [g1]
    by_cases hq : i < K
    · obtain ⟨e1, e2, e3, e4, a, b, c, d, e, f1, f2, f3, f4, f5, f6, f7, f8, f9, f10, f11, f12, f13⟩ := g5 hq
      rw [f13, nI_clamp (by omega)]
    · rw [(g6 (by omega)).1]; rfl
  · obtain ⟨-, -, -, -, g5, g6⟩ := hfl i hi
    dsimp only
    by_cases hq : i < K
    · obtain ⟨e1, e2, e3, e4, a, b, c, d, e, f1, f2, f3, f4, f5, f6, f7, f8, f9, f10, f11, f12, f13⟩ := g5 hq
      rw [f13, nI_clamp (by omega)]
    · rw [(g6 (by omega)).1]; rfl
  · obtain ⟨-, -, -, -, g5, -⟩ := hfl i (by omega)
    obtain ⟨e1, e2, e3, e4, a, b, c, d, e, f1, f2, f3, f4, f5, f6, f7, f8, f9, f10, f11, f12, f13⟩ := g5 hi
    dsimp only
    rw [f8, f13, nI_clamp (by omega), nI_clamp (by omega)]
    exact f12
  · dsimp only
    rw [((hfl i h2).2.2.2.2.2 h1).1]; rfl
  · obtain ⟨-, -, -, -, g5, -⟩ := hfl i (by omega)
    obtain ⟨e1, e2, e3, e4, a, b, c, d, e, f1, f2, f3, f4, f5, f6, f7, f8, f9, f10, f11, f12, f13⟩ := g5 hi
    dsimp only
    rw [f2, nI_clamp (by omega)]
    exact f3
theorem ddf_0 {rk : Nat → Int32} {hf : Nat → Nat} {w c : Nat} : ddf rk hf w (fun _ => 0) c = 0 := Nat.le_zero.mp (ddf_le c)
theorem dr0_0 {τ : ojS} {wd h : Nat} : dr0 τ wd h (fun _ => 0) = fun _ => 0 := by
  funext x
  unfold dr0
  split
  · rfl
  · unfold drf
    rw [ddf_0, nsum_zero (fun k _ => by rw [ddf_0]; split <;> rfl)]
    rfl
theorem hrL_0 {τ : ojS} {wd h p : Nat} : hrL τ wd h p (fun _ => 0) = fun _ => 0 := by
  unfold hrL
  rw [dr0_0]
  funext x
  exact Nat.le_zero.mp (lsf_le x)
theorem age_eq {N S h wd : Nat} {a b : Int32} {τ : ojS} {L : Nat → Nat} (hfs : Rfs N S a b) (h0 : S = 0 → L = fun _ => 0) : hrL τ wd h (page (nI h - a)) L = hrL τ wd h (page (nI h - b)) L ∧ ∀ c, lsa (τ 1) (page (nI h - a)) (dr0 τ wd h L) c = lsa (τ 1) (page (nI h - b)) (dr0 τ wd h L) c := by
  by_cases hS : S = 0
  · rw [h0 hS, hrL_0, hrL_0, dr0_0]
    exact ⟨rfl, fun c => by unfold lsa; split <;> simp⟩
  · obtain ⟨f, -, e1, e2⟩ := hfs.2 hS
    rw [e1, e2]
    exact ⟨rfl, fun c => rfl⟩
theorem ow_begin {σ : ojS} {K : Nat} (hK : K ≤ 4) (h : σ 9 1 = nI K) : ∃ σ', f_X1_beginHour σ = some σ' ∧ (∀ k, (k < 15 ∨ 19 ≤ k) → σ' k = σ k) ∧ (∀ i j, i < 4 → j ≠ 5 → σ' (15 + i) j = σ (15 + i) j) ∧ (∀ i, i < K → σ' (15 + i) 5 = 0) ∧ ∀ i, K ≤ i → i < 4 → σ' (15 + i) 5 = σ (15 + i) 5 := by
  unfold f_X1_beginHour f_X1_beginHour_2
  refine ojFix_inv (bot := fun _ _ => none) (fun (r : Int32 → ojS → Option ojS) (q : Int32 × ojS) => r q.1 q.2) _ (fun t q => q.1 = nI t ∧ (∀ k, (k < 15 ∨ 19 ≤ k) → q.2 k = σ k) ∧ (∀ i j, i < 4 → j ≠ 5 → q.2 (15 + i) j = σ (15 + i) j) ∧ (∀ i, i < t → q.2 (15 + i) 5 = 0) ∧ ∀ i, t ≤ i → i < 4 → q.2 (15 + i) 5 = σ (15 + i) 5) (fun z => ∃ σ', z = some σ' ∧ (∀ k, (k < 15 ∨ 19 ≤ k) → σ' k = σ k) ∧ (∀ i j, i < 4 → j ≠ 5 → σ' (15 + i) j = σ (15 + i) j) ∧ (∀ i, i < K → σ' (15 + i) 5 = 0) ∧ ∀ i, K ≤ i → i < 4 → σ' (15 + i) 5 = σ (15 + i) 5) K ?_ ?_ 600 0 (0, σ) (by omega) (by omega) ⟨rfl, fun _ _ => rfl, fun _ _ _ _ => rfl, fun i hi => by omega, fun _ _ _ => rfl⟩
  · rintro r t ⟨v, s⟩ ht ⟨h1, h2, h3, h4, h5⟩
    dsimp only at h1 h2 h3 h4 h5 ⊢
    subst h1
    rw [if_neg (show ¬ s 9 1 ≤ nI t by rw [h2 9 (by omega), h]; exact nI_ge ht (by omega)), ojChk_nI (show t < 4 by omega) (by decide), nI_clamp (by omega)]
    simp only [ojLet_s]
    refine Or.inl ⟨(nI t + 1, ojU s (15 + t) 5 0), ⟨nI_1 t, fun k hk => ?_, fun i j hi hj => ?_, fun i hi => ?_, fun i h6 h7 => ?_⟩, rfl⟩
    · dsimp only
      rw [ojU_ne (by omega), h2 k hk]
    · dsimp only
      by_cases e : i = t
      · subst e; rw [ojU_eq, upd_ne hj, h3 i j hi hj]
      · rw [ojU_ne (by omega), h3 i j hi hj]
    · dsimp only
      by_cases e : i = t
      · subst e; rw [ojU_eq, upd_eq]
      · rw [ojU_ne (by omega), h4 i (by omega)]
    · dsimp only
      rw [ojU_ne (by omega), h5 i (by omega) h7]
  · rintro r ⟨v, s⟩ ⟨h1, h2, h3, h4, h5⟩
    dsimp only at h1 h2 h3 h4 h5 ⊢
    subst h1
    rw [if_pos (show s 9 1 ≤ nI K by rw [h2 9 (by omega), h]; exact Int32.le_refl _)]
    exact ⟨s, rfl, h2, h3, h4, h5⟩
theorem md_36 {τ : ojS} {rec : Int32 → ojS → Option (Int32 × ojS)} {a1 a2 : Int32} {K : Nat} (hK : K ≤ 4) (h : τ 0 14 = nI K) : ∃ τ', f_X9_go_36 rec a1 a2 0 τ = rec (a2 + 1) τ' ∧ (∀ k, k ≠ 16 → τ' k = τ k) ∧ (∀ i, i < K → τ' 16 i = 0) ∧ ∀ i, K ≤ i → τ' 16 i = τ 16 i := by
  unfold f_X9_go_36
  refine ojFix_inv (bot := fun _ _ => none) (fun (r : Int32 → ojS → Option (Int32 × ojS)) (q : Int32 × ojS) => r q.1 q.2) _ (fun t q => q.1 = nI t ∧ (∀ k, k ≠ 16 → q.2 k = τ k) ∧ (∀ i, i < t → q.2 16 i = 0) ∧ ∀ i, t ≤ i → q.2 16 i = τ 16 i) (fun z => ∃ τ', z = rec (a2 + 1) τ' ∧ (∀ k, k ≠ 16 → τ' k = τ k) ∧ (∀ i, i < K → τ' 16 i = 0) ∧ ∀ i, K ≤ i → τ' 16 i = τ 16 i) K ?_ ?_ 600 0 (0, τ) (by omega) (by omega) ⟨rfl, fun _ _ => rfl, fun i hi => by omega, fun _ _ => rfl⟩
  · rintro r t ⟨v, s⟩ ht ⟨h1, h2, h3, h4⟩
    dsimp only at h1 h2 h3 h4 ⊢
    subst h1
    rw [if_neg (show ¬ s 0 14 ≤ nI t by rw [h2 0 (by omega), h]; exact nI_ge ht (by omega)), ojChk_nI (show t < 4 by omega) (by decide), nI_clamp (by omega)]
    simp only [ojLet_s, nar_0]
    refine Or.inl ⟨(nI t + 1, ojU s 16 t 0), ⟨nI_1 t, fun k hk => ?_, fun i hi => ?_, fun i h6 => ?_⟩, rfl⟩
    · dsimp only
      rw [ojU_ne hk, h2 k hk]
    · dsimp only
      rw [ojU_eq]
      by_cases e : i = t
      · rw [e, upd_eq]
      · rw [upd_ne e, h3 i (by omega)]
    · dsimp only
      rw [ojU_eq, upd_ne (by omega), h4 i (by omega)]
  · rintro r ⟨v, s⟩ ⟨h1, h2, h3, h4⟩
    dsimp only at h1 h2 h3 h4 ⊢
    subst h1
    rw [if_pos (show s 0 14 ≤ nI K by rw [h2 0 (by omega), h]; exact Int32.le_refl _)]
    exact ⟨s, rfl, h2, h3, h4⟩
theorem ow_48 {σ τ : ojS} {rec : ojS → Option (Int32 × ojS)} {a2 : Int32} {N P K : Nat} (hN : N ≤ 500) (ht : σ 0 10 = nI N) (hP : P ≤ 8) (h9 : σ 0 9 = nI P) (hK : K ≤ 4) (hk : σ 9 1 = nI K) (hnet : Rnet (σ 2) (τ 1)) (hsky : Rsky (σ 8) (τ 3) (τ 4)) (A : Nat → Nat → Prop) (hA : ∀ i, i < P → bitF (A i) (σ (39 + i))) :
    ∃ σ', f_X8_go_48 rec a2 0 σ = rec σ' ∧ (∀ k, k ≠ 0 → (k < 15 ∨ 19 ≤ k) → k < 39 → σ' k = σ k) ∧ (∀ j, j ≠ 10 → j ≠ 13 → σ' 0 j = σ 0 j) ∧ σ' 0 10 = nI (N + 1) ∧ σ' 0 13 = σ 0 13 + nI K ∧ (∀ i j, i < 4 → j ≠ 5 → σ' (15 + i) j = σ (15 + i) j) ∧ (∀ i, i < K → σ' (15 + i) 5 = 0) ∧ (∀ i, K ≤ i → i < 4 → σ' (15 + i) 5 = σ (15 + i) 5) ∧ (∀ i, i < P → bitF (spB (τ 1) (wyN τ 0 N) (A i)) (σ' (39 + i))) ∧ ∀ i, P ≤ i → σ' (39 + i) = σ (39 + i) := by
  unfold f_X8_go_48
  refine ojFix_inv (bot := fun _ _ => none) (fun (r : Int32 → ojS → Option (Int32 × ojS)) (q : Int32 × ojS) => r q.1 q.2) _ (fun t q => q.1 = nI t ∧ (∀ k, k < 39 → q.2 k = σ k) ∧ (∀ i, i < t → bitF (spB (τ 1) (wyN τ 0 N) (A i)) (q.2 (39 + i))) ∧ ∀ i, t ≤ i → q.2 (39 + i) = σ (39 + i)) (fun z => ∃ σ', z = rec σ' ∧ (∀ k, k ≠ 0 → (k < 15 ∨ 19 ≤ k) → k < 39 → σ' k = σ k) ∧ (∀ j, j ≠ 10 → j ≠ 13 → σ' 0 j = σ 0 j) ∧ σ' 0 10 = nI (N + 1) ∧ σ' 0 13 = σ 0 13 + nI K ∧ (∀ i j, i < 4 → j ≠ 5 → σ' (15 + i) j = σ (15 + i) j) ∧ (∀ i, i < K → σ' (15 + i) 5 = 0) ∧ (∀ i, K ≤ i → i < 4 → σ' (15 + i) 5 = σ (15 + i) 5) ∧ (∀ i, i < P → bitF (spB (τ 1) (wyN τ 0 N) (A i)) (σ' (39 + i))) ∧ ∀ i, P ≤ i → σ' (39 + i) = σ (39 + i)) P ?_ ?_ 600 0 (0, σ) (by omega) (by omega) ⟨rfl, fun _ _ => rfl, fun i hi => by omega, fun _ _ => rfl⟩
  · rintro r t ⟨v, s⟩ htP ⟨h1, h2, h3, h4⟩
    dsimp only at h1 h2 h3 h4 ⊢
    subst h1
    rw [if_neg (show ¬ s 0 9 ≤ nI t by rw [h2 0 (by omega), h9]; exact nI_ge htP (by omega)), ojChk_nI (show t < 8 by omega) (by decide), nI_clamp (by omega), h2 0 (by omega), ht]
    obtain ⟨σ', b1, b2, b3⟩ := ow_spread (σ := s) (τ := τ) (n := t) (h := N) (by rw [h2 2 (by omega)]; exact hnet) (by rw [h2 8 (by omega)]; exact hsky) (by omega) (by rw [h4 t (Nat.le_refl _)]; exact hA t htP)
    rw [b1]
    simp only [ojBv_s, ojLet_s]
    refine Or.inl ⟨(nI t + 1, σ'), ⟨nI_1 t, fun k hk => ?_, fun i hi => ?_, fun i hi => ?_⟩, rfl⟩
    · dsimp only
      rw [b2 k (by omega), h2 k hk]
    · dsimp only
      by_cases e : i = t
      · subst e; exact b3
      · rw [b2 (39 + i) (by omega)]; exact h3 i (by omega)
    · dsimp only
      rw [b2 (39 + i) (by omega), h4 i (by omega)]
  · rintro r ⟨v, s⟩ ⟨h1, h2, h3, h4⟩
    dsimp only at h1 h2 h3 h4 ⊢
    subst h1
    rw [if_pos (show s 0 9 ≤ nI P by rw [h2 0 (by omega), h9]; exact Int32.le_refl _)]
    simp only [ojLet_s]
    obtain ⟨σ', b1, b2, b3, b4, b5⟩ := ow_begin (σ := ojU s 0 13 (s 0 13 + s 9 1)) (K := K) hK (by rw [ojU_ne (by omega), h2 9 (by omega)]; exact hk)
    rw [b1]
    simp only [ojBv_s]
    refine ⟨ojU σ' 0 10 (σ' 0 10 + 1), rfl, fun k q1 q2 q3 => by rw [ojU_ne q1, b2 k q2, ojU_ne q1, h2 k q3], fun j q1 q2 => by rw [ojU_eq, upd_ne q1, b2 0 (by omega), ojU_eq, upd_ne q2, h2 0 (by omega)], ?_, ?_, fun i j q1 q2 => by rw [ojU_ne (by omega), b3 i j q1 q2, ojU_ne (by omega), h2 (15 + i) (by omega)], fun i q1 => by rw [ojU_ne (by omega), b4 i q1], fun i q1 q2 => by rw [ojU_ne (by omega), b5 i q1 q2, ojU_ne (by omega), h2 (15 + i) (by omega)], fun i q1 => by rw [ojU_ne (by omega), b2 (39 + i) (by omega), ojU_ne (by omega)]; exact h3 i q1, fun i q1 => by rw [ojU_ne (by omega), b2 (39 + i) (by omega), ojU_ne (by omega), h4 i q1]⟩
    · rw [ojU_eq, upd_eq, b2 0 (by omega), ojU_eq, upd_ne (by decide), h2 0 (by omega), ht, nI_1]
    · rw [ojU_eq, upd_ne (by decide), b2 0 (by omega), ojU_eq, upd_eq, h2 0 (by omega), h2 9 (by omega), hk]
theorem nsum_sub {f g : Nat → Nat} : ∀ {n : Nat}, (∀ k, k < n → g k ≤ f k) → nsum (fun k => f k - g k) n + nsum g n = nsum f n
  | 0, _ => rfl
  | n + 1, h => by
    rw [nsum, nsum, nsum]
    have := nsum_sub (f := f) (g := g) (n := n) (fun k hk => h k (by omega))
    have := h n (by omega)
    omega
theorem go_step {N S K P : Nat} {σ τ : ojS} (hR : RR N S K P σ τ) (hlt : N < 500) (rec : ojS → Option (Int32 × ojS)) (x2 : Int32) (rec' : Int32 → ojS → Option (Int32 × ojS)) (x1 k : Int32) :
    ∃ σ' τ', ojBv (f_X8_passHour 0 0 (σ 0 10) σ) (fun σ4 => f_X8_go_48 rec x2 0 σ4) = rec σ' ∧ ojBv (f_X9_hour 0 τ) (fun σ3 => f_X9_go_36 rec' x1 k 0 σ3) = rec' (k + 1) τ' ∧ RR (N + 1) S K P σ' τ' := by
  obtain ⟨at_, rt, rm, L, ld, t, hE, hFO, hFM, hL1, hL2, hD1, hD2, hl, ht, hsum, hS1, hS0, hld0, hats⟩ := pre_hour hR
  obtain ⟨hN, hS, hK, hP, hnet, hsky, hfs, hlq, hlo, haw, hfl, hskd, hhr, hpt, hbm, hsh⟩ := id hR
  have hK4 := hK.1
  have hP8 := hP.1
  obtain ⟨σ1, a1, a2, a3, a4, a5, a6⟩ := ow_hour hE (n := 0) (wd := 0) (h := N) (by decide) (by decide) (by omega) hFO hL1 hD1 (by omega) hl
  obtain ⟨τ1, b1, b2, b3, b4, b5, b6, b7, b8, b9, b10⟩ := md_hour hE (wd := 0) (h := N) (by decide) (by omega) hN.2.2 hFM hL2 hD2 (by omega) hl
  obtain ⟨ag1, ag2⟩ := age_eq (τ := τ) (wd := 0) (h := N) (L := L) hfs hS0
  rw [ag1] at a5 a6
  have hA : ∀ i, i < P → bitF (fun c => σ1 (39 + i) c = 1) (σ1 (39 + i)) := fun i hi c hc => by
    refine ⟨fun q => q, fun q => ?_⟩
    rw [a2 (39 + i) (by omega) (by omega) (by omega)] at q ⊢
    obtain ⟨-, -, m, hh, aa, -, -, -, -, -, -, -, f8⟩ := (hsh i (by omega)).1 hi
    by_cases z : rch (τ 1) (τ 3) aa hh (N - hh) c
    · exact absurd ((f8 c hc).1 z) q
    · exact (f8 c hc).2 z
  have hs0 : σ1 0 = σ 0 := a2 0 (by omega) (by omega) (by omega)
  obtain ⟨σ', c0, c1, c2, c3, c4, c5, c6, c7, c8, c9⟩ := ow_48 (σ := σ1) (τ := τ) (rec := rec) (a2 := x2) (N := N) (P := P) (K := K) hN.1 (by rw [hs0]; exact hN.2.1) hP8 (by rw [hs0]; exact hP.2.1) hK4 (by rw [a2 9 (by omega) (by omega) (by omega)]; exact hK.2.1) (by rw [a2 2 (by omega) (by omega) (by omega)]; exact hnet) (by rw [a2 8 (by omega) (by omega) (by omega)]; exact hsky) (fun i c => σ1 (39 + i) c = 1) hA
  obtain ⟨τ', d0, d1, d2, d3⟩ := md_36 (τ := τ1) (rec := rec') (a1 := x1) (a2 := k) (K := K) hK4 (by rw [b3 14 (by omega) (by omega) (by omega) (by omega)]; exact hK.2.2)
  refine ⟨σ', τ', ?_, ?_, ?_⟩
  · rw [hN.2.1, show f_X8_passHour 0 0 (nI N) σ = some σ1 from a1]
    simp only [ojBv_s]
    exact c0
  · rw [show f_X9_hour 0 τ = some τ1 from b1]
    simp only [ojBv_s]
    exact d0
  · have fo : ∀ k, k ≠ 0 → (k < 15 ∨ 19 ≤ k) → k < 39 → k ≠ 23 → k ≠ 19 → k ≠ 27 → σ' k = σ k := fun k q1 q2 q3 q4 q5 q6 => by rw [c1 k q1 q2 q3, a2 k q4 q5 q6]
    have fo0 : ∀ j, j ≠ 10 → j ≠ 13 → σ' 0 j = σ 0 j := fun j q1 q2 => by rw [c2 j q1 q2, hs0]
    have fm : ∀ k, k ≠ 0 → k ≠ 2 → k ≠ 13 → k ≠ 14 → k ≠ 16 → k ≠ 21 → τ' k = τ k := fun k q1 q2 q3 q4 q5 q6 => by rw [d1 k q5, b2 k q1 q2 q3 q4 q6]
    have fm0 : ∀ j, j ≠ 0 → j ≠ 11 → j ≠ 12 → j ≠ 13 → τ' 0 j = τ 0 j := fun j q1 q2 q3 q4 => by rw [d1 0 (by omega), b3 j q1 q2 q3 q4]
    generalize hsk : skN at_ rt rm K 0 (hrL τ 0 N (page (nI N - τ 0 10)) L) ld = sk at a5 a6 b7 b8 b9 b10
    have sk_ge : ∀ j, ld j ≤ sk.2 j := fun j => by rw [← hsk]; exact skN_ge _ _ _ _ j
    have sk_rm : ∀ j, j < K → sk.2 j ≤ rm j := fun j hj => by rw [← hsk]; exact skN_rm _ _ _ _ j (hl j hj)
    have sk_out : ∀ j, K ≤ j → sk.2 j = ld j := fun j hj => by rw [← hsk]; exact skN_out _ _ _ _ j (Or.inr (by omega))
    have sk_sum : nsum sk.1 96 + nsum sk.2 4 = nsum (hrL τ 0 N (page (nI N - τ 0 10)) L) 96 + nsum ld 4 := by rw [← hsk]; exact skN_sum K 0 _ _ (by omega) (fun j _ hj => (hFM j (by omega)).2.2.2.1)
    have hr_sum := hrL_sum (τ := τ) (wd := 0) (h := N) (p := page (nI N - τ 0 10)) (L := L)
    have sub_sum := nsum_sub (f := sk.2) (g := ld) (n := 4) (fun k _ => sk_ge k)
    refine ⟨⟨by omega, c3, by rw [d1 0 (by omega), b4]⟩, by rw [fo0 11 (by omega) (by omega), fm0 9 (by omega) (by omega) (by omega) (by omega)]; exact hS, by rw [fo 9 (by omega) (by omega) (by omega) (by omega) (by omega) (by omega), fm0 14 (by omega) (by omega) (by omega) (by omega)]; exact hK, by rw [fo0 9 (by omega) (by omega), fm0 23 (by omega) (by omega) (by omega) (by omega)]; exact hP, by rw [fo 2 (by omega) (by omega) (by omega) (by omega) (by omega) (by omega), fm 1 (by omega) (by omega) (by omega) (by omega) (by omega) (by omega)]; exact hnet, by rw [fo 8 (by omega) (by omega) (by omega) (by omega) (by omega) (by omega), fm 3 (by omega) (by omega) (by omega) (by omega) (by omega) (by omega), fm 4 (by omega) (by omega) (by omega) (by omega) (by omega) (by omega)]; exact hsky, ?_, ?_, ?_, ?_, ?_, ?_, ?_, by rw [fo 14 (by omega) (by omega) (by omega) (by omega) (by omega) (by omega), fm 20 (by omega) (by omega) (by omega) (by omega) (by omega) (by omega)]; exact hpt, by rw [fo 3 (by omega) (by omega) (by omega) (by omega) (by omega) (by omega), fo 4 (by omega) (by omega) (by omega) (by omega) (by omega) (by omega), fo 5 (by omega) (by omega) (by omega) (by omega) (by omega) (by omega), fo 6 (by omega) (by omega) (by omega) (by omega) (by omega) (by omega), fm 5 (by omega) (by omega) (by omega) (by omega) (by omega) (by omega), fm 6 (by omega) (by omega) (by omega) (by omega) (by omega) (by omega), fm 7 (by omega) (by omega) (by omega) (by omega) (by omega) (by omega), fm 8 (by omega) (by omega) (by omega) (by omega) (by omega) (by omega)]; exact hbm, ?_⟩
    · rw [fo0 12 (by omega) (by omega), fm0 10 (by omega) (by omega) (by omega) (by omega)]
      exact ⟨hfs.1, fun q => by obtain ⟨f, f1, f2, f3⟩ := hfs.2 q; exact ⟨f, by omega, f2, f3⟩⟩
    · refine ⟨sk.1, fun i => t i + (sk.2 i - ld i), fun c hc => ⟨?_, ?_⟩, fun i hi => ?_, ?_⟩
      · rw [c1 23 (by omega) (by omega) (by omega)]; exact a5 c hc
      · rw [d1 2 (by omega)]; exact b8 c hc
      · rw [d1 14 (by omega), b10 i hi, ht i hi, nI_add]
      · rw [nsum_add]; omega
    · rw [c1 19 (by omega) (by omega) (by omega), d1 0 (by omega), b5]
      rw [show σ1 19 2 = _ from a3, hlo]
      exact congrArg (fun z => τ 0 11 + z) (isum_congr (fun c _ => by rw [ag2 c]))
    · rw [c1 19 (by omega) (by omega) (by omega), d1 0 (by omega), b6]
      rw [show σ1 19 3 = _ from a4, haw]
    · intro i hi
      obtain ⟨g1, g2, g3, g4, g5, g6⟩ := hfl i hi
      have s15 : ∀ j, j ≠ 5 → σ' (15 + i) j = σ (15 + i) j := fun j q => by rw [c5 i j hi q, a2 (15 + i) (by omega) (by omega) (by omega)]
      have e13 : τ' 13 i = nI (sk.2 i) := by rw [d1 13 (by omega)]; exact b9 i hi
      have e14 : τ' 14 i = τ 14 i + nI (sk.2 i - ld i) := by rw [d1 14 (by omega)]; exact b10 i hi
      refine ⟨?_, ?_, ?_, ?_, fun hiK => ?_, fun hiK => ?_⟩
      · rw [e13, c1 27 (by omega) (by omega) (by omega)]; exact a6 i hi
      · rw [s15 4 (by omega), e13, e14, ← g2, hD2 i hi, Int32.add_assoc, nI_add]
        refine congrArg (fun z => σ (15 + i) 4 + nI z) ?_
        have := sk_ge i
        omega
      · by_cases q : i < K
        · rw [c6 i q, d2 i q]
        · rw [c7 i (by omega) hi, a2 (15 + i) (by omega) (by omega) (by omega), d3 i (by omega), b2 16 (by omega) (by omega) (by omega) (by omega) (by omega)]; exact g3
      · by_cases q : i < K
        · exact Or.inl (d2 i q)
        · rw [d3 i (by omega), b2 16 (by omega) (by omega) (by omega) (by omega) (by omega)]; exact g4
      · obtain ⟨e1, e2, e3, e4, aa, bb, cc, dd, ee, f1, f2, f3, f4, f5, f6, f7, f8, f9, f10, f11, f12, f13⟩ := g5 hiK
        have t9 := fm 9 (by omega) (by omega) (by omega) (by omega) (by omega) (by omega)
        have t10 := fm 10 (by omega) (by omega) (by omega) (by omega) (by omega) (by omega)
        have t11 := fm 11 (by omega) (by omega) (by omega) (by omega) (by omega) (by omega)
        have t12 := fm 12 (by omega) (by omega) (by omega) (by omega) (by omega) (by omega)
        have t1 := fm 1 (by omega) (by omega) (by omega) (by omega) (by omega) (by omega)
        rw [t9, t10, t11, t12, t1, s15 0 (by omega), s15 1 (by omega), s15 2 (by omega), s15 3 (by omega)]
        have hcm : cc = rm i := nI_inj (by omega) (by have := (hFM i hiK).2.2.2.2.2; omega) (by rw [← f8]; exact (hFM i hiK).2.2.1)
        exact ⟨e1, e2, e3, e4, aa, bb, cc, dd, sk.2 i, f1, f2, f3, f4, f5, f6, f7, f8, f9, f10, f11, by rw [hcm]; exact sk_rm i hiK, e13⟩
      · obtain ⟨z1, z2⟩ := g6 hiK
        rw [e13, e14, sk_out i hiK, Nat.sub_self, nI_add0, z2, hld0 i hiK hi]
        exact ⟨rfl, rfl⟩
    · rw [d1 0 (by omega), d1 14 (by omega), b7, hskd, isum_congr (fun i hi => b10 i hi), isum_add, isum_nI]
    · obtain ⟨y1, y2⟩ := hhr
      rw [fm 15 (by omega) (by omega) (by omega) (by omega) (by omega) (by omega)]
      refine ⟨?_, fun i hi => by obtain ⟨c, q1, q2⟩ := y2 i hi; exact ⟨c, by omega, q2⟩⟩
      rw [c4, hs0, y1]
      have e1 : isum (fun i => nI (N + 1) - τ 15 i) K = isum (fun i => (nI N - τ 15 i) + nI 1) K := isum_congr (fun i _ => by
        rw [← nI_add, Int32.sub_eq_add_neg, Int32.sub_eq_add_neg, Int32.add_assoc, Int32.add_assoc, Int32.add_comm (nI 1)])
      have e2 : ∀ n : Nat, nsum (fun _ => 1) n = n := fun n => by
        induction n with
        | zero => rfl
        | succ n ih => rw [nsum, ih]
      rw [e1, isum_add, isum_nI (f := fun _ => 1), e2]
    · intro i hi
      rw [fm 17 (by omega) (by omega) (by omega) (by omega) (by omega) (by omega), fm 18 (by omega) (by omega) (by omega) (by omega) (by omega) (by omega), fm 19 (by omega) (by omega) (by omega) (by omega) (by omega) (by omega), fm 1 (by omega) (by omega) (by omega) (by omega) (by omega) (by omega), fm 3 (by omega) (by omega) (by omega) (by omega) (by omega) (by omega), fo (31 + i) (by omega) (by omega) (by omega) (by omega) (by omega) (by omega)]
      obtain ⟨g1, g2⟩ := hsh i hi
      refine ⟨fun hiP => ?_, fun hiP => ?_⟩
      · obtain ⟨e1, e2, m, hh, aa, f1, f2, f3, f4, f5, f6, f7, f8⟩ := g1 hiP
        refine ⟨e1, e2, m, hh, aa, f1, f2, by omega, f4, f5, f6, f7, ?_⟩
        have hb : bitF (rch (τ 1) (τ 3) aa hh (N + 1 - hh)) (σ' (39 + i)) := by
          refine bitF_iff (c8 i hiP) (fun x hx => ?_)
          have hpre : ∀ y, y < 96 → (σ1 (39 + i) y = 1 ↔ rch (τ 1) (τ 3) aa hh (N - hh) y) := fun y hy => by
            rw [a2 (39 + i) (by omega) (by omega) (by omega)]
            constructor
            · intro q
              apply Classical.byContradiction
              intro z
              rw [(f8 y hy).2 z] at q
              exact absurd q (by decide)
            · exact (f8 y hy).1
          obtain ⟨w, yy, q1, -, -, q2, -⟩ := hsky N (by omega)
          rw [show N + 1 - hh = (N - hh) + 1 by omega, wyN_0 (w := w) (by omega) q2 q1]
          simp only [rch, spB]
          rw [show hh + (N - hh) = N by omega]
          constructor
          · rintro (q | ⟨q1, b, q2, q3, q4⟩)
            · exact Or.inl ((hpre x hx).mp q)
            · exact Or.inr ⟨q1, b, q2, (hpre b q2).mp q3, q4⟩
          · rintro (q | ⟨q1, b, q2, q3, q4⟩)
            · exact Or.inl ((hpre x hx).mpr q)
            · exact Or.inr ⟨q1, b, q2, (hpre b q2).mpr q3, q4⟩
        exact hb
      · rw [c9 i hiP, a2 (39 + i) (by omega) (by omega) (by omega)]
        exact g2 hiP
theorem go_all {S K P n E N0 : Nat} (hn : n ≤ 48) (hE : E = min (N0 + n) 500) : ∀ (m N : Nat) (σ τ : ojS) (nO nM : Nat), E = N + m → N0 ≤ N → RR N S K P σ τ → m < nO → m < nM →
    ∃ σ' τ', ojFix (fun _ => none) nO (fun (rec_25 : ojS → Option (Int32 × ojS)) (σ_25 : ojS) => if nI E ≤ σ_25 0 10 then some (σ_25 0 10, σ_25) else ojBv (f_X8_passHour 0 0 (σ_25 0 10) σ_25) (fun (σ4 : ojS) => f_X8_go_48 rec_25 (nI E) 0 σ4)) σ = some (nI E, σ') ∧ ojFix (fun _ _ => none) nM (fun (rec_14 : Int32 → ojS → Option (Int32 × ojS)) (v2_14 : Int32) (σ_14 : ojS) => if nI n ≤ v2_14 then some (σ_14 0 0, σ_14) else if 500 ≤ (σ_14 0 0) then some (σ_14 0 0, σ_14) else ojBv (f_X9_hour 0 σ_14) (fun (σ3 : ojS) => f_X9_go_36 rec_14 (nI n) v2_14 0 σ3)) (nI (N - N0)) τ = some (nI E, τ') ∧ RR E S K P σ' τ' := by
  intro m
  induction m with
  | zero =>
    intro N σ τ nO nM h1 h2 hR h3 h4
    obtain ⟨nO, rfl⟩ : ∃ k, nO = k + 1 := ⟨nO - 1, by omega⟩
    obtain ⟨nM, rfl⟩ : ∃ k, nM = k + 1 := ⟨nM - 1, by omega⟩
    have hEN : E = N := by omega
    have hN := hR.1
    refine ⟨σ, τ, ?_, ?_, by rw [hEN]; exact hR⟩
    · rw [ojFix, if_pos (show nI E ≤ σ 0 10 by rw [hN.2.1, hEN]; exact Int32.le_refl _), hN.2.1, hEN]
    · rw [ojFix]
      by_cases q : n ≤ N - N0
      · rw [if_pos (nI_le q (by have := hN.1; omega)), hN.2.2, hEN]
      · rw [if_neg (fun z => q ((nI_leI (by omega) (by have := hN.1; omega)).mp z)), if_pos (show (500 : Int32) ≤ τ 0 0 by rw [hN.2.2]; exact nI_le (a := 500) (by omega) (by have := hN.1; omega)), hN.2.2, hEN]
  | succ m ih =>
    intro N σ τ nO nM h1 h2 hR h3 h4
    obtain ⟨nO, rfl⟩ : ∃ k, nO = k + 1 := ⟨nO - 1, by omega⟩
    obtain ⟨nM, rfl⟩ : ∃ k, nM = k + 1 := ⟨nM - 1, by omega⟩
    have hN := hR.1
    have hlt : N < 500 := by omega
    rw [ojFix, ojFix, if_neg (show ¬ nI E ≤ σ 0 10 by rw [hN.2.1]; exact nI_ge (by omega) (by omega)), if_neg (nI_ge (show N - N0 < n by omega) (by omega)), if_neg (show ¬ (500 : Int32) ≤ τ 0 0 by rw [hN.2.2]; exact nI_ge (b := 500) hlt (by decide))]
    obtain ⟨σ', τ', c1, c2, c3⟩ := go_step hR hlt (ojFix (fun _ => none) nO (fun (rec_25 : ojS → Option (Int32 × ojS)) (σ_25 : ojS) => if nI E ≤ σ_25 0 10 then some (σ_25 0 10, σ_25) else ojBv (f_X8_passHour 0 0 (σ_25 0 10) σ_25) (fun (σ4 : ojS) => f_X8_go_48 rec_25 (nI E) 0 σ4))) (nI E) (ojFix (fun _ _ => none) nM (fun (rec_14 : Int32 → ojS → Option (Int32 × ojS)) (v2_14 : Int32) (σ_14 : ojS) => if nI n ≤ v2_14 then some (σ_14 0 0, σ_14) else if 500 ≤ (σ_14 0 0) then some (σ_14 0 0, σ_14) else ojBv (f_X9_hour 0 σ_14) (fun (σ3 : ojS) => f_X9_go_36 rec_14 (nI n) v2_14 0 σ3))) (nI n) (nI (N - N0))
    rw [c1, c2]
    obtain ⟨σ2, τ2, d1, d2, d3⟩ := ih (N + 1) σ' τ' nO nM (by omega) (by omega) c3 (by omega) (by omega)
    refine ⟨σ2, τ2, d1, ?_, d3⟩
    rw [show nI (N - N0) + 1 = nI (N + 1 - N0) by rw [nI_1]; exact congrArg nI (by omega)]
    exact d2
theorem st_go {σ τ : ojS} (h : RRR σ τ) (a : Int32) : stp (f_X8_go a σ) (f_X9_go a τ) := by
  obtain ⟨N, S, K, P, hR⟩ := id h
  have hN := hR.1
  unfold f_X8_go f_X9_go
  rw [isWithin_eq]
  rcases in_cases a 0 48 (by decide) (by decide) with e | ⟨n, -, hn, rfl, e⟩
  · rw [show f_X9_in a 0 48 = some 0 from e]; exact ⟨_, σ, τ, rfl, rfl, h⟩
  rw [show f_X9_in (nI n) 0 48 = some 1 from e]
  simp only [ojB1_s, if10, ifF, ojLet_s]
  have hN1 := hN.1
  rw [hN.2.1, nI_add, show ojMin (nI (N + n)) 500 = nI (min (N + n) 500) from ojMin_nI (b := 500) (by omega) (by decide)]
  obtain ⟨σ', τ', c1, c2, c3⟩ := go_all (S := S) (K := K) (P := P) (n := n) (E := min (N + n) 500) (N0 := N) hn rfl (min (N + n) 500 - N) N σ τ 600 600 (by omega) (Nat.le_refl _) hR (by omega) (by omega)
  rw [Nat.sub_self] at c2
  exact ⟨_, σ', τ', c1, c2, _, S, K, P, c3⟩
