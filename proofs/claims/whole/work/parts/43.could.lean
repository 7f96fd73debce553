theorem RR_fr {N S K P : Nat} {σ τ σ' τ' : ojS} (h : RR N S K P σ τ) (h1 : ∀ k, k ≠ 12 → (k < 20 ∨ k = 23 ∨ k = 27 ∨ 31 ≤ k) → σ' k = σ k) (h2 : ∀ k, 1 ≤ k → k ≤ 20 → τ' k = τ k) (h3 : ∀ j, j ≠ 30 → j ≠ 31 → τ' 0 j = τ 0 j) : RR N S K P σ' τ' := by
  obtain ⟨hN, hS, hK, hP, hnet, hsky, hfs, hlq, hlo, haw, hfl, hskd, hhr, hpt, hbm, hsh⟩ := h
  refine ⟨by rw [h1 0 (by omega) (by omega), h3 0 (by omega) (by omega)]; exact hN, by rw [h1 0 (by omega) (by omega), h3 9 (by omega) (by omega)]; exact hS, by rw [h1 9 (by omega) (by omega), h3 14 (by omega) (by omega)]; exact hK, by rw [h1 0 (by omega) (by omega), h3 23 (by omega) (by omega)]; exact hP, by rw [h1 2 (by omega) (by omega), h2 1 (by omega) (by omega)]; exact hnet, by rw [h1 8 (by omega) (by omega), h2 3 (by omega) (by omega), h2 4 (by omega) (by omega)]; exact hsky, by rw [h1 0 (by omega) (by omega), h3 10 (by omega) (by omega)]; exact hfs, by rw [h1 23 (by omega) (by omega), h2 2 (by omega) (by omega), h2 14 (by omega) (by omega)]; exact hlq, by rw [h1 19 (by omega) (by omega), h3 11 (by omega) (by omega)]; exact hlo, by rw [h1 19 (by omega) (by omega), h3 12 (by omega) (by omega)]; exact haw, Rfl_fr hfl (fun k _ _ => h1 k (by omega) (by omega)) (h1 27 (by omega) (by omega)) ⟨h2 9 (by omega) (by omega), h2 10 (by omega) (by omega), h2 11 (by omega) (by omega), h2 12 (by omega) (by omega), h2 13 (by omega) (by omega), h2 14 (by omega) (by omega), h2 16 (by omega) (by omega), h2 1 (by omega) (by omega)⟩, by rw [h3 13 (by omega) (by omega), h2 14 (by omega) (by omega)]; exact hskd, by rw [h1 0 (by omega) (by omega), h2 15 (by omega) (by omega)]; exact hhr, by rw [h1 14 (by omega) (by omega), h2 20 (by omega) (by omega)]; exact hpt, by rw [h1 3 (by omega) (by omega), h1 4 (by omega) (by omega), h1 5 (by omega) (by omega), h1 6 (by omega) (by omega), h2 5 (by omega) (by omega), h2 6 (by omega) (by omega), h2 7 (by omega) (by omega), h2 8 (by omega) (by omega)]; exact hbm, Rshs_fr hsh (fun k _ _ => h1 k (by omega) (by omega)) ⟨h2 17 (by omega) (by omega), h2 18 (by omega) (by omega), h2 19 (by omega) (by omega), h2 1 (by omega) (by omega), h2 3 (by omega) (by omega)⟩⟩
theorem in_pm1 (a : Int32) (P : Nat) (hP : P ≤ 8) : f_X9_in a 0 (nI P - 1) = some 0 ∨ ∃ v, v < P ∧ a = nI v ∧ f_X9_in a 0 (nI P - 1) = some 1 := by
  by_cases h0 : P = 0
  · subst h0
    refine Or.inl ?_
    unfold f_X9_in
    by_cases h1 : a < 0
    · rw [if_pos h1]
    · rw [if_neg h1, if_pos]
      rw [Int32.lt_iff_toInt_lt]
      have e1 : (nI 0 - 1).toInt = -1 := by decide
      obtain ⟨j, hj, rfl⟩ := nI_of h1
      rw [e1, nI_toInt hj]; omega
  · rw [show nI P - 1 = nI (P - 1) from by rw [show (1 : Int32) = nI 1 from rfl, pk_sub (by omega)]]
    rcases in_cases a 0 (P - 1) (by omega) (by decide) with e | ⟨v, -, hv, ea, e⟩
    · exact Or.inl e
    · exact Or.inr ⟨v, by omega, ea, e⟩
theorem md_26 {τ : ojS} {a2 : Int32} {i a : Nat} (hi : i < 8) (ha : a < 96) (e : τ 18 i = nI a) : ∃ τ', f_X9_could_26 (nI i) a2 0 τ = f_X9_could_59 (nI i) a2 τ' ∧ (∀ k, k ≠ 23 → τ' k = τ k) ∧ bitF (fun x => x = a) (τ' 23) := by
  unfold f_X9_could_26
  refine ojFix_inv (bot := fun _ _ => none) (fun (r : Int32 → ojS → Option (Int32 × ojS)) (q : Int32 × ojS) => r q.1 q.2) _ (fun t q => q.1 = nI t ∧ (∀ k, k ≠ 23 → q.2 k = τ k) ∧ ∀ x, x < t → (x = a → q.2 23 x = 1) ∧ (¬ x = a → q.2 23 x = 0)) (fun z => ∃ τ', z = f_X9_could_59 (nI i) a2 τ' ∧ (∀ k, k ≠ 23 → τ' k = τ k) ∧ bitF (fun x => x = a) (τ' 23)) 96 ?_ ?_ 600 0 (0, τ) (by decide) (by decide) ⟨rfl, fun _ _ => rfl, fun x hx => by omega⟩
  · rintro r t ⟨j, s⟩ ht ⟨h1, h2, h3⟩
    dsimp only at h1 h2 h3 ⊢
    subst h1
    have s18 : s 18 = τ 18 := h2 18 (by omega)
    simp only [if_neg (ge_96 ht), ojChk_nI hi (by decide), nI_clamp (show i < 2 ^ 31 by omega), s18, e, ojChk_nI ht (by decide), nI_clamp (show t < 2 ^ 31 by omega), ojLet_s, nar_1, nar_0]
    by_cases q : t = a
    · rw [if_pos (by rw [q])]
      refine Or.inl ⟨(nI t + 1, ojU s 23 t 1), ⟨nI_1 t, fun k hk => by dsimp only; rw [ojU_ne hk, h2 k hk], fun x hx => ?_⟩, rfl⟩
      dsimp only
      rw [ojU_eq]
      by_cases e2 : x = t
      · rw [e2, upd_eq]; exact ⟨fun _ => rfl, fun z => absurd q z⟩
      · rw [upd_ne e2]; exact h3 x (by omega)
    · rw [if_neg (fun z => q (nI_inj (by omega) (by omega) z))]
      refine Or.inl ⟨(nI t + 1, ojU s 23 t 0), ⟨nI_1 t, fun k hk => by dsimp only; rw [ojU_ne hk, h2 k hk], fun x hx => ?_⟩, rfl⟩
      dsimp only
      rw [ojU_eq]
      by_cases e2 : x = t
      · rw [e2, upd_eq]; exact ⟨fun z => absurd z q, fun _ => rfl⟩
      · rw [upd_ne e2]; exact h3 x (by omega)
  · rintro r ⟨j, s⟩ ⟨h1, h2, h3⟩
    dsimp only at h1 h2 h3 ⊢
    subst h1
    rw [if_pos (show (96 : Int32) ≤ nI 96 by decide)]
    exact ⟨s, rfl, h2, h3⟩
theorem md_66 {τ : ojS} {N h a c : Nat} (hN : N ≤ 500) (ht : τ 0 0 = nI N) (hh : h ≤ N) (hc : c < 96) (hr : ∀ c, c < 96 → ∃ v, v ≤ 9 ∧ τ 1 c = nI v) (hw : ∀ j, j < 1503 → ∃ x, x ≤ 4 ∧ τ 3 j = nI x) (hA : bitF (fun x => x = a) (τ 23)) :
    ∃ τ', (∀ k, k ≠ 23 → k ≠ 24 → τ' k = τ k) ∧ ((rch (τ 1) (τ 3) a h (N - h) c ∧ f_X9_could_66 (nI c) (nI h) τ = some (1, τ')) ∨ (¬ rch (τ 1) (τ 3) a h (N - h) c ∧ f_X9_could_66 (nI c) (nI h) τ = some (0, τ'))) := by
  unfold f_X9_could_66
  refine ojFix_inv (bot := fun _ _ => none) (fun (r : Int32 → ojS → Option (Int32 × ojS)) (q : Int32 × ojS) => r q.1 q.2) _ (fun t q => q.1 = nI (h + t) ∧ (∀ k, k ≠ 23 → k ≠ 24 → q.2 k = τ k) ∧ bitF (rch (τ 1) (τ 3) a h t) (q.2 23)) (fun z => ∃ τ', (∀ k, k ≠ 23 → k ≠ 24 → τ' k = τ k) ∧ ((rch (τ 1) (τ 3) a h (N - h) c ∧ z = some (1, τ')) ∨ (¬ rch (τ 1) (τ 3) a h (N - h) c ∧ z = some (0, τ')))) (N - h) ?_ ?_ 600 0 (nI h, τ) (by omega) (by omega) ⟨rfl, fun _ _ _ => rfl, hA⟩
  · rintro r t ⟨j, s⟩ htl ⟨h1, h2, h3⟩
    dsimp only at h1 h2 h3 ⊢
    subst h1
    have e0 : s 0 0 = nI N := by rw [h2 0 (by omega) (by omega), ht]
    rw [if_neg (show ¬ s 0 0 ≤ nI (h + t) by rw [e0]; exact nI_ge (by omega) (by omega))]
    obtain ⟨w, hw4, ew⟩ := hw (h + t) (by omega)
    obtain ⟨τ1, a1, a2, a3⟩ := md_copy (rec := r) (a2 := nI c) (a3 := nI (h + t)) h3
    rw [a1]
    obtain ⟨τ2, b1, b2, b3⟩ := md_spread (τ := τ1) (rec := r) (a2 := nI c) (h := h + t) (w := w) (A := rch (τ 1) (τ 3) a h t) (by omega) (by rw [a2 1 (by omega), h2 1 (by omega) (by omega)]; exact hr) hw4 (by rw [a2 3 (by omega), h2 3 (by omega) (by omega)]; exact ew) (by rw [a2 23 (by omega)]; exact h3) a3
    rw [b1]
    obtain ⟨τ3, c1, c2, c3⟩ := md_copy2 (τ := τ2) (rec := r) (a2 := nI c) (a3 := nI (h + t)) b3
    rw [c1]
    refine Or.inl ⟨(nI (h + t) + 1, τ3), ⟨nI_1 _, fun k q1 q2 => by dsimp only; rw [c2 k q1, b2 k q2, a2 k q2, h2 k q1 q2], ?_⟩, rfl⟩
    dsimp only
    refine bitF_iff c3 (fun x hx => ?_)
    rw [show τ1 1 = τ 1 by rw [a2 1 (by omega), h2 1 (by omega) (by omega)]]
    show spB (τ 1) w (rch (τ 1) (τ 3) a h t) x ↔ rch (τ 1) (τ 3) a h (t + 1) x
    unfold spB
    simp only [rch]
    rw [ew, nI_clamp (by omega)]
  · rintro r ⟨j, s⟩ ⟨h1, h2, h3⟩
    dsimp only at h1 h2 h3 ⊢
    subst h1
    have e0 : s 0 0 = nI N := by rw [h2 0 (by omega) (by omega), ht]
    rw [if_pos (show s 0 0 ≤ nI (h + (N - h)) by rw [e0]; exact nI_le (by omega) (by omega)), ojChk_nI hc (by decide), nI_clamp (by omega)]
    rcases bitF_01 h3 hc with ⟨q1, q2⟩ | ⟨q1, q2⟩
    · rw [q2]
      exact ⟨s, h2, Or.inl ⟨q1, rfl⟩⟩
    · rw [q2]
      exact ⟨s, h2, Or.inr ⟨q1, rfl⟩⟩
theorem md_could {N S K P : Nat} {σ τ : ojS} (hR : RR N S K P σ τ) {i c : Nat} (hi : i < P) (hc : c < 96) (hsea : τ 1 c = 0) :
    ∃ τ', (∀ k, k ≠ 23 → k ≠ 24 → τ' k = τ k) ∧ ((σ (39 + i) c = 1 ∧ f_X9_could (nI i) (nI c) τ = some (1, τ')) ∨ (σ (39 + i) c = 0 ∧ f_X9_could (nI i) (nI c) τ = some (0, τ'))) := by
  obtain ⟨hN, hS, hK, hP, hnet, hsky, hfs, hlq, hlo, haw, hfl, hskd, hhr, hpt, hbm, hsh⟩ := hR
  have hP8 := hP.1
  obtain ⟨g1, -⟩ := hsh i (by omega)
  obtain ⟨-, -, m, hh, aa, -, -, f3, f4, f5, f6, f7, f8⟩ := g1 hi
  unfold f_X9_could
  have e1 : f_X9_in (nI i) 0 (τ 0 23 - 1) = some 1 := by
    rw [hP.2.2]
    rcases in_pm1 (nI i) P hP8 with e | ⟨v, -, -, e⟩
    · exfalso
      unfold f_X9_in at e
      rw [if_neg (nI_pos (by omega)), show nI P - 1 = nI (P - 1) from by rw [show (1 : Int32) = nI 1 from rfl, pk_sub (by omega)], if_neg (nI_nlt (by omega) (by omega))] at e
      exact absurd e (by decide)
    · exact e
  have e2 : f_X9_isSea (nI c) τ = some 1 := by
    rcases isSea_at hnet hc with ⟨-, -, q⟩ | ⟨q, -⟩
    · exact q
    · exact absurd hsea q
  rw [e1, e2]
  simp only [ojB1_s, if10, ifF]
  obtain ⟨τ1, a1, a2, a3⟩ := md_26 (τ := τ) (a2 := nI c) (i := i) (a := aa) (by omega) f5 f6
  rw [a1]
  unfold f_X9_could_59
  rw [ojChk_nI (show i < 8 by omega) (by decide), nI_clamp (by omega), a2 19 (by omega), f4]
  simp only [ojLet_s]
  have hr : ∀ c, c < 96 → ∃ v, v ≤ 9 ∧ τ 1 c = nI v := fun c hc => by obtain ⟨v, hv, -, e2⟩ := hnet c hc; exact ⟨v, hv, e2⟩
  obtain ⟨τ', b1, b2⟩ := md_66 (τ := τ1) (N := N) (h := hh) (a := aa) (c := c) hN.1 (by rw [a2 0 (by omega)]; exact hN.2.2) f3 hc (by rw [a2 1 (by omega)]; exact hr) (by rw [a2 3 (by omega)]; exact fun j hj => by obtain ⟨x, y, q1, -, -, q2, -⟩ := hsky j hj; exact ⟨x, q1, q2⟩) a3
  rw [a2 1 (by omega), a2 3 (by omega)] at b2
  refine ⟨τ', fun k q1 q2 => by rw [b1 k q1 q2, a2 k q1], ?_⟩
  rcases b2 with ⟨q1, q2⟩ | ⟨q1, q2⟩
  · exact Or.inl ⟨(f8 c hc).1 q1, q2⟩
  · exact Or.inr ⟨(f8 c hc).2 q1, q2⟩
theorem st_could {σ τ : ojS} (h : RRR σ τ) (a b : Int32) : ∃ (r : Int32) (τ' : ojS), f_X8_could a b σ = some r ∧ f_X9_could a b τ = some (r, τ') ∧ RRR σ τ' := by
  obtain ⟨N, S, K, P, hR⟩ := id h
  obtain ⟨hN, hS, hK, hP, hnet, hsky, hfs, hlq, hlo, haw, hfl, hskd, hhr, hpt, hbm, hsh⟩ := id hR
  have hP8 := hP.1
  unfold f_X8_could
  rw [isWithin_eq, hP.2.1]
  rcases in_pm1 a P hP8 with e | ⟨i, hi, rfl, e⟩
  · rw [e]
    refine ⟨0, τ, rfl, ?_, h⟩
    unfold f_X9_could
    rw [hP.2.2, e]; rfl
  rw [e]
  simp only [ojB1_s, if10, ifF]
  rcases sea_cases hnet b with ⟨e1, e2⟩ | ⟨c, hc, rfl, -, hsea, e1, e2⟩
  · rw [e1]
    refine ⟨0, τ, rfl, ?_, h⟩
    unfold f_X9_could
    rw [hP.2.2, e, e2]; rfl
  rw [e1]
  simp only [ojB1_s, if10, ifF]
  rw [ojChk_nI (show i < 8 by omega) (by decide), ojChk_nI hc (by decide), nI_clamp (by omega), nI_clamp (by omega)]
  obtain ⟨τ', b1, b2⟩ := md_could hR hi hc hsea
  have hR' : RRR σ τ' := ⟨N, S, K, P, RR_fr hR (fun _ _ _ => rfl) (fun k q1 q2 => b1 k (by omega) (by omega)) (fun j _ _ => by rw [b1 0 (by omega) (by omega)])⟩
  rcases b2 with ⟨q1, q2⟩ | ⟨q1, q2⟩
  · rw [q1, q2]; exact ⟨1, τ', rfl, rfl, hR'⟩
  · rw [q1, q2]; exact ⟨0, τ', rfl, rfl, hR'⟩
