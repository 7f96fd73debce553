def bitF (A : Nat → Prop) (f : Nat → Int32) : Prop := ∀ c, c < 96 → (A c → f c = 1) ∧ (¬ A c → f c = 0)
theorem bitF_01 {A : Nat → Prop} {f : Nat → Int32} (h : bitF A f) {c : Nat} (hc : c < 96) : (A c ∧ f c = 1) ∨ (¬ A c ∧ f c = 0) := by
  by_cases hA : A c
  · exact Or.inl ⟨hA, (h c hc).1 hA⟩
  · exact Or.inr ⟨hA, (h c hc).2 hA⟩
theorem bitF_iff {A B : Nat → Prop} {f : Nat → Int32} (h : bitF A f) (e : ∀ c, c < 96 → (A c ↔ B c)) : bitF B f := fun c hc => ⟨fun q => (h c hc).1 ((e c hc).mpr q), fun q => (h c hc).2 (fun z => q ((e c hc).mp z))⟩
theorem bitF_upd {A : Nat → Prop} {f : Nat → Int32} (h : bitF A f) (d : Nat) : bitF (fun x => A x ∨ x = d) (upd f d 1) := fun c hc => by
  by_cases e : c = d
  · subst e
    exact ⟨fun _ => upd_eq, fun q => absurd (Or.inr rfl) q⟩
  · rw [upd_ne e]
    exact ⟨fun q => (h c hc).1 (q.elim (fun z => z) (fun z => absurd z e)), fun q => (h c hc).2 (fun z => q (Or.inl z))⟩
def spB (rk : Nat → Int32) (w : Nat) (A : Nat → Prop) (c : Nat) : Prop := A c ∨ (rk c = 0 ∧ ∃ b, b < 96 ∧ A b ∧ ah b w = c)
theorem spB_0 {rk : Nat → Int32} {A : Nat → Prop} {c : Nat} (hc : c < 96) : spB rk 0 A c ↔ A c := by
  constructor
  · rintro (q | ⟨-, b, hb, -, e⟩)
    · exact q
    · have : ah b 0 = 96 := rfl
      omega
  · exact Or.inl
theorem isSea_at' {σ : ojS} {rk : Nat → Int32} (hr : ∀ c, c < 96 → σ 2 c = rk c) {c w : Nat} (hc : c < 96) (hw : w < 5) : f_X2_isSea (aI c w) σ = some (if ah c w < 96 then (if rk (ah c w) = 0 then 1 else 0) else 0) := by
  unfold aI
  by_cases h : ah c w < 96
  · rw [if_pos h, if_pos h, isSea_rk hr h]
  · rw [if_neg h, if_neg h]; rfl
theorem ow_spread {σ τ : ojS} (hnet : Rnet (σ 2) (τ 1)) (hsky : Rsky (σ 8) (τ 3) (τ 4)) {n h : Nat} (hh : h ≤ 1000) {A : Nat → Prop} (hA : bitF A (σ (39 + n))) :
    ∃ σ', f_X8_spreadPossible n (nI h) σ = some σ' ∧ (∀ k, k ≠ 39 + n → σ' k = σ k) ∧ bitF (spB (τ 1) (wyN τ 0 h) A) (σ' (39 + n)) := by
  have hr : ∀ c, c < 96 → σ 2 c = τ 1 c := fun c hc => by obtain ⟨v, -, e1, e2⟩ := hnet c hc; rw [e1, e2]
  obtain ⟨w4, -, ew, -⟩ := sky_eq hsky (wd := 0) (h := h) (by decide) hh
  unfold f_X8_spreadPossible
  rw [show f_X6_wayAt 0 (nI h) σ = some (nI (wyN τ 0 h)) from ew]
  simp only [ojB1_s]
  generalize wyN τ 0 h = w at w4
  unfold f_X8_spreadPossible_13
  by_cases h0 : w = 0
  · subst h0
    refine ojFix_inv (bot := fun _ _ => none) (fun (r : Int32 → ojS → Option ojS) (a : Int32 × ojS) => r a.1 a.2) _ (fun _ a => a = (0, σ)) (fun z => ∃ σ', z = some σ' ∧ (∀ k, k ≠ 39 + n → σ' k = σ k) ∧ bitF (spB (τ 1) 0 A) (σ' (39 + n))) 0 (fun r k a hk => absurd hk (Nat.not_lt_zero _)) ?_ 600 0 (0, σ) (Nat.le_refl _) (by decide) rfl
    rintro r a rfl
    dsimp only
    rw [if_neg (show ¬ (96 : Int32) ≤ 0 by decide), if_pos (show nI 0 = 0 from rfl)]
    exact ⟨σ, rfl, fun _ _ => rfl, bitF_iff hA (fun c hc => (spB_0 hc).symm)⟩
  · refine ojFix_inv (bot := fun _ _ => none) (fun (r : Int32 → ojS → Option ojS) (a : Int32 × ojS) => r a.1 a.2) _ (fun t a => a.1 = nI t ∧ (∀ k, k ≠ 39 + n → a.2 k = σ k) ∧ bitF (fun x => A x ∨ (τ 1 x = 0 ∧ ∃ u, u < t ∧ A (pw w u) ∧ ah (pw w u) w = x)) (a.2 (39 + n))) (fun z => ∃ σ', z = some σ' ∧ (∀ k, k ≠ 39 + n → σ' k = σ k) ∧ bitF (spB (τ 1) w A) (σ' (39 + n))) 96 ?_ ?_ 600 0 (0, σ) (by decide) (by decide) ⟨rfl, fun _ _ => rfl, bitF_iff hA (fun c hc => ⟨Or.inl, fun q => q.elim (fun z => z) (fun ⟨_, u, hu, _⟩ => absurd hu (Nat.not_lt_zero _))⟩)⟩
    · rintro r t ⟨i, s⟩ ht ⟨h1, h2, h3⟩
      dsimp only at h1 h2 h3 ⊢
      subst h1
      have hc := pw_lt w t ht
      rw [if_neg (ge_96 ht), if_neg (nI_ne0 (by omega) (by omega)), turn_eq t ht w (by omega)]
      simp only [ojB1_s]
      rw [ahead_eq _ hc w (by omega)]
      simp only [ojB1_s]
      rw [ojChk_nI hc (by decide), nI_clamp (by omega), isSea_at' (rk := τ 1) (fun c hc => by rw [h2 2 (by omega)]; exact hr c hc) hc (by omega)]
      have cur : (A (pw w t) ∧ s (39 + n) (pw w t) = 1) ∨ (¬ A (pw w t) ∧ s (39 + n) (pw w t) = 0) := by
        rcases bitF_01 h3 hc with ⟨q1, q2⟩ | ⟨q1, q2⟩
        · rcases q1 with q1 | ⟨-, u, hu, -, e⟩
          · exact Or.inl ⟨q1, q2⟩
          · exact absurd e (ah_turn w (by omega) t ht u (by omega) (by omega))
        · exact Or.inr ⟨fun z => q1 (Or.inl z), q2⟩
      have same : ¬ (A (pw w t) ∧ ah (pw w t) w < 96 ∧ τ 1 (ah (pw w t) w) = 0) → ∃ a' : Int32 × ojS, (a'.1 = nI (t + 1) ∧ (∀ k, k ≠ 39 + n → a'.2 k = σ k) ∧ bitF (fun x => A x ∨ (τ 1 x = 0 ∧ ∃ u, u < t + 1 ∧ A (pw w u) ∧ ah (pw w u) w = x)) (a'.2 (39 + n))) ∧ r (nI t + 1) s = r a'.1 a'.2 := fun hno => ⟨(nI t + 1, s), ⟨nI_1 t, h2, bitF_iff h3 (fun x hx => by
        constructor
        · rintro (q | ⟨q1, u, q2, q3, q4⟩)
          · exact Or.inl q
          · exact Or.inr ⟨q1, u, by omega, q3, q4⟩
        · rintro (q | ⟨q1, u, q2, q3, q4⟩)
          · exact Or.inl q
          · by_cases e : u = t
            · subst e
              exact absurd ⟨q3, by rw [q4]; exact hx, by rw [q4]; exact q1⟩ hno
            · exact Or.inr ⟨q1, u, by omega, q3, q4⟩)⟩, rfl⟩
      rcases cur with ⟨c1, c2⟩ | ⟨c1, c2⟩
      · rw [if_neg (by rw [c2]; decide)]
        by_cases hin : ah (pw w t) w < 96
        · by_cases hs : τ 1 (ah (pw w t) w) = 0
          · rw [if_pos hin, if_pos hs, aI, if_pos hin]
            simp only [ojB1_s, if10, ifF]
            rw [ojChk_nI hin (by decide), nI_clamp (by omega)]
            simp only [ojLet_s, nar_1]
            refine Or.inl ⟨(nI t + 1, ojU s (39 + n) (ah (pw w t) w) 1), ⟨nI_1 t, fun k hk => ?_, ?_⟩, rfl⟩
            · dsimp only
              rw [ojU_ne hk, h2 k hk]
            · dsimp only
              rw [ojU_eq]
              refine bitF_iff (bitF_upd h3 (ah (pw w t) w)) (fun x hx => ?_)
              constructor
              · rintro ((q | ⟨q1, u, q2, q3, q4⟩) | q)
                · exact Or.inl q
                · exact Or.inr ⟨q1, u, by omega, q3, q4⟩
                · exact Or.inr ⟨by rw [q]; exact hs, t, by omega, c1, q.symm⟩
              · rintro (q | ⟨q1, u, q2, q3, q4⟩)
                · exact Or.inl (Or.inl q)
                · by_cases e : u = t
                  · subst e; exact Or.inr q4.symm
                  · exact Or.inl (Or.inr ⟨q1, u, by omega, q3, q4⟩)
          · rw [if_pos hin, if_neg hs]
            simp only [ojB1_s, if00, ifT, ojLet_s]
            exact Or.inl (same (fun q => hs q.2.2))
        · rw [if_neg hin]
          simp only [ojB1_s, if00, ifT, ojLet_s]
          exact Or.inl (same (fun q => hin q.2.1))
      · rw [if_pos c2]
        simp only [ojLet_s]
        exact Or.inl (same (fun q => c1 q.1))
    · rintro r ⟨i, s⟩ ⟨h1, h2, h3⟩
      dsimp only at h1 h2 h3 ⊢
      subst h1
      rw [if_pos (show (96 : Int32) ≤ nI 96 by decide)]
      refine ⟨s, rfl, h2, bitF_iff h3 (fun x hx => ?_)⟩
      constructor
      · rintro (q | ⟨q1, u, q2, q3, q4⟩)
        · exact Or.inl q
        · exact Or.inr ⟨q1, pw w u, pw_lt w u q2, q3, q4⟩
      · rintro (q | ⟨q1, b, q2, q3, q4⟩)
        · exact Or.inl q
        · exact Or.inr ⟨q1, pw w b, pw_lt w b q2, by rw [pw_pw w q2]; exact q3, by rw [pw_pw w q2]; exact q4⟩
theorem nar_bit {A : Nat → Prop} {f : Nat → Int32} (h : bitF A f) {c : Nat} (hc : c < 96) : vp_nar .boolean (f c) = f c := by
  rcases bitF_01 h hc with ⟨-, e⟩ | ⟨-, e⟩
  · rw [e]; exact nar_1
  · rw [e]; exact nar_0
theorem md_copy {τ : ojS} {rec : Int32 → ojS → Option (Int32 × ojS)} {a2 a3 : Int32} {A : Nat → Prop} (hA : bitF A (τ 23)) : ∃ τ', f_X9_could_77 rec a2 a3 0 τ = f_X9_could_104 rec a2 a3 τ' ∧ (∀ k, k ≠ 24 → τ' k = τ k) ∧ bitF A (τ' 24) := by
  unfold f_X9_could_77
  refine ojFix_inv (bot := fun _ _ => none) (fun (r : Int32 → ojS → Option (Int32 × ojS)) (a : Int32 × ojS) => r a.1 a.2) _ (fun t a => a.1 = nI t ∧ (∀ k, k ≠ 24 → a.2 k = τ k) ∧ ∀ x, x < t → a.2 24 x = τ 23 x) (fun z => ∃ τ', z = f_X9_could_104 rec a2 a3 τ' ∧ (∀ k, k ≠ 24 → τ' k = τ k) ∧ bitF A (τ' 24)) 96 ?_ ?_ 600 0 (0, τ) (by decide) (by decide) ⟨rfl, fun _ _ => rfl, fun x hx => by omega⟩
  · rintro r t ⟨i, s⟩ ht ⟨h1, h2, h3⟩
    dsimp only at h1 h2 h3 ⊢
    subst h1
    have s23 : s 23 = τ 23 := h2 23 (by omega)
    simp only [if_neg (ge_96 ht), ojChk_nI ht (by decide), nI_clamp (show t < 2 ^ 31 by omega), ojLet_s, s23, nar_bit hA ht]
    refine Or.inl ⟨(nI t + 1, ojU s 24 t (τ 23 t)), ⟨nI_1 t, fun k hk => ?_, fun x hx => ?_⟩, rfl⟩
    · dsimp only
      rw [ojU_ne hk, h2 k hk]
    · dsimp only
      rw [ojU_eq]
      by_cases e : x = t
      · rw [e, upd_eq]
      · rw [upd_ne e, h3 x (by omega)]
  · rintro r ⟨i, s⟩ ⟨h1, h2, h3⟩
    dsimp only at h1 h2 h3 ⊢
    subst h1
    rw [if_pos (show (96 : Int32) ≤ nI 96 by decide)]
    exact ⟨s, rfl, h2, fun c hc => by rw [h3 c hc]; exact hA c hc⟩
theorem md_copy2 {τ : ojS} {rec : Int32 → ojS → Option (Int32 × ojS)} {a2 a3 : Int32} {A : Nat → Prop} (hA : bitF A (τ 24)) : ∃ τ', f_X9_could_174 rec a2 a3 τ = rec (a3 + 1) τ' ∧ (∀ k, k ≠ 23 → τ' k = τ k) ∧ bitF A (τ' 23) := by
  unfold f_X9_could_174 f_X9_could_177
  refine ojFix_inv (bot := fun _ _ => none) (fun (r : Int32 → ojS → Option (Int32 × ojS)) (a : Int32 × ojS) => r a.1 a.2) _ (fun t a => a.1 = nI t ∧ (∀ k, k ≠ 23 → a.2 k = τ k) ∧ ∀ x, x < t → a.2 23 x = τ 24 x) (fun z => ∃ τ', z = rec (a3 + 1) τ' ∧ (∀ k, k ≠ 23 → τ' k = τ k) ∧ bitF A (τ' 23)) 96 ?_ ?_ 600 0 (0, τ) (by decide) (by decide) ⟨rfl, fun _ _ => rfl, fun x hx => by omega⟩
  · rintro r t ⟨i, s⟩ ht ⟨h1, h2, h3⟩
    dsimp only at h1 h2 h3 ⊢
    subst h1
    have s24 : s 24 = τ 24 := h2 24 (by omega)
    simp only [if_neg (ge_96 ht), ojChk_nI ht (by decide), nI_clamp (show t < 2 ^ 31 by omega), ojLet_s, s24, nar_bit hA ht]
    refine Or.inl ⟨(nI t + 1, ojU s 23 t (τ 24 t)), ⟨nI_1 t, fun k hk => ?_, fun x hx => ?_⟩, rfl⟩
    · dsimp only
      rw [ojU_ne hk, h2 k hk]
    · dsimp only
      rw [ojU_eq]
      by_cases e : x = t
      · rw [e, upd_eq]
      · rw [upd_ne e, h3 x (by omega)]
  · rintro r ⟨i, s⟩ ⟨h1, h2, h3⟩
    dsimp only at h1 h2 h3 ⊢
    subst h1
    rw [if_pos (show (96 : Int32) ≤ nI 96 by decide)]
    exact ⟨s, rfl, h2, fun c hc => by rw [h3 c hc]; exact hA c hc⟩
theorem isSea_m {τ : ojS} (hr : ∀ c, c < 96 → ∃ v, v ≤ 9 ∧ τ 1 c = nI v) {c w : Nat} (hc : c < 96) (hw : w < 5) : f_X9_isSea (aI c w) τ = some (if ah c w < 96 then (if τ 1 (ah c w) = 0 then 1 else 0) else 0) := by
  unfold aI
  by_cases h : ah c w < 96
  · rw [if_pos h, if_pos h]
    have : Rnet ((fun _ => τ 1) 2) (τ 1) := fun c hc => by obtain ⟨v, q1, q2⟩ := hr c hc; exact ⟨v, q1, q2, q2⟩
    rcases isSea_at (σ := fun _ => τ 1) this h with ⟨q1, -, q2⟩ | ⟨q1, -, q2⟩
    · rw [q2, if_pos q1]
    · rw [q2, if_neg q1]
  · rw [if_neg h, if_neg h]; rfl
theorem md_spread {τ : ojS} {rec : Int32 → ojS → Option (Int32 × ojS)} {a2 : Int32} {h w : Nat} {A : Nat → Prop} (hh : h ≤ 500) (hr : ∀ c, c < 96 → ∃ v, v ≤ 9 ∧ τ 1 c = nI v) (hw : w ≤ 4) (ew : τ 3 h = nI w) (hA : bitF A (τ 23)) (hA2 : bitF A (τ 24)) :
    ∃ τ', f_X9_could_104 rec a2 (nI h) τ = f_X9_could_174 rec a2 (nI h) τ' ∧ (∀ k, k ≠ 24 → τ' k = τ k) ∧ bitF (spB (τ 1) w A) (τ' 24) := by
  unfold f_X9_could_104 f_X9_could_107
  by_cases h0 : w = 0
  · subst h0
    refine ojFix_inv (bot := fun _ _ => none) (fun (r : Int32 → ojS → Option (Int32 × ojS)) (a : Int32 × ojS) => r a.1 a.2) _ (fun _ a => a = (0, τ)) (fun z => ∃ τ', z = f_X9_could_174 rec a2 (nI h) τ' ∧ (∀ k, k ≠ 24 → τ' k = τ k) ∧ bitF (spB (τ 1) 0 A) (τ' 24)) 0 (fun r k a hk => absurd hk (Nat.not_lt_zero _)) ?_ 600 0 (0, τ) (Nat.le_refl _) (by decide) rfl
    rintro r a rfl
    dsimp only
    rw [if_neg (show ¬ (96 : Int32) ≤ 0 by decide), ojChk_nI (show h < 1503 by omega) (by decide), nI_clamp (by omega), if_pos (show τ 3 h ≤ 0 by rw [ew]; decide)]
    exact ⟨τ, rfl, fun _ _ => rfl, bitF_iff hA2 (fun c hc => (spB_0 hc).symm)⟩
  · refine ojFix_inv (bot := fun _ _ => none) (fun (r : Int32 → ojS → Option (Int32 × ojS)) (a : Int32 × ojS) => r a.1 a.2) _ (fun t a => a.1 = nI t ∧ (∀ k, k ≠ 24 → a.2 k = τ k) ∧ bitF (fun x => A x ∨ (τ 1 x = 0 ∧ ∃ u, u < t ∧ A u ∧ ah u w = x)) (a.2 24)) (fun z => ∃ τ', z = f_X9_could_174 rec a2 (nI h) τ' ∧ (∀ k, k ≠ 24 → τ' k = τ k) ∧ bitF (spB (τ 1) w A) (τ' 24)) 96 ?_ ?_ 600 0 (0, τ) (by decide) (by decide) ⟨rfl, fun _ _ => rfl, bitF_iff hA2 (fun c hc => ⟨Or.inl, fun q => q.elim (fun z => z) (fun ⟨_, u, hu, _⟩ => absurd hu (Nat.not_lt_zero _))⟩)⟩
    · rintro r t ⟨i, s⟩ ht ⟨h1, h2, h3⟩
      dsimp only at h1 h2 h3 ⊢
      subst h1
      have s23 : s 23 = τ 23 := h2 23 (by omega)
      have s3 : s 3 = τ 3 := h2 3 (by omega)
      have s1 : s 1 = τ 1 := h2 1 (by omega)
      simp only [if_neg (ge_96 ht), ojChk_nI (show h < 1503 by omega) (by decide), nI_clamp (show h < 2 ^ 31 by omega), s3, ew, ojChk_nI ht (by decide), nI_clamp (show t < 2 ^ 31 by omega), s23, step_eq t ht w (by omega) h0, ojB1_s]
      rw [if_neg (show ¬ nI w ≤ 0 from nI_nle (by omega) (by omega)), isSea_m (τ := s) (by rw [s1]; exact hr) ht (by omega), s1]
      have same : ¬ (A t ∧ ah t w < 96 ∧ τ 1 (ah t w) = 0) → ∃ a' : Int32 × ojS, (a'.1 = nI (t + 1) ∧ (∀ k, k ≠ 24 → a'.2 k = τ k) ∧ bitF (fun x => A x ∨ (τ 1 x = 0 ∧ ∃ u, u < t + 1 ∧ A u ∧ ah u w = x)) (a'.2 24)) ∧ r (nI t + 1) s = r a'.1 a'.2 := fun hno => ⟨(nI t + 1, s), ⟨nI_1 t, h2, bitF_iff h3 (fun x hx => by
        constructor
        · rintro (q | ⟨q1, u, q2, q3, q4⟩)
          · exact Or.inl q
          · exact Or.inr ⟨q1, u, by omega, q3, q4⟩
        · rintro (q | ⟨q1, u, q2, q3, q4⟩)
          · exact Or.inl q
          · by_cases e : u = t
            · subst e
              exact absurd ⟨q3, by rw [q4]; exact hx, by rw [q4]; exact q1⟩ hno
            · exact Or.inr ⟨q1, u, by omega, q3, q4⟩)⟩, rfl⟩
      rcases bitF_01 hA ht with ⟨c1, c2⟩ | ⟨c1, c2⟩
      · rw [if_neg (by rw [c2]; decide)]
        by_cases hin : ah t w < 96
        · by_cases hs : τ 1 (ah t w) = 0
          · rw [if_pos hin, if_pos hs, aI, if_pos hin]
            simp only [ojB1_s, if10, ifF]
            rw [ojChk_nI hin (by decide), nI_clamp (by omega)]
            simp only [ojLet_s, nar_1]
            refine Or.inl ⟨(nI t + 1, ojU s 24 (ah t w) 1), ⟨nI_1 t, fun k hk => ?_, ?_⟩, rfl⟩
            · dsimp only
              rw [ojU_ne hk, h2 k hk]
            · dsimp only
              rw [ojU_eq]
              refine bitF_iff (bitF_upd h3 (ah t w)) (fun x hx => ?_)
              constructor
              · rintro ((q | ⟨q1, u, q2, q3, q4⟩) | q)
                · exact Or.inl q
                · exact Or.inr ⟨q1, u, by omega, q3, q4⟩
                · exact Or.inr ⟨by rw [q]; exact hs, t, by omega, c1, q.symm⟩
              · rintro (q | ⟨q1, u, q2, q3, q4⟩)
                · exact Or.inl (Or.inl q)
                · by_cases e : u = t
                  · subst e; exact Or.inr q4.symm
                  · exact Or.inl (Or.inr ⟨q1, u, by omega, q3, q4⟩)
          · rw [if_pos hin, if_neg hs]
            simp only [ojB1_s, if00, ifT, ojLet_s]
            exact Or.inl (same (fun q => hs q.2.2))
        · rw [if_neg hin]
          simp only [ojB1_s, if00, ifT, ojLet_s]
          exact Or.inl (same (fun q => hin q.2.1))
      · rw [if_pos c2]
        simp only [ojLet_s]
        exact Or.inl (same (fun q => c1 q.1))
    · rintro r ⟨i, s⟩ ⟨h1, h2, h3⟩
      dsimp only at h1 h2 h3 ⊢
      subst h1
      rw [if_pos (show (96 : Int32) ≤ nI 96 by decide)]
      exact ⟨s, rfl, h2, h3⟩
