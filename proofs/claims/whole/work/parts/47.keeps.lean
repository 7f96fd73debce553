/-! keeping and restoring in the reference -/
def Kp (d : Nat) (τ0 τ : ojS) : Prop := (∀ c, c < 96 → τ 22 (112 * d + c) = τ0 2 c) ∧ (∀ i, i < 4 → τ 22 (112 * d + 96 + 3 * i) = τ0 9 i ∧ τ 22 (112 * d + 96 + 3 * i + 1) = τ0 13 i ∧ τ 22 (112 * d + 96 + 3 * i + 2) = τ0 14 i) ∧ τ 22 (112 * d + 108) = τ0 0 0 ∧ τ 22 (112 * d + 109) = τ0 0 11 ∧ τ 22 (112 * d + 110) = τ0 0 12 ∧ τ 22 (112 * d + 111) = τ0 0 13
theorem Kp_fr {d : Nat} {τ0 τ τ' : ojS} (h : Kp d τ0 τ) (e : ∀ j, 112 * d ≤ j → j < 112 * d + 112 → τ' 22 j = τ 22 j) : Kp d τ0 τ' := by
  obtain ⟨h1, h2, h3, h4, h5, h6⟩ := h
  refine ⟨fun c hc => by rw [e _ (by omega) (by omega)]; exact h1 c hc, fun i hi => ?_, by rw [e _ (by omega) (by omega)]; exact h3, by rw [e _ (by omega) (by omega)]; exact h4, by rw [e _ (by omega) (by omega)]; exact h5, by rw [e _ (by omega) (by omega)]; exact h6⟩
  rw [e _ (by omega) (by omega), e _ (by omega) (by omega), e _ (by omega) (by omega)]
  exact h2 i hi
theorem keep_7 {τ : ojS} {b : Nat} (hb : b + 112 ≤ 448) : ∃ τ', f_X9_keeps_7 (nI b) 0 τ = f_X9_keeps_33 (nI b) τ' ∧ (∀ k, k ≠ 22 → τ' k = τ k) ∧ (∀ j, (j < b ∨ b + 96 ≤ j) → τ' 22 j = τ 22 j) ∧ ∀ c, c < 96 → τ' 22 (b + c) = τ 2 c := by
  unfold f_X9_keeps_7
  refine ojFix_inv (bot := fun _ _ => none) (fun (r : Int32 → ojS → Option ojS) (q : Int32 × ojS) => r q.1 q.2) _ (fun t q => q.1 = nI t ∧ (∀ k, k ≠ 22 → q.2 k = τ k) ∧ (∀ j, (j < b ∨ b + 96 ≤ j) → q.2 22 j = τ 22 j) ∧ ∀ c, c < t → q.2 22 (b + c) = τ 2 c) (fun z => ∃ τ', z = f_X9_keeps_33 (nI b) τ' ∧ (∀ k, k ≠ 22 → τ' k = τ k) ∧ (∀ j, (j < b ∨ b + 96 ≤ j) → τ' 22 j = τ 22 j) ∧ ∀ c, c < 96 → τ' 22 (b + c) = τ 2 c) 96 ?_ ?_ 600 0 (0, τ) (by decide) (by decide) ⟨rfl, fun _ _ => rfl, fun _ _ => rfl, fun c hc => by omega⟩
  · rintro r t ⟨v, s⟩ ht ⟨h1, h2, h3, h4⟩
    dsimp only at h1 h2 h3 h4 ⊢
    subst h1
    have s2 : s 2 = τ 2 := h2 2 (by omega)
    simp only [if_neg (ge_96 ht), ojChk_nI ht (by decide), nI_clamp (show t < 2 ^ 31 by omega), nI_add, ojChk_nI (show b + t < 448 by omega) (by decide), nI_clamp (show b + t < 2 ^ 31 by omega), ojLet_s, s2]
    refine Or.inl ⟨(nI t + 1, ojU s 22 (b + t) (τ 2 t)), ⟨nI_1 t, fun k hk => by dsimp only; rw [ojU_ne hk, h2 k hk], fun j hj => by dsimp only; rw [ojU_eq, upd_ne (by omega), h3 j hj], fun c hc => ?_⟩, rfl⟩
    dsimp only
    rw [ojU_eq]
    by_cases e : c = t
    · rw [e, upd_eq]
    · rw [upd_ne (by omega), h4 c (by omega)]
  · rintro r ⟨v, s⟩ ⟨h1, h2, h3, h4⟩
    dsimp only at h1 h2 h3 h4 ⊢
    subst h1
    rw [if_pos (show (96 : Int32) ≤ nI 96 by decide)]
    exact ⟨s, rfl, h2, h3, h4⟩
theorem keep_38 {τ : ojS} {b : Nat} (hb : b + 16 ≤ 448) : ∃ τ', f_X9_keeps_38 (nI b) 0 τ = f_X9_keeps_101 (nI b) τ' ∧ (∀ k, k ≠ 22 → τ' k = τ k) ∧ (∀ j, (j < b ∨ b + 12 ≤ j) → τ' 22 j = τ 22 j) ∧ ∀ i, i < 4 → τ' 22 (b + 3 * i) = τ 9 i ∧ τ' 22 (b + 3 * i + 1) = τ 13 i ∧ τ' 22 (b + 3 * i + 2) = τ 14 i := by
  unfold f_X9_keeps_38
  refine ojFix_inv (bot := fun _ _ => none) (fun (r : Int32 → ojS → Option ojS) (q : Int32 × ojS) => r q.1 q.2) _ (fun t q => q.1 = nI t ∧ (∀ k, k ≠ 22 → q.2 k = τ k) ∧ (∀ j, (j < b ∨ b + 12 ≤ j) → q.2 22 j = τ 22 j) ∧ ∀ i, i < t → q.2 22 (b + 3 * i) = τ 9 i ∧ q.2 22 (b + 3 * i + 1) = τ 13 i ∧ q.2 22 (b + 3 * i + 2) = τ 14 i) (fun z => ∃ τ', z = f_X9_keeps_101 (nI b) τ' ∧ (∀ k, k ≠ 22 → τ' k = τ k) ∧ (∀ j, (j < b ∨ b + 12 ≤ j) → τ' 22 j = τ 22 j) ∧ ∀ i, i < 4 → τ' 22 (b + 3 * i) = τ 9 i ∧ τ' 22 (b + 3 * i + 1) = τ 13 i ∧ τ' 22 (b + 3 * i + 2) = τ 14 i) 4 ?_ ?_ 600 0 (0, τ) (by decide) (by decide) ⟨rfl, fun _ _ => rfl, fun _ _ => rfl, fun c hc => by omega⟩
  · rintro r t ⟨v, s⟩ ht ⟨h1, h2, h3, h4⟩
    dsimp only at h1 h2 h3 h4 ⊢
    subst h1
    have e3 : nI b + 3 * nI t = nI (b + 3 * t) := by rw [show (3 : Int32) = nI 3 from rfl, pk_mul, nI_add]
    have e31 : nI (b + 3 * t) + 1 = nI (b + 3 * t + 1) := nI_1 _
    have e32 : nI (b + 3 * t) + 2 = nI (b + 3 * t + 2) := by rw [show (2 : Int32) = nI 2 from rfl, nI_add]
    rw [if_neg (ge_4 ht)]
    simp only [e31, e32, e3, ojChk_nI ht (by decide), nI_clamp (show t < 2 ^ 31 by omega), ojChk_nI (show b + 3 * t < 448 by omega) (by decide), nI_clamp (show b + 3 * t < 2 ^ 31 by omega), ojChk_nI (show b + 3 * t + 1 < 448 by omega) (by decide), nI_clamp (show b + 3 * t + 1 < 2 ^ 31 by omega), ojChk_nI (show b + 3 * t + 2 < 448 by omega) (by decide), nI_clamp (show b + 3 * t + 2 < 2 ^ 31 by omega), ojLet_s]
    rw [ojU_ne (show 13 ≠ 22 by decide), ojU_ne (show 14 ≠ 22 by decide), ojU_ne (show 14 ≠ 22 by decide), h2 9 (by decide), h2 13 (by decide), h2 14 (by decide)]
    refine Or.inl ⟨(nI t + 1, ojU (ojU (ojU s 22 (b + 3 * t) (τ 9 t)) 22 (b + 3 * t + 1) (τ 13 t)) 22 (b + 3 * t + 2) (τ 14 t)), ⟨nI_1 t, fun k hk => by dsimp only; rw [ojU_ne hk, ojU_ne hk, ojU_ne hk, h2 k hk], fun j hj => by dsimp only; rw [ojU_eq, upd_ne (by omega), ojU_eq, upd_ne (by omega), ojU_eq, upd_ne (by omega), h3 j hj], fun c hc => ?_⟩, rfl⟩
    dsimp only
    rw [ojU_eq, ojU_eq, ojU_eq]
    by_cases e : c = t
    · subst e
      rw [upd_ne (show b + 3 * c ≠ b + 3 * c + 2 by omega), upd_ne (show b + 3 * c ≠ b + 3 * c + 1 by omega), upd_eq, upd_ne (show b + 3 * c + 1 ≠ b + 3 * c + 2 by omega), upd_eq, upd_eq]
      exact ⟨rfl, rfl, rfl⟩
    · obtain ⟨q1, q2, q3⟩ := h4 c (by omega)
      rw [upd_ne (show b + 3 * c ≠ b + 3 * t + 2 by omega), upd_ne (show b + 3 * c ≠ b + 3 * t + 1 by omega), upd_ne (show b + 3 * c ≠ b + 3 * t by omega), upd_ne (show b + 3 * c + 1 ≠ b + 3 * t + 2 by omega), upd_ne (show b + 3 * c + 1 ≠ b + 3 * t + 1 by omega), upd_ne (show b + 3 * c + 1 ≠ b + 3 * t by omega), upd_ne (show b + 3 * c + 2 ≠ b + 3 * t + 2 by omega), upd_ne (show b + 3 * c + 2 ≠ b + 3 * t + 1 by omega), upd_ne (show b + 3 * c + 2 ≠ b + 3 * t by omega)]
      exact ⟨q1, q2, q3⟩
  · rintro r ⟨v, s⟩ ⟨h1, h2, h3, h4⟩
    dsimp only at h1 h2 h3 h4 ⊢
    subst h1
    rw [if_pos (show (4 : Int32) ≤ nI 4 by decide)]
    exact ⟨s, rfl, h2, h3, h4⟩
theorem md_keeps {τ : ojS} {d : Nat} (hd : d < 4) : ∃ τ', f_X9_keeps (nI d) τ = some τ' ∧ (∀ k, k ≠ 22 → τ' k = τ k) ∧ Kp d τ τ' ∧ ∀ j, (j < 112 * d ∨ 112 * d + 112 ≤ j) → τ' 22 j = τ 22 j := by
  unfold f_X9_keeps
  simp only [ojLet_s]
  rw [show (112 : Int32) * nI d = nI (112 * d) from by rw [show (112 : Int32) = nI 112 from rfl, pk_mul]]
  obtain ⟨τ1, a1, a2, a3, a4⟩ := keep_7 (τ := τ) (b := 112 * d) (by omega)
  rw [a1]
  unfold f_X9_keeps_33
  simp only [ojLet_s]
  rw [show nI (112 * d) + 96 = nI (112 * d + 96) from by rw [show (96 : Int32) = nI 96 from rfl, nI_add]]
  obtain ⟨τ2, b1, b2, b3, b4⟩ := keep_38 (τ := τ1) (b := 112 * d + 96) (by omega)
  rw [b1]
  unfold f_X9_keeps_101
  simp only [ojLet_s]
  rw [show nI (112 * d + 96) + 12 = nI (112 * d + 108) from by rw [show (12 : Int32) = nI 12 from rfl, nI_add], show nI (112 * d + 108) + 1 = nI (112 * d + 109) from nI_1 _, show nI (112 * d + 108) + 2 = nI (112 * d + 110) from by rw [show (2 : Int32) = nI 2 from rfl, nI_add], show nI (112 * d + 108) + 3 = nI (112 * d + 111) from by rw [show (3 : Int32) = nI 3 from rfl, nI_add]]
  simp only [ojChk_nI (show 112 * d + 108 < 448 by omega) (by decide), nI_clamp (show 112 * d + 108 < 2 ^ 31 by omega), ojChk_nI (show 112 * d + 109 < 448 by omega) (by decide), nI_clamp (show 112 * d + 109 < 2 ^ 31 by omega), ojChk_nI (show 112 * d + 110 < 448 by omega) (by decide), nI_clamp (show 112 * d + 110 < 2 ^ 31 by omega), ojChk_nI (show 112 * d + 111 < 448 by omega) (by decide), nI_clamp (show 112 * d + 111 < 2 ^ 31 by omega)]
  rw [ojU_ne (show 0 ≠ 22 by decide), ojU_ne (show 0 ≠ 22 by decide), ojU_ne (show 0 ≠ 22 by decide), ojU_ne (show 0 ≠ 22 by decide), ojU_ne (show 0 ≠ 22 by decide), ojU_ne (show 0 ≠ 22 by decide)]
  have t0 : τ2 0 = τ 0 := by rw [b2 0 (by decide), a2 0 (by decide)]
  rw [t0]
  refine ⟨_, rfl, fun k hk => by rw [ojU_ne hk, ojU_ne hk, ojU_ne hk, ojU_ne hk, b2 k hk, a2 k hk], ⟨fun c hc => ?_, fun i hi => ?_, ?_, ?_, ?_, ?_⟩, fun j hj => ?_⟩
  · rw [ojU_eq, upd_ne (by omega), ojU_eq, upd_ne (by omega), ojU_eq, upd_ne (by omega), ojU_eq, upd_ne (by omega), b3 _ (by omega), a4 c hc]
  · obtain ⟨q1, q2, q3⟩ := b4 i hi
    rw [ojU_eq, ojU_eq, ojU_eq, ojU_eq]
    refine ⟨?_, ?_, ?_⟩
    · rw [upd_ne (by omega), upd_ne (by omega), upd_ne (by omega), upd_ne (by omega), q1, a2 9 (by decide)]
    · rw [upd_ne (by omega), upd_ne (by omega), upd_ne (by omega), upd_ne (by omega), q2, a2 13 (by decide)]
    · rw [upd_ne (by omega), upd_ne (by omega), upd_ne (by omega), upd_ne (by omega), q3, a2 14 (by decide)]
  · rw [ojU_eq, upd_ne (by omega), ojU_eq, upd_ne (by omega), ojU_eq, upd_ne (by omega), ojU_eq, upd_eq]
  · rw [ojU_eq, upd_ne (by omega), ojU_eq, upd_ne (by omega), ojU_eq, upd_eq]
  · rw [ojU_eq, upd_ne (by omega), ojU_eq, upd_eq]
  · rw [ojU_eq, upd_eq]
  · rw [ojU_eq, upd_ne (by omega), ojU_eq, upd_ne (by omega), ojU_eq, upd_ne (by omega), ojU_eq, upd_ne (by omega), b3 _ (by omega), a3 j (by omega)]
theorem back_7 {τ : ojS} {b : Nat} (hb : b + 112 ≤ 448) : ∃ τ', f_X9_back_7 (nI b) 0 τ = f_X9_back_33 (nI b) τ' ∧ (∀ k, k ≠ 2 → τ' k = τ k) ∧ ∀ c, c < 96 → τ' 2 c = τ 22 (b + c) := by
  unfold f_X9_back_7
  refine ojFix_inv (bot := fun _ _ => none) (fun (r : Int32 → ojS → Option ojS) (q : Int32 × ojS) => r q.1 q.2) _ (fun t q => q.1 = nI t ∧ (∀ k, k ≠ 2 → q.2 k = τ k) ∧ ∀ c, c < t → q.2 2 c = τ 22 (b + c)) (fun z => ∃ τ', z = f_X9_back_33 (nI b) τ' ∧ (∀ k, k ≠ 2 → τ' k = τ k) ∧ ∀ c, c < 96 → τ' 2 c = τ 22 (b + c)) 96 ?_ ?_ 600 0 (0, τ) (by decide) (by decide) ⟨rfl, fun _ _ => rfl, fun c hc => by omega⟩
  · rintro r t ⟨v, s⟩ ht ⟨h1, h2, h3⟩
    dsimp only at h1 h2 h3 ⊢
    subst h1
    have s22 : s 22 = τ 22 := h2 22 (by omega)
    simp only [if_neg (ge_96 ht), ojChk_nI ht (by decide), nI_clamp (show t < 2 ^ 31 by omega), nI_add, ojChk_nI (show b + t < 448 by omega) (by decide), nI_clamp (show b + t < 2 ^ 31 by omega), ojLet_s, s22]
    refine Or.inl ⟨(nI t + 1, ojU s 2 t (τ 22 (b + t))), ⟨nI_1 t, fun k hk => by dsimp only; rw [ojU_ne hk, h2 k hk], fun c hc => ?_⟩, rfl⟩
    dsimp only
    rw [ojU_eq]
    by_cases e : c = t
    · rw [e, upd_eq]
    · rw [upd_ne e, h3 c (by omega)]
  · rintro r ⟨v, s⟩ ⟨h1, h2, h3⟩
    dsimp only at h1 h2 h3 ⊢
    subst h1
    rw [if_pos (show (96 : Int32) ≤ nI 96 by decide)]
    exact ⟨s, rfl, h2, h3⟩
theorem back_38 {τ : ojS} {b : Nat} (hb : b + 16 ≤ 448) : ∃ τ', f_X9_back_38 (nI b) 0 τ = f_X9_back_101 (nI b) τ' ∧ (∀ k, k ≠ 9 → k ≠ 13 → k ≠ 14 → τ' k = τ k) ∧ ∀ i, i < 4 → τ' 9 i = τ 22 (b + 3 * i) ∧ τ' 13 i = τ 22 (b + 3 * i + 1) ∧ τ' 14 i = τ 22 (b + 3 * i + 2) := by
  unfold f_X9_back_38
  refine ojFix_inv (bot := fun _ _ => none) (fun (r : Int32 → ojS → Option ojS) (q : Int32 × ojS) => r q.1 q.2) _ (fun t q => q.1 = nI t ∧ (∀ k, k ≠ 9 → k ≠ 13 → k ≠ 14 → q.2 k = τ k) ∧ ∀ i, i < t → q.2 9 i = τ 22 (b + 3 * i) ∧ q.2 13 i = τ 22 (b + 3 * i + 1) ∧ q.2 14 i = τ 22 (b + 3 * i + 2)) (fun z => ∃ τ', z = f_X9_back_101 (nI b) τ' ∧ (∀ k, k ≠ 9 → k ≠ 13 → k ≠ 14 → τ' k = τ k) ∧ ∀ i, i < 4 → τ' 9 i = τ 22 (b + 3 * i) ∧ τ' 13 i = τ 22 (b + 3 * i + 1) ∧ τ' 14 i = τ 22 (b + 3 * i + 2)) 4 ?_ ?_ 600 0 (0, τ) (by decide) (by decide) ⟨rfl, fun _ _ _ _ => rfl, fun c hc => by omega⟩
  · rintro r t ⟨v, s⟩ ht ⟨h1, h2, h4⟩
    dsimp only at h1 h2 h4 ⊢
    subst h1
    have s22 : s 22 = τ 22 := h2 22 (by decide) (by decide) (by decide)
    have e3 : nI b + 3 * nI t = nI (b + 3 * t) := by rw [show (3 : Int32) = nI 3 from rfl, pk_mul, nI_add]
    have e31 : nI (b + 3 * t) + 1 = nI (b + 3 * t + 1) := nI_1 _
    have e32 : nI (b + 3 * t) + 2 = nI (b + 3 * t + 2) := by rw [show (2 : Int32) = nI 2 from rfl, nI_add]
    rw [if_neg (ge_4 ht)]
    simp only [e31, e32, e3, ojChk_nI ht (by decide), nI_clamp (show t < 2 ^ 31 by omega), ojChk_nI (show b + 3 * t < 448 by omega) (by decide), nI_clamp (show b + 3 * t < 2 ^ 31 by omega), ojChk_nI (show b + 3 * t + 1 < 448 by omega) (by decide), nI_clamp (show b + 3 * t + 1 < 2 ^ 31 by omega), ojChk_nI (show b + 3 * t + 2 < 448 by omega) (by decide), nI_clamp (show b + 3 * t + 2 < 2 ^ 31 by omega), ojLet_s]
    rw [ojU_ne (show 22 ≠ 9 by decide), ojU_ne (show 22 ≠ 13 by decide), ojU_ne (show 22 ≠ 9 by decide), s22]
    refine Or.inl ⟨(nI t + 1, ojU (ojU (ojU s 9 t (τ 22 (b + 3 * t))) 13 t (τ 22 (b + 3 * t + 1))) 14 t (τ 22 (b + 3 * t + 2))), ⟨nI_1 t, fun k k1 k2 k3 => by dsimp only; rw [ojU_ne k3, ojU_ne k2, ojU_ne k1, h2 k k1 k2 k3], fun c hc => ?_⟩, rfl⟩
    dsimp only
    rw [ojU_ne (show 9 ≠ 14 by decide), ojU_ne (show 9 ≠ 13 by decide), ojU_eq, ojU_ne (show 13 ≠ 14 by decide), ojU_eq, ojU_ne (show 13 ≠ 9 by decide), ojU_eq, ojU_ne (show 14 ≠ 13 by decide), ojU_ne (show 14 ≠ 9 by decide)]
    by_cases e : c = t
    · subst e
      rw [upd_eq, upd_eq, upd_eq]
      exact ⟨rfl, rfl, rfl⟩
    · rw [upd_ne e, upd_ne e, upd_ne e]
      exact h4 c (by omega)
  · rintro r ⟨v, s⟩ ⟨h1, h2, h4⟩
    dsimp only at h1 h2 h4 ⊢
    subst h1
    rw [if_pos (show (4 : Int32) ≤ nI 4 by decide)]
    exact ⟨s, rfl, h2, h4⟩
theorem md_back {τ0 τ : ojS} {d : Nat} (hd : d < 4) (hK : Kp d τ0 τ) : ∃ τ', f_X9_back (nI d) τ = some τ' ∧ (∀ k, k ≠ 0 → k ≠ 2 → k ≠ 9 → k ≠ 13 → k ≠ 14 → τ' k = τ k) ∧ (∀ j, j ≠ 0 → j ≠ 11 → j ≠ 12 → j ≠ 13 → τ' 0 j = τ 0 j) ∧ (∀ c, c < 96 → τ' 2 c = τ0 2 c) ∧ (∀ i, i < 4 → τ' 9 i = τ0 9 i ∧ τ' 13 i = τ0 13 i ∧ τ' 14 i = τ0 14 i) ∧ τ' 0 0 = τ0 0 0 ∧ τ' 0 11 = τ0 0 11 ∧ τ' 0 12 = τ0 0 12 ∧ τ' 0 13 = τ0 0 13 := by
  obtain ⟨k1, k2, k3, k4, k5, k6⟩ := hK
  unfold f_X9_back
  simp only [ojLet_s]
  rw [show (112 : Int32) * nI d = nI (112 * d) from by rw [show (112 : Int32) = nI 112 from rfl, pk_mul]]
  obtain ⟨τ1, a1, a2, a3⟩ := back_7 (τ := τ) (b := 112 * d) (by omega)
  rw [a1]
  unfold f_X9_back_33
  simp only [ojLet_s]
  rw [show nI (112 * d) + 96 = nI (112 * d + 96) from by rw [show (96 : Int32) = nI 96 from rfl, nI_add]]
  obtain ⟨τ2, b1, b2, b3⟩ := back_38 (τ := τ1) (b := 112 * d + 96) (by omega)
  rw [b1]
  unfold f_X9_back_101
  simp only [ojLet_s]
  rw [show nI (112 * d + 96) + 12 = nI (112 * d + 108) from by rw [show (12 : Int32) = nI 12 from rfl, nI_add], show nI (112 * d + 108) + 1 = nI (112 * d + 109) from nI_1 _, show nI (112 * d + 108) + 2 = nI (112 * d + 110) from by rw [show (2 : Int32) = nI 2 from rfl, nI_add], show nI (112 * d + 108) + 3 = nI (112 * d + 111) from by rw [show (3 : Int32) = nI 3 from rfl, nI_add]]
  simp only [ojChk_nI (show 112 * d + 108 < 448 by omega) (by decide), nI_clamp (show 112 * d + 108 < 2 ^ 31 by omega), ojChk_nI (show 112 * d + 109 < 448 by omega) (by decide), nI_clamp (show 112 * d + 109 < 2 ^ 31 by omega), ojChk_nI (show 112 * d + 110 < 448 by omega) (by decide), nI_clamp (show 112 * d + 110 < 2 ^ 31 by omega), ojChk_nI (show 112 * d + 111 < 448 by omega) (by decide), nI_clamp (show 112 * d + 111 < 2 ^ 31 by omega)]
  have t22 : τ2 22 = τ 22 := by rw [b2 22 (by decide) (by decide) (by decide), a2 22 (by decide)]
  have t0 : τ2 0 = τ 0 := by rw [b2 0 (by decide) (by decide) (by decide), a2 0 (by decide)]
  rw [ojU_ne (show 22 ≠ 0 by decide), ojU_ne (show 22 ≠ 0 by decide), ojU_ne (show 22 ≠ 0 by decide), ojU_ne (show 22 ≠ 0 by decide), ojU_ne (show 22 ≠ 0 by decide), ojU_ne (show 22 ≠ 0 by decide), t22, k3, k4, k5, k6]
  refine ⟨_, rfl, fun k q1 q2 q3 q4 q5 => by rw [ojU_ne q1, ojU_ne q1, ojU_ne q1, ojU_ne q1, b2 k q3 q4 q5, a2 k q2], fun j q1 q2 q3 q4 => ?_, fun c hc => ?_, fun i hi => ?_, ?_, ?_, ?_, ?_⟩
  · rw [ojU_eq, upd_ne q4, ojU_eq, upd_ne q3, ojU_eq, upd_ne q2, ojU_eq, upd_ne q1, t0]
  · rw [ojU_ne (by decide), ojU_ne (by decide), ojU_ne (by decide), ojU_ne (by decide), b2 2 (by decide) (by decide) (by decide), a3 c hc, k1 c hc]
  · obtain ⟨q1, q2, q3⟩ := b3 i hi
    obtain ⟨p1, p2, p3⟩ := k2 i hi
    have t22' : τ1 22 = τ 22 := a2 22 (by decide)
    rw [ojU_ne (by decide), ojU_ne (by decide), ojU_ne (by decide), ojU_ne (by decide), ojU_ne (by decide), ojU_ne (by decide), ojU_ne (by decide), ojU_ne (by decide), ojU_ne (by decide), ojU_ne (by decide), ojU_ne (by decide), ojU_ne (by decide), q1, q2, q3, t22', p1, p2, p3]
    exact ⟨rfl, rfl, rfl⟩
  · rw [ojU_eq, upd_ne (by decide), ojU_eq, upd_ne (by decide), ojU_eq, upd_ne (by decide), ojU_eq, upd_eq]
  · rw [ojU_eq, upd_ne (by decide), ojU_eq, upd_ne (by decide), ojU_eq, upd_eq]
  · rw [ojU_eq, upd_ne (by decide), ojU_eq, upd_eq]
  · rw [ojU_eq, upd_eq]
