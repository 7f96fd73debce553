/-! the reference's hour -/
noncomputable def hfT (τ : ojS) (w f c : Nat) : Nat := @ite Nat (∃ k, k < 20 ∧ τ 5 k = 1 ∧ Jn (τ 6) (τ 7) k c (ah c w) ∧ nI f ≤ τ 8 k) (Classical.propDecidable _) 10 1
theorem hold_eq {σ τ : ojS} (h : Rbm (σ 3 3) (σ 4) (σ 5) (σ 6) (τ 5) (τ 6) (τ 7) (τ 8)) {c w f : Nat} (hc : c < 96) (h1 : 1 ≤ w) (h4 : w ≤ 4) (hin : ah c w < 96) (hf : f ≤ 9) {σ1 : ojS} (e : σ1 6 = σ 6) :
    (hfT τ w f c = 1 ∧ f_X0_hold (nI c) (nI w) (nI f) σ1 = some 0) ∨ (hfT τ w f c = 10 ∧ f_X0_hold (nI c) (nI w) (nI f) σ1 = some 1) := by
  unfold f_X0_hold hfT
  rw [show nI c * 5 + nI w = nI (c * 5 + w) from by rw [show (5 : Int32) = nI 5 from rfl, pk_mul, nI_add], ojChk_nI (by omega) (by decide), nI_clamp (by omega), e]
  rcases Rbm_tab h hc h1 h4 with ⟨k, t, q1, q2, q3, q4, q5, q6, q7⟩ | ⟨q1, q2⟩
  · rw [q7]
    by_cases hft : f ≤ t
    · refine Or.inr ⟨if_pos ⟨k, q1, q2, q4, by rw [q6]; exact nI_le hft (by omega)⟩, ?_⟩
      rw [if_neg (nI_nlt hft (by omega))]
    · refine Or.inl ⟨if_neg ?_, ?_⟩
      · rintro ⟨k', y1, y2, y3, y4⟩
        have : k' = k := h.2.2.2 k' k c (ah c w) y1 q1 hc q3 y2 q2 y3 q4
        subst this
        rw [q6] at y4
        exact hft ((nI_leI (by omega) (by omega)).mp y4)
      · rw [if_pos (nI_lt (by omega) (by omega))]
  · rw [q2]
    refine Or.inl ⟨if_neg ?_, ?_⟩
    · rintro ⟨k', y1, y2, y3, y4⟩
      exact q1 k' y1 y2 hin y3
    · rw [if_pos]
      rw [Int32.lt_iff_toInt_lt, nI_toInt (by omega)]
      have : (-1 : Int32).toInt = -1 := by decide
      omega
def wyN (τ : ojS) (wd h : Nat) : Nat := if h ≤ 500 then (τ 3 (wd * 501 + h)).toNatClampNeg else 0
def fcN (τ : ojS) (wd h : Nat) : Nat := if h ≤ 500 then (τ 4 (wd * 501 + h)).toNatClampNeg else 0
theorem sky_eq {σ τ : ojS} (hs : Rsky (σ 8) (τ 3) (τ 4)) {wd h : Nat} (hwd : wd ≤ 2) (hh : h ≤ 1000) : wyN τ wd h ≤ 4 ∧ fcN τ wd h ≤ 9 ∧ f_X6_wayAt (nI wd) (nI h) σ = some (nI (wyN τ wd h)) ∧ f_X6_forceAt (nI wd) (nI h) σ = some (nI (fcN τ wd h)) ∧ (h ≤ 500 → τ 3 (wd * 501 + h) = nI (wyN τ wd h) ∧ τ 4 (wd * 501 + h) = nI (fcN τ wd h)) := by
  unfold f_X6_wayAt f_X6_forceAt f_X6_at wyN fcN
  by_cases h5 : h ≤ 500
  · rw [if_pos h5, if_pos h5, if_pos (show nI h ≤ 500 from nI_le (b := 500) h5 (by decide)), show nI wd * 501 + nI h = nI (wd * 501 + h) from by rw [show (501 : Int32) = nI 501 from rfl, pk_mul, nI_add], ojChk_nI (by omega) (by decide), nI_clamp (by omega)]
    obtain ⟨x, y, hx, hy, e1, e2, e3⟩ := hs (wd * 501 + h) (by omega)
    rw [e1, e2, e3, nI_clamp (by omega), nI_clamp (by omega)]
    simp only [ojB1_s]
    refine ⟨hx, hy, ?_, ?_, fun _ => ⟨by trivial, by trivial⟩⟩
    · rw [show nI (x * 10 + y) / 10 = nI ((x * 10 + y) / 10) from pk_div (d := 10) (by omega) (by decide) (by decide), show (x * 10 + y) / 10 = x by omega]
    · rw [show ojRem (nI (x * 10 + y)) 10 = nI ((x * 10 + y) % 10) from pk_rem (d := 10) (by omega) (by decide) (by decide), show (x * 10 + y) % 10 = y by omega]
  · rw [if_neg h5, if_neg h5, if_neg (show ¬ nI h ≤ 500 from fun q => h5 ((nI_leI (b := 500) (by omega) (by decide)).mp q))]
    exact ⟨by omega, by omega, rfl, rfl, fun q => absurd q h5⟩
theorem md_zero {τ : ojS} {a2 a3 : Int32} : ∃ τ', f_X9_hour_63 a2 a3 0 τ = f_X9_hour_84 a2 a3 τ' ∧ (∀ k, k ≠ 21 → τ' k = τ k) ∧ ∀ x, x < 96 → τ' 21 x = 0 := by
  unfold f_X9_hour_63
  refine ojFix_inv (bot := fun _ _ => none) (fun (r : Int32 → ojS → Option ojS) (a : Int32 × ojS) => r a.1 a.2) _ (fun t a => a.1 = nI t ∧ (∀ k, k ≠ 21 → a.2 k = τ k) ∧ ∀ x, x < t → a.2 21 x = 0) (fun z => ∃ τ', z = f_X9_hour_84 a2 a3 τ' ∧ (∀ k, k ≠ 21 → τ' k = τ k) ∧ ∀ x, x < 96 → τ' 21 x = 0) 96 ?_ ?_ 600 0 (0, τ) (by decide) (by decide) ⟨rfl, fun _ _ => rfl, fun x hx => by omega⟩
  · rintro r t ⟨i, s⟩ ht ⟨h1, h2, h3⟩
    dsimp only at h1 h2 h3 ⊢
    subst h1
    rw [if_neg (ge_96 ht), ojChk_nI ht (by decide), nI_clamp (by omega)]
    simp only [ojLet_s]
    refine Or.inl ⟨(nI t + 1, ojU s 21 t 0), ⟨nI_1 t, fun k hk => ?_, fun x hx => ?_⟩, rfl⟩
    · dsimp only
      rw [ojU_ne hk, h2 k hk]
    · dsimp only
      rw [ojU_eq]
      by_cases e : x = t
      · rw [e, upd_eq]
      · rw [upd_ne e, h3 x (by omega)]
  · rintro r ⟨i, s⟩ ⟨h1, h2, h3⟩
    dsimp only at h1 h2 h3 ⊢
    subst h1
    rw [if_pos (show (96 : Int32) ≤ nI 96 by decide)]
    exact ⟨s, rfl, h2, h3⟩
theorem rank_le {rk : Nat → Int32} {c : Nat} (h : ∃ v, v ≤ 9 ∧ rk c = nI v) : (rk c ≤ 0 ↔ rk c = 0) := by
  obtain ⟨v, hv, e⟩ := h
  rw [e, show (0 : Int32) = nI 0 from rfl, nI_leI (by omega) (by decide), nI_eq (by omega) (by decide)]
  omega
theorem md_196 {τ : ojS} {rec : Int32 → ojS → Option ojS} {a2 a3 : Int32} {c e d : Nat} (hc : c < 96) (he : e < 96) : f_X9_hour_196 rec a2 a3 (nI c) (nI d) (nI e) τ = rec (nI c + 1) (ojU (ojU τ 21 c (τ 21 c - nI d)) 21 e (ojU τ 21 c (τ 21 c - nI d) 21 e + nI d)) := by
  unfold f_X9_hour_196
  simp only [ojChk_nI hc (by decide), ojChk_nI he (by decide), nI_clamp (show c < 2 ^ 31 by omega), nI_clamp (show e < 2 ^ 31 by omega), ojLet_s]
theorem md_drift {τ : ojS} {w f : Nat} {L : Nat → Nat} (h01 : ∀ k, k < 20 → τ 5 k = 0 ∨ τ 5 k = 1) (hr : ∀ c, c < 96 → ∃ v, v ≤ 9 ∧ τ 1 c = nI v) (hw : w ≤ 4) (hL : ∀ c, c < 96 → τ 2 c = nI (L c)) (hb : ∀ c, c < 96 → L c ≤ 1000000) (hz : ∀ x, x < 96 → τ 21 x = 0)
    (hu : ∀ k k' x y, k < 20 → k' < 20 → x < 96 → y < 96 → τ 5 k = 1 → τ 5 k' = 1 → Jn (τ 6) (τ 7) k x y → Jn (τ 6) (τ 7) k' x y → k = k') :
    ∃ τ', f_X9_hour_84 (nI w) (nI f) τ = f_X9_hour_226 τ' ∧ (∀ k, k ≠ 21 → k ≠ 0 → τ' k = τ k) ∧ (∀ j, j ≠ 12 → τ' 0 j = τ 0 j) ∧ τ' 0 12 = τ 0 12 + isum (fun c => nI (if w = 0 then 0 else awf (τ 1) w L c)) 96 ∧ ∀ x, x < 96 → nI (L x) + τ' 21 x = nI (if w = 0 then L x else drf (τ 1) (hfT τ w f) w L x) := by
  unfold f_X9_hour_84 f_X9_hour_87
  by_cases hw0 : w = 0
  · subst hw0
    refine ojFix_inv (bot := fun _ _ => none) (fun (r : Int32 → ojS → Option ojS) (a : Int32 × ojS) => r a.1 a.2) _ (fun _ a => a = (0, τ)) (fun z => ∃ τ', z = f_X9_hour_226 τ' ∧ (∀ k, k ≠ 21 → k ≠ 0 → τ' k = τ k) ∧ (∀ j, j ≠ 12 → τ' 0 j = τ 0 j) ∧ τ' 0 12 = τ 0 12 + isum (fun c => nI (if (0 : Nat) = 0 then 0 else awf (τ 1) 0 L c)) 96 ∧ ∀ x, x < 96 → nI (L x) + τ' 21 x = nI (if (0 : Nat) = 0 then L x else drf (τ 1) (hfT τ 0 f) 0 L x)) 0 (fun r k a hk => absurd hk (Nat.not_lt_zero _)) ?_ 600 0 (0, τ) (Nat.le_refl _) (by decide) rfl
    rintro r a rfl
    dsimp only
    rw [if_neg (show ¬ (96 : Int32) ≤ 0 by decide), if_pos (show nI 0 ≤ 0 by decide)]
    refine ⟨τ, rfl, fun _ _ _ => rfl, fun _ _ => rfl, ?_, fun x hx => by rw [hz x hx, if_pos rfl, Int32.add_zero]⟩
    rw [isum_congr (g := fun _ => nI 0) (fun k _ => by rw [if_pos rfl]), isum_nI (f := fun _ => 0), nsum_zero (fun _ _ => rfl), nI_add0]
  · have hw1 : 1 ≤ w := by omega
    refine ojFix_inv (bot := fun _ _ => none) (fun (r : Int32 → ojS → Option ojS) (a : Int32 × ojS) => r a.1 a.2) _ (fun t a => a.1 = nI t ∧ (∀ k, k ≠ 21 → k ≠ 0 → a.2 k = τ k) ∧ (∀ j, j ≠ 12 → a.2 0 j = τ 0 j) ∧ a.2 0 12 = τ 0 12 + isum (fun c => nI (awf (τ 1) w L c)) t ∧ ∀ x, x < 96 → a.2 21 x = nI (nsum (fun y => if ah y w = x then ddf (τ 1) (hfT τ w f) w L y else 0) t) - nI (if x < t then ddf (τ 1) (hfT τ w f) w L x else 0)) (fun z => ∃ τ', z = f_X9_hour_226 τ' ∧ (∀ k, k ≠ 21 → k ≠ 0 → τ' k = τ k) ∧ (∀ j, j ≠ 12 → τ' 0 j = τ 0 j) ∧ τ' 0 12 = τ 0 12 + isum (fun c => nI (if w = 0 then 0 else awf (τ 1) w L c)) 96 ∧ ∀ x, x < 96 → nI (L x) + τ' 21 x = nI (if w = 0 then L x else drf (τ 1) (hfT τ w f) w L x)) 96 ?_ ?_ 600 0 (0, τ) (by decide) (by decide) ⟨rfl, fun _ _ _ => rfl, fun _ _ => rfl, by rw [isum, Int32.add_zero], fun x hx => by show τ 21 x = _; rw [hz x hx, if_neg (Nat.not_lt_zero _)]; exact (Int32.sub_self (nI 0)).symm⟩
    · rintro r t ⟨i, s⟩ ht ⟨h1, h2, h3, h4, h5⟩
      dsimp only at h1 h2 h3 h4 h5 ⊢
      subst h1
      have s1 : s 1 = τ 1 := h2 1 (by omega) (by omega)
      have s2 : s 2 = τ 2 := h2 2 (by omega) (by omega)
      rw [if_neg (ge_96 ht), if_neg (show ¬ nI w ≤ 0 from nI_nle (by omega) (by omega)), ojChk_nI ht (by decide), nI_clamp (by omega)]
      simp only [s1]
      have lt1 : ∀ x, x ≠ t → ∀ a b : Nat, (if x < t + 1 then a else b) = if x < t then a else b := fun x hx a b => by
        by_cases q : x < t
        · rw [if_pos q, if_pos (by omega)]
        · rw [if_neg q, if_neg (by omega)]
      have hah := ah_ne t ht w (by omega)
      have hbt := hb t ht
      have hdle := ddf_le (rk := τ 1) (hf := hfT τ w f) (w := w) (L := L) t
      by_cases hsea : τ 1 t = 0
      · rw [if_pos ((rank_le (hr t ht)).mpr hsea), ojChk_nI ht (by decide)]
        simp only [ojLet_s, s2, hL t ht, half_eq hbt, step_eq t ht w (by omega) hw0, ojB1_s]
        by_cases hin : ah t w < 96
        · have dc : ddf (τ 1) (hfT τ w f) w L t = L t / 2 / hfT τ w f t := by unfold ddf; rw [if_pos hsea, if_pos hin]
          have ac : awf (τ 1) w L t = 0 := by unfold awf; rw [if_pos hsea, if_pos hin]
          rw [aI, if_pos hin, if_neg (nI_ne_m1 (by omega))]
          have fin : ∀ v : Int32, v = nI (ddf (τ 1) (hfT τ w f) w L t) → (∃ a' : Int32 × ojS, (a'.1 = nI (t + 1) ∧ (∀ k, k ≠ 21 → k ≠ 0 → a'.2 k = τ k) ∧ (∀ j, j ≠ 12 → a'.2 0 j = τ 0 j) ∧ a'.2 0 12 = τ 0 12 + isum (fun c => nI (awf (τ 1) w L c)) (t + 1) ∧ ∀ x, x < 96 → a'.2 21 x = nI (nsum (fun y => if ah y w = x then ddf (τ 1) (hfT τ w f) w L y else 0) (t + 1)) - nI (if x < t + 1 then ddf (τ 1) (hfT τ w f) w L x else 0)) ∧ f_X9_hour_196 r (nI w) (nI f) (nI t) v (nI (ah t w)) s = r a'.1 a'.2) := by
            rintro v rfl
            rw [md_196 ht hin]
            refine ⟨(nI t + 1, ojU (ojU s 21 t (s 21 t - nI (ddf (τ 1) (hfT τ w f) w L t))) 21 (ah t w) (ojU s 21 t (s 21 t - nI (ddf (τ 1) (hfT τ w f) w L t)) 21 (ah t w) + nI (ddf (τ 1) (hfT τ w f) w L t))), ⟨nI_1 t, fun k q1 q2 => ?_, fun j hj => ?_, ?_, fun x hx => ?_⟩, rfl⟩
            · dsimp only
              rw [ojU_ne q1, ojU_ne q1, h2 k q1 q2]
            · dsimp only
              rw [ojU_ne (by omega), ojU_ne (by omega), h3 j hj]
            · dsimp only
              rw [ojU_ne (by omega), ojU_ne (by omega), h4, isum, ac, nI_add0]
            · dsimp only
              rw [ojU_eq, ojU_eq, nsum]
              by_cases e1 : x = ah t w
              · subst e1
                rw [upd_eq, upd_ne hah, if_pos rfl, h5 _ hx, lt1 _ hah, ← nI_add, Int32.sub_eq_add_neg, Int32.sub_eq_add_neg, Int32.add_assoc, Int32.add_comm (-_) (nI (ddf _ _ _ _ _)), ← Int32.add_assoc]
              · rw [upd_ne e1, if_neg (fun q => e1 q.symm)]
                by_cases e2 : x = t
                · subst e2
                  rw [upd_eq, h5 x hx, if_neg (Nat.lt_irrefl _), if_pos (by omega), nI_sub0]
                  rfl
                · rw [upd_ne e2, h5 x hx, lt1 x e2]
                  rfl
          rcases boomAt_eq (τ := s) (fun k hk => by rw [h2 5 (by omega) (by omega)]; exact h01 k hk) t (ah t w) with ⟨k, q1, q2, q3, q4⟩ | ⟨q1, q2⟩
          · rw [q4]
            simp only [ojB1_s]
            rw [if_neg (nI_ne_m1 (by omega)), ojChk_nI q1 (by decide), nI_clamp (by omega)]
            rw [h2 5 (by omega) (by omega)] at q2
            rw [h2 6 (by omega) (by omega), h2 7 (by omega) (by omega)] at q3
            rw [h2 8 (by omega) (by omega)]
            by_cases hlt : τ 8 k < nI f
            · rw [if_pos hlt]
              refine Or.inl (fin _ ?_)
              have hf1 : hfT τ w f t = 1 := by
                unfold hfT
                rw [if_neg]
                rintro ⟨k', y1, y2, y3, y4⟩
                have : k' = k := hu k' k t (ah t w) y1 q1 ht hin y2 q2 y3 q3
                subst this
                exact absurd hlt (Int32.not_lt.mpr y4)
              rw [dc, hf1, Nat.div_one]
            · rw [if_neg hlt]
              have hf10 : hfT τ w f t = 10 := by
                unfold hfT
                rw [if_pos ⟨k, q1, q2, q3, Int32.not_lt.mp hlt⟩]
              simp only [tenth_eq (show L t / 2 ≤ 1000000 by omega)]
              refine Or.inl (fin _ ?_)
              rw [dc, hf10]
          · rw [q2]
            simp only [ojB1_s, ifT, if_true]
            refine Or.inl (fin _ ?_)
            have hf1 : hfT τ w f t = 1 := by
              unfold hfT
              rw [if_neg]
              rintro ⟨k', y1, y2, y3, y4⟩
              refine q1 k' y1 (by rw [h2 5 (by omega) (by omega)]; exact y2) ?_
              rw [h2 6 (by omega) (by omega), h2 7 (by omega) (by omega)]
              exact y3
            rw [dc, hf1, Nat.div_one]
        · have dc : ddf (τ 1) (hfT τ w f) w L t = L t / 2 := by unfold ddf; rw [if_pos hsea, if_neg hin]
          have ac : awf (τ 1) w L t = L t / 2 := by unfold awf; rw [if_pos hsea, if_neg hin]
          have hahl := ah_lt t ht w (by omega)
          rw [aI, if_neg hin, if_pos rfl]
          simp only [ojChk_nI ht (by decide), nI_clamp (show t < 2 ^ 31 by omega)]
          refine Or.inl ⟨(nI t + 1, ojU (ojU s 0 12 (s 0 12 + nI (L t / 2))) 21 t (ojU s 0 12 (s 0 12 + nI (L t / 2)) 21 t - nI (L t / 2))), ⟨nI_1 t, fun k q1 q2 => ?_, fun j hj => ?_, ?_, fun x hx => ?_⟩, rfl⟩
          · dsimp only
            rw [ojU_ne q1, ojU_ne q2, h2 k q1 q2]
          · dsimp only
            rw [ojU_ne (by omega), ojU_eq, upd_ne hj, h3 j hj]
          · dsimp only
            rw [ojU_ne (by omega), ojU_eq, upd_eq, h4, isum, ac, Int32.add_assoc]
          · dsimp only
            rw [ojU_eq, ojU_ne (show 21 ≠ 0 by decide), nsum, if_neg (by omega)]
            by_cases e2 : x = t
            · subst e2
              rw [upd_eq, h5 x hx, if_neg (Nat.lt_irrefl _), if_pos (by omega), nI_sub0, dc]
              rfl
            · rw [upd_ne e2, h5 x hx, lt1 x e2]
              rfl
      · rw [if_neg (fun q => hsea ((rank_le (hr t ht)).mp q))]
        have d0 : ddf (τ 1) (hfT τ w f) w L t = 0 := by unfold ddf; rw [if_neg hsea]
        have a0 : awf (τ 1) w L t = 0 := by unfold awf; rw [if_neg hsea]
        simp only [ojLet_s]
        refine Or.inl ⟨(nI t + 1, s), ⟨nI_1 t, h2, h3, ?_, fun x hx => ?_⟩, rfl⟩
        · dsimp only
          rw [h4, isum, a0, nI_add0]
        · dsimp only
          rw [h5 x hx, nsum, d0]
          have z : (if ah t w = x then 0 else 0) = 0 := by split <;> rfl
          rw [z]
          by_cases e2 : x = t
          · subst e2
            rw [d0]
            have z2 : ∀ q : Prop, ∀ _ : Decidable q, (if q then (0 : Nat) else 0) = 0 := fun q _ => by split <;> rfl
            rw [z2, z2]; rfl
          · rw [lt1 x e2]; rfl
    · rintro r ⟨i, s⟩ ⟨h1, h2, h3, h4, h5⟩
      dsimp only at h1 h2 h3 h4 h5 ⊢
      subst h1
      rw [if_pos (show (96 : Int32) ≤ nI 96 by decide)]
      refine ⟨s, rfl, h2, h3, ?_, fun x hx => ?_⟩
      · rw [h4]
        exact congrArg (fun z => τ 0 12 + z) (isum_congr (fun k _ => by rw [if_neg hw0]))
      · rw [h5 x hx, if_pos hx, if_neg hw0, drf, Int32.sub_eq_add_neg, Int32.add_comm (nI (nsum _ _)) _, ← Int32.add_assoc, ← Int32.sub_eq_add_neg, pk_sub (ddf_le x), nI_add]
