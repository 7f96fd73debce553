def pth (sea : Nat → Prop) : Nat → Nat → Nat → Prop
  | 0, a, b => a = b
  | n + 1, a, b => a = b ∨ ∃ w, 1 ≤ w ∧ w ≤ 4 ∧ ah a w < 96 ∧ sea (ah a w) ∧ pth sea n (ah a w) b
theorem pth_dst {sea : Nat → Prop} {b : Nat} (hb : b < 96) : ∀ n a, a < 96 → pth sea n a b → dst a b ≤ n := by
  intro n
  induction n with
  | zero => intro a ha h; rw [show a = b from h, dst_self b hb]; exact Nat.le_refl _
  | succ n ih =>
    intro a ha h
    rcases h with h | ⟨w, h1, h2, h3, h4, h5⟩
    · rw [h, dst_self b hb]; omega
    · have := ih _ h3 h5
      have := dst_ah a ha w (by omega) h3 b hb
      omega
theorem isSea_at {σ τ : ojS} (h : Rnet (σ 2) (τ 1)) {c : Nat} (hc : c < 96) : (τ 1 c = 0 ∧ f_X2_isSea (nI c) σ = some 1 ∧ f_X9_isSea (nI c) τ = some 1) ∨ (¬ τ 1 c = 0 ∧ f_X2_isSea (nI c) σ = some 0 ∧ f_X9_isSea (nI c) τ = some 0) := by
  obtain ⟨v, hv, e1, e2⟩ := h c hc
  rcases sea_cases h (nI c) with ⟨h1, h2⟩ | ⟨d, hd, e, h0, h3, h1, h2⟩
  · refine Or.inr ⟨fun h0 => ?_, h1, h2⟩
    have hv0 : v = 0 := nI_inj (b := 0) (by omega) (by decide) (e2.symm.trans h0)
    subst hv0
    unfold f_X9_isSea at h2
    rcases cell_cases (nI c) with ⟨-, q⟩ | ⟨d, hd, e, -, q⟩
    · unfold f_X9_isCell f_X9_in at q
      rw [if_neg (nI_pos (by omega)), if_neg (show ¬ (95 : Int32) < nI c from nI_nlt (a := 95) (b := c) (by omega) (by decide))] at q
      exact absurd q (by decide)
    · rw [q] at h2
      simp only [ojB1_s, if10] at h2
      rw [ojChk_nI hc (by decide), nI_clamp (by omega), if_pos h0] at h2
      exact absurd h2 (by decide)
  · have : d = c := nI_inj (by omega) (by omega) e.symm
    subst this
    exact Or.inl ⟨h3, h1, h2⟩
theorem isSea_m1 (σ : ojS) : f_X2_isSea (-1) σ = some 0 := rfl
theorem way_eq {σ τ : ojS} (h : Rnet (σ 2) (τ 1)) {b : Nat} (hb : b < 96) (hsb : τ 1 b = 0) : ∀ n d a, n < d → n ≤ 3 → a < 96 → τ 1 a = 0 →
    (pth (fun x => τ 1 x = 0) n a b ∧ f_X8_isWayOverSea d (nI a) (nI b) (nI n) σ = some 1) ∨ (¬ pth (fun x => τ 1 x = 0) n a b ∧ f_X8_isWayOverSea d (nI a) (nI b) (nI n) σ = some 0) := by
  intro n
  induction n with
  | zero =>
    intro d a hd _ ha hsa
    obtain ⟨d, rfl⟩ : ∃ e, d = e + 1 := ⟨d - 1, by omega⟩
    show (_ ∧ g_X8_isWayOverSea (f_X8_isWayOverSea d) (nI a) (nI b) (nI 0) σ = _) ∨ (_ ∧ g_X8_isWayOverSea (f_X8_isWayOverSea d) (nI a) (nI b) (nI 0) σ = _)
    unfold g_X8_isWayOverSea
    rw [if_neg (show ¬ nI 0 < 0 from nI_pos (by omega))]
    rcases isSea_at h ha with ⟨-, q1, -⟩ | ⟨q, -⟩
    · rcases isSea_at h hb with ⟨-, q2, -⟩ | ⟨q, -⟩
      · rw [q1, q2, dst_eq a ha b hb]
        simp only [ojB1_s, if10]
        by_cases hab : a = b
        · subst hab
          rw [dst_self a ha, if_pos (by decide), if_pos rfl]
          exact Or.inl ⟨rfl, rfl⟩
        · rw [if_neg]
          · exact Or.inr ⟨hab, rfl⟩
          · intro hq
            rw [nI_leI (by have := dst_le a ha b hb; omega) (by decide)] at hq
            exact hab (dst_0 a ha b hb (by omega))
      · exact absurd hsb q
    · exact absurd hsa q
  | succ n ih =>
    intro d a hd hn ha hsa
    obtain ⟨d, rfl⟩ : ∃ e, d = e + 1 := ⟨d - 1, by omega⟩
    show (_ ∧ g_X8_isWayOverSea (f_X8_isWayOverSea d) (nI a) (nI b) (nI (n + 1)) σ = _) ∨ (_ ∧ g_X8_isWayOverSea (f_X8_isWayOverSea d) (nI a) (nI b) (nI (n + 1)) σ = _)
    unfold g_X8_isWayOverSea
    rw [if_neg (show ¬ nI (n + 1) < 0 from nI_pos (by omega))]
    rcases isSea_at h ha with ⟨-, q1, -⟩ | ⟨q, -⟩
    · rcases isSea_at h hb with ⟨-, q2, -⟩ | ⟨q, -⟩
      · rw [q1, q2, dst_eq a ha b hb]
        simp only [ojB1_s, if10]
        have hd18 := dst_le a ha b hb
        by_cases hdn : dst a b ≤ n + 1
        · rw [if_pos ((nI_leI (by omega) (by omega)).mpr hdn)]
          by_cases hab : a = b
          · subst hab
            rw [if_pos rfl]
            exact Or.inl ⟨Or.inl rfl, rfl⟩
          · rw [if_neg (fun e => hab (nI_inj (by omega) (by omega) e))]
            unfold f_X8_isWayOverSea_41
            refine ojFix_inv (bot := fun _ => none) (fun (r : Int32 → Option Int32) a => r a) _ (fun k x => x = nI (k + 1) ∧ ∀ w, 1 ≤ w → w ≤ k → ¬ (ah a w < 96 ∧ τ 1 (ah a w) = 0 ∧ pth (fun x => τ 1 x = 0) n (ah a w) b)) (fun z => (pth (fun x => τ 1 x = 0) (n + 1) a b ∧ z = some 1) ∨ (¬ pth (fun x => τ 1 x = 0) (n + 1) a b ∧ z = some 0)) 4 ?_ ?_ 600 0 1 (by decide) (by decide) ⟨rfl, fun w h1 h2 => by omega⟩
            · rintro r k x hk ⟨rfl, hI⟩
              try dsimp only
              rw [if_neg (show ¬ (4 : Int32) < nI (k + 1) from nI_nlt (b := k + 1) (a := 4) (by omega) (by decide)), ahead_eq a ha (k + 1) (by omega)]
              simp only [ojB1_s]
              rw [show nI (n + 1) - 1 = nI n from nI_pred n]
              have nx : ¬ (ah a (k + 1) < 96 ∧ τ 1 (ah a (k + 1)) = 0 ∧ pth (fun x => τ 1 x = 0) n (ah a (k + 1)) b) → ∃ a', (a' = nI (k + 1 + 1) ∧ ∀ w, 1 ≤ w → w ≤ k + 1 → ¬ (ah a w < 96 ∧ τ 1 (ah a w) = 0 ∧ pth (fun x => τ 1 x = 0) n (ah a w) b)) ∧ r (nI (k + 1) + 1) = r a' := fun hnw => ⟨_, ⟨nI_1 _, fun w w1 w2 => by
                by_cases hq : w = k + 1
                · subst hq; exact hnw
                · exact hI w w1 (by omega)⟩, rfl⟩
              by_cases hah : ah a (k + 1) < 96
              · rw [aI, if_pos hah]
                rcases isSea_at h hah with ⟨s1, s2, s3⟩ | ⟨s1, s2, s3⟩
                · rcases ih d (ah a (k + 1)) (by omega) (by omega) hah s1 with ⟨p1, p2⟩ | ⟨p1, p2⟩
                  · rw [p2]
                    simp only [ojB1_s, if10]
                    exact Or.inr (Or.inl ⟨Or.inr ⟨k + 1, by omega, by omega, hah, s1, p1⟩, by trivial⟩)
                  · rw [p2]
                    simp only [ojB1_s, if00, ojLet_s]
                    exact Or.inl (nx (fun q => p1 q.2.2))
                · have e0 : f_X8_isWayOverSea d (nI (ah a (k + 1))) (nI b) (nI n) σ = some 0 := by
                    obtain ⟨d, rfl⟩ : ∃ e, d = e + 1 := ⟨d - 1, by omega⟩
                    show g_X8_isWayOverSea (f_X8_isWayOverSea d) (nI (ah a (k + 1))) (nI b) (nI n) σ = some 0
                    unfold g_X8_isWayOverSea
                    rw [if_neg (show ¬ nI n < 0 from nI_pos (by omega))]
                    rw [s2]; rfl
                  rw [e0]
                  simp only [ojB1_s, if00, ojLet_s]
                  exact Or.inl (nx (fun q => s1 q.2.1))
              · rw [aI, if_neg hah]
                have e0 : f_X8_isWayOverSea d (-1) (nI b) (nI n) σ = some 0 := by
                  obtain ⟨d, rfl⟩ : ∃ e, d = e + 1 := ⟨d - 1, by omega⟩
                  show g_X8_isWayOverSea (f_X8_isWayOverSea d) (-1) (nI b) (nI n) σ = some 0
                  unfold g_X8_isWayOverSea
                  rw [if_neg (show ¬ nI n < 0 from nI_pos (by omega))]
                  rw [isSea_m1]; rfl
                rw [e0]
                simp only [ojB1_s, if00, ojLet_s]
                exact Or.inl (nx (fun q => hah q.1))
            · rintro r x ⟨rfl, hI⟩
              try dsimp only
              rw [if_pos (show (4 : Int32) < nI (4 + 1) by decide)]
              refine Or.inr ⟨fun q => ?_, rfl⟩
              rcases q with q | ⟨w, w1, w2, w3, w4, w5⟩
              · exact hab q
              · exact hI w w1 w2 ⟨w3, w4, w5⟩
        · rw [if_neg (fun q => hdn ((nI_leI (by omega) (by omega)).mp q))]
          exact Or.inr ⟨fun q => hdn (pth_dst hb _ a ha q), rfl⟩
      · exact absurd hsb q
    · exact absurd hsa q
theorem near46_eq {τ : ojS} {rec : Int32 → Option Int32} {a1 a4 : Int32} {b m e : Nat} (hb : b < 96) (he : e < 96) (hm : m ≤ 3) : (1 < m ∧ (∃ v, 1 ≤ v ∧ v ≤ 4 ∧ ah e v = b) ∧ f_X9_nearBy_46 rec a1 (nI b) (nI m) a4 (nI e) 1 τ = some 1) ∨ (¬ (1 < m ∧ ∃ v, 1 ≤ v ∧ v ≤ 4 ∧ ah e v = b) ∧ f_X9_nearBy_46 rec a1 (nI b) (nI m) a4 (nI e) 1 τ = rec (a4 + 1)) := by
  unfold f_X9_nearBy_46
  refine ojFix_inv (bot := fun _ => none) (fun (r : Int32 → Option Int32) a => r a) _ (fun k x => x = nI (k + 1) ∧ ∀ w, 1 ≤ w → w ≤ k → ¬ ah e w = b) (fun z => (1 < m ∧ (∃ v, 1 ≤ v ∧ v ≤ 4 ∧ ah e v = b) ∧ z = some 1) ∨ (¬ (1 < m ∧ ∃ v, 1 ≤ v ∧ v ≤ 4 ∧ ah e v = b) ∧ z = rec (a4 + 1))) 4 ?_ ?_ 600 0 1 (by decide) (by decide) ⟨rfl, fun w h1 h2 => by omega⟩
  · rintro r k x hk ⟨rfl, hI⟩
    try dsimp only
    rw [if_neg (show ¬ (4 : Int32) < nI (k + 1) from nI_nlt (b := k + 1) (a := 4) (by omega) (by decide))]
    by_cases hm1 : m ≤ 1
    · rw [if_pos (show nI m ≤ 1 from nI_le (b := 1) hm1 (by decide))]
      exact Or.inr (Or.inr ⟨fun q => by omega, rfl⟩)
    · rw [if_neg (show ¬ nI m ≤ 1 from fun q => hm1 ((nI_leI (b := 1) (by omega) (by decide)).mp q)), step_eq e he (k + 1) (by omega) (by omega)]
      simp only [ojB1_s]
      by_cases hq : ah e (k + 1) = b
      · rw [show aI e (k + 1) = nI b by rw [aI, hq, if_pos hb], if_pos rfl]
        exact Or.inr (Or.inl ⟨by omega, ⟨k + 1, by omega, by omega, hq⟩, rfl⟩)
      · rw [if_neg]
        · exact Or.inl ⟨_, ⟨nI_1 _, fun w w1 w2 => by
            by_cases hw : w = k + 1
            · subst hw; exact hq
            · exact hI w w1 (by omega)⟩, rfl⟩
        · unfold aI
          split
          · exact fun q => hq (nI_inj (by omega) (by omega) q)
          · exact fun q => nI_ne_m1 (by omega) q.symm
  · rintro r x ⟨rfl, hI⟩
    try dsimp only
    rw [if_pos (show (4 : Int32) < nI (4 + 1) by decide)]
    refine Or.inr ⟨fun q => ?_, rfl⟩
    obtain ⟨-, v, v1, v2, v3⟩ := q
    exact hI v v1 v2 v3
theorem near_eq {σ τ : ojS} (h : Rnet (σ 2) (τ 1)) {b : Nat} (hb : b < 96) (hsb : τ 1 b = 0) {m a : Nat} (hm1 : 1 ≤ m) (hm : m ≤ 2) (ha : a < 96) :
    ((∃ w, 1 ≤ w ∧ w ≤ 4 ∧ ah a w < 96 ∧ τ 1 (ah a w) = 0 ∧ pth (fun x => τ 1 x = 0) (m - 1) (ah a w) b) ∧ f_X9_nearBy (nI a) (nI b) (nI m) τ = some 1) ∨ ((∀ w, 1 ≤ w → w ≤ 4 → ¬ (ah a w < 96 ∧ τ 1 (ah a w) = 0 ∧ pth (fun x => τ 1 x = 0) (m - 1) (ah a w) b)) ∧ f_X9_nearBy (nI a) (nI b) (nI m) τ = some 0) := by
  unfold f_X9_nearBy f_X9_nearBy_3
  refine ojFix_inv (bot := fun _ => none) (fun (r : Int32 → Option Int32) a => r a) _ (fun k x => x = nI (k + 1) ∧ ∀ w, 1 ≤ w → w ≤ k → ¬ (ah a w < 96 ∧ τ 1 (ah a w) = 0 ∧ pth (fun x => τ 1 x = 0) (m - 1) (ah a w) b)) (fun z => ((∃ w, 1 ≤ w ∧ w ≤ 4 ∧ ah a w < 96 ∧ τ 1 (ah a w) = 0 ∧ pth (fun x => τ 1 x = 0) (m - 1) (ah a w) b) ∧ z = some 1) ∨ ((∀ w, 1 ≤ w → w ≤ 4 → ¬ (ah a w < 96 ∧ τ 1 (ah a w) = 0 ∧ pth (fun x => τ 1 x = 0) (m - 1) (ah a w) b)) ∧ z = some 0)) 4 ?_ ?_ 600 0 1 (by decide) (by decide) ⟨rfl, fun w h1 h2 => by omega⟩
  · rintro r k x hk ⟨rfl, hI⟩
    try dsimp only
    rw [if_neg (show ¬ (4 : Int32) < nI (k + 1) from nI_nlt (b := k + 1) (a := 4) (by omega) (by decide)), step_eq a ha (k + 1) (by omega) (by omega)]
    simp only [ojB1_s]
    have nx : ¬ (ah a (k + 1) < 96 ∧ τ 1 (ah a (k + 1)) = 0 ∧ pth (fun x => τ 1 x = 0) (m - 1) (ah a (k + 1)) b) → ∃ a', (a' = nI (k + 1 + 1) ∧ ∀ w, 1 ≤ w → w ≤ k + 1 → ¬ (ah a w < 96 ∧ τ 1 (ah a w) = 0 ∧ pth (fun x => τ 1 x = 0) (m - 1) (ah a w) b)) ∧ r (nI (k + 1) + 1) = r a' := fun hnw => ⟨_, ⟨nI_1 _, fun w w1 w2 => by
      by_cases hq : w = k + 1
      · subst hq; exact hnw
      · exact hI w w1 (by omega)⟩, rfl⟩
    by_cases hah : ah a (k + 1) < 96
    · rw [aI, if_pos hah, if_neg (nI_ne_m1 (by omega))]
      rcases isSea_at h hah with ⟨s1, s2, s3⟩ | ⟨s1, s2, s3⟩
      · rw [s3]
        simp only [ojB1_s, if10]
        by_cases hq : ah a (k + 1) = b
        · rw [if_pos (by rw [hq])]
          refine Or.inr (Or.inl ⟨⟨k + 1, by omega, by omega, hah, s1, ?_⟩, rfl⟩)
          rw [hq]
          have hmm : m - 1 = 0 ∨ m - 1 = 1 := by omega
          rcases hmm with e | e
          · rw [e]; rfl
          · rw [e]; exact Or.inl rfl
        · rw [if_neg (fun e => hq (nI_inj (by omega) (by omega) e))]
          rcases near46_eq (τ := τ) (rec := r) (a1 := nI a) (a4 := nI (k + 1)) (b := b) (m := m) (e := ah a (k + 1)) hb hah (by omega) with ⟨p1, ⟨v, v1, v2, v3⟩, p2⟩ | ⟨p1, p2⟩
          · rw [p2]
            refine Or.inr (Or.inl ⟨⟨k + 1, by omega, by omega, hah, s1, ?_⟩, rfl⟩)
            rw [show m - 1 = 0 + 1 by omega]
            exact Or.inr ⟨v, v1, v2, by rw [v3]; exact hb, by rw [v3]; exact hsb, v3⟩
          · rw [p2]
            refine Or.inl (nx (fun q => ?_))
            obtain ⟨-, -, q⟩ := q
            have hmm : m - 1 = 0 ∨ m - 1 = 0 + 1 := by omega
            rcases hmm with e | e
            · rw [e] at q; exact hq q
            · rw [e] at q
              rcases q with q | ⟨v, v1, v2, v3, v4, v5⟩
              · exact hq q
              · exact p1 ⟨by omega, v, v1, v2, v5⟩
      · rw [s3]
        simp only [ojB1_s, if00, ojLet_s]
        exact Or.inl (nx (fun q => s1 q.2.1))
    · rw [aI, if_neg hah, if_pos rfl]
      simp only [ojLet_s]
      exact Or.inl (nx (fun q => hah q.1))
  · rintro r x ⟨rfl, hI⟩
    try dsimp only
    rw [if_pos (show (4 : Int32) < nI (4 + 1) by decide)]
    exact Or.inr ⟨fun w w1 w2 => hI w w1 w2, rfl⟩
theorem canGo_eq {σ τ : ojS} (h : Rnet (σ 2) (τ 1)) {b : Nat} (hb : b < 96) (hsb : τ 1 b = 0) {n a : Nat} (hn1 : 1 ≤ n) (hn : n ≤ 3) (ha : a < 96) :
    (pth (fun x => τ 1 x = 0) n a b ∧ f_X9_canGo (nI a) (nI b) (nI n) τ = some 1) ∨ (¬ pth (fun x => τ 1 x = 0) n a b ∧ f_X9_canGo (nI a) (nI b) (nI n) τ = some 0) := by
  obtain ⟨n, rfl⟩ : ∃ k, n = k + 1 := ⟨n - 1, by omega⟩
  unfold f_X9_canGo
  by_cases hab : a = b
  · subst hab
    rw [if_pos rfl]
    exact Or.inl ⟨Or.inl rfl, rfl⟩
  · rw [if_neg (fun e => hab (nI_inj (by omega) (by omega) e))]
    unfold f_X9_canGo_10
    refine ojFix_inv (bot := fun _ => none) (fun (r : Int32 → Option Int32) a => r a) _ (fun k x => x = nI (k + 1) ∧ ∀ w, 1 ≤ w → w ≤ k → ¬ (ah a w < 96 ∧ τ 1 (ah a w) = 0 ∧ pth (fun x => τ 1 x = 0) n (ah a w) b)) (fun z => (pth (fun x => τ 1 x = 0) (n + 1) a b ∧ z = some 1) ∨ (¬ pth (fun x => τ 1 x = 0) (n + 1) a b ∧ z = some 0)) 4 ?_ ?_ 600 0 1 (by decide) (by decide) ⟨rfl, fun w h1 h2 => by omega⟩
    · rintro r k x hk ⟨rfl, hI⟩
      try dsimp only
      rw [if_neg (show ¬ (4 : Int32) < nI (k + 1) from nI_nlt (b := k + 1) (a := 4) (by omega) (by decide)), if_neg (show ¬ nI (n + 1) ≤ 0 from nI_nle (by omega) (by omega)), step_eq a ha (k + 1) (by omega) (by omega)]
      simp only [ojB1_s]
      have nx : ¬ (ah a (k + 1) < 96 ∧ τ 1 (ah a (k + 1)) = 0 ∧ pth (fun x => τ 1 x = 0) n (ah a (k + 1)) b) → ∃ a', (a' = nI (k + 1 + 1) ∧ ∀ w, 1 ≤ w → w ≤ k + 1 → ¬ (ah a w < 96 ∧ τ 1 (ah a w) = 0 ∧ pth (fun x => τ 1 x = 0) n (ah a w) b)) ∧ r (nI (k + 1) + 1) = r a' := fun hnw => ⟨_, ⟨nI_1 _, fun w w1 w2 => by
        by_cases hq : w = k + 1
        · subst hq; exact hnw
        · exact hI w w1 (by omega)⟩, rfl⟩
      by_cases hah : ah a (k + 1) < 96
      · rw [aI, if_pos hah, if_neg (nI_ne_m1 (by omega))]
        rcases isSea_at h hah with ⟨s1, s2, s3⟩ | ⟨s1, s2, s3⟩
        · rw [s3]
          simp only [ojB1_s, if10]
          by_cases hq : ah a (k + 1) = b
          · rw [if_pos (by rw [hq])]
            refine Or.inr (Or.inl ⟨Or.inr ⟨k + 1, by omega, by omega, hah, s1, ?_⟩, rfl⟩)
            rw [hq]
            cases n with
            | zero => rfl
            | succ n => exact Or.inl rfl
          · rw [if_neg (fun e => hq (nI_inj (by omega) (by omega) e))]
            by_cases hn0 : n = 0
            · subst hn0
              rw [if_pos (by decide)]
              simp only [ojLet_s]
              exact Or.inl (nx (fun q => hq q.2.2))
            · rw [if_neg (show ¬ nI (n + 1) ≤ 1 from fun q => hn0 (by have := (nI_leI (b := 1) (by omega) (by decide)).mp q; omega)), show nI (n + 1) - 1 = nI n from nI_pred n]
              rcases near_eq h hb hsb (m := n) (a := ah a (k + 1)) (by omega) (by omega) hah with ⟨⟨w, w1, w2, w3, w4, w5⟩, p2⟩ | ⟨p1, p2⟩
              · rw [p2]
                simp only [ojB1_s, if10]
                refine Or.inr (Or.inl ⟨Or.inr ⟨k + 1, by omega, by omega, hah, s1, ?_⟩, by trivial⟩)
                rw [show n = n - 1 + 1 by omega]
                exact Or.inr ⟨w, w1, w2, w3, w4, w5⟩
              · rw [p2]
                simp only [ojB1_s, if00, ojLet_s]
                refine Or.inl (nx (fun q => ?_))
                obtain ⟨-, -, q⟩ := q
                rw [show n = n - 1 + 1 by omega] at q
                rcases q with q | ⟨v, v1, v2, v3, v4, v5⟩
                · exact hq q
                · exact p1 v v1 v2 ⟨v3, v4, v5⟩
        · rw [s3]
          simp only [ojB1_s, if00, ojLet_s]
          exact Or.inl (nx (fun q => s1 q.2.1))
      · rw [aI, if_neg hah, if_pos rfl]
        simp only [ojLet_s]
        exact Or.inl (nx (fun q => hah q.1))
    · rintro r x ⟨rfl, hI⟩
      try dsimp only
      rw [if_pos (show (4 : Int32) < nI (4 + 1) by decide)]
      refine Or.inr ⟨fun q => ?_, rfl⟩
      rcases q with q | ⟨w, w1, w2, w3, w4, w5⟩
      · exact hab q
      · exact hI w w1 w2 ⟨w3, w4, w5⟩
