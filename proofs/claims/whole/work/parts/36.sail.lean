theorem st_sail {σ τ : ojS} (h : RRR σ τ) (a b : Int32) : stp (f_X8_sail a b σ) (f_X9_sail a b τ) := by
  obtain ⟨N, S, K, P, hR⟩ := id h
  obtain ⟨hN, hS, hK, hP, hnet, hsky, hfs, hlq, hlo, haw, hfl, hskd, hhr, hpt, hbm, hsh⟩ := id hR
  unfold f_X8_sail f_X9_sail
  rcases has_eq a σ K hK.1 hK.2.1 with ⟨h1, h2⟩ | ⟨i, hi, rfl, h1, h2⟩
  · rw [h1, h2 τ hK.2.2]; exact ⟨_, σ, τ, rfl, rfl, h⟩
  have hK4 := hK.1
  have hi4 : i < 4 := by omega
  rw [h1, h2 τ hK.2.2]
  simp only [ojB1_s, if10, ojChk_nI hi4 (by decide), nI_clamp (show i < 2 ^ 31 by omega)]
  obtain ⟨g1, g2, g3, g4, g5, g6⟩ := hfl i hi4
  obtain ⟨e1, e2, e3, e4, va, vb, vc, vd, ve, f1, f2, f3, f4, f5, f6, f7, f8, f9, f10, f11, f12, f13⟩ := g5 hi
  rw [g3, e1, e4, f2, f11]
  by_cases hw : τ 16 i = 0
  · rw [if_pos hw, if_pos hw]
    rcases sea_cases hnet b with ⟨s1, s2⟩ | ⟨c, hc, rfl, -, s0, s1, s2⟩
    · have e0 : f_X8_isWayOverSea 8 (nI va) b (nI vd) σ = some 0 := by
        show g_X8_isWayOverSea (f_X8_isWayOverSea 7) (nI va) b (nI vd) σ = some 0
        unfold g_X8_isWayOverSea
        rw [if_neg (show ¬ nI vd < 0 from nI_pos (by omega))]
        rcases isSea_at hnet f1 with ⟨-, q1, -⟩ | ⟨q, -⟩
        · rw [q1, s1]; rfl
        · exact absurd f3 q
      rw [e0, s2]
      exact ⟨_, σ, τ, rfl, rfl, h⟩
    · rw [s2]
      simp only [ojB1_s, if10]
      rcases way_eq hnet hc s0 vd 8 va (by omega) (by omega) f1 f3 with ⟨p1, p2⟩ | ⟨p1, p2⟩
      · rcases canGo_eq hnet hc s0 (n := vd) (a := va) f9 f10 f1 with ⟨q1, q2⟩ | ⟨q1, q2⟩
        · rw [p2, q2]
          simp only [ojB1_s, if10, ojLet_s, nar_1]
          have cs : ∀ k, k ≠ 15 + i → ojU (ojU σ (15 + i) 0 (nI c)) (15 + i) 5 1 k = σ k := fun k hk => by rw [ojU_ne hk, ojU_ne hk]
          have csi : ojU (ojU σ (15 + i) 0 (nI c)) (15 + i) 5 1 (15 + i) = upd (upd (σ (15 + i)) 0 (nI c)) 5 1 := by rw [ojU_eq, ojU_eq]
          generalize ojU (ojU σ (15 + i) 0 (nI c)) (15 + i) 5 1 = σ' at cs csi ⊢
          refine ⟨1, _, _, rfl, rfl, N, S, K, P, ?_⟩
          refine ⟨by rw [cs 0 (by omega)]; exact hN, by rw [cs 0 (by omega)]; exact hS, by rw [cs 9 (by omega)]; exact hK, by rw [cs 0 (by omega)]; exact hP, by rw [cs 2 (by omega)]; exact hnet, by rw [cs 8 (by omega)]; exact hsky, by rw [cs 0 (by omega)]; exact hfs, by rw [cs 23 (by omega)]; exact hlq, by rw [cs 19 (by omega)]; exact hlo, by rw [cs 19 (by omega)]; exact haw, ?_, hskd, by rw [cs 0 (by omega)]; exact hhr, by rw [cs 14 (by omega)]; exact hpt, by rw [cs 3 (by omega), cs 4 (by omega), cs 5 (by omega), cs 6 (by omega)]; exact hbm, Rshs_fr hsh (fun k _ _ => cs k (by omega)) ⟨rfl, rfl, rfl, rfl, rfl⟩⟩
          intro j hj
          show Rsk K j (σ' (15 + j)) (σ' 27) (upd (τ 9) i (nI c)) (τ 10) (τ 11) (τ 12) (τ 13) (τ 14) (upd (τ 16) i 1) (τ 1)
          rw [cs 27 (by omega)]
          by_cases hq : j = i
          · subst hq
            rw [csi]
            refine ⟨g1, by rw [upd_ne (by decide), upd_ne (by decide)]; exact g2, by rw [upd_eq, upd_eq], Or.inr upd_eq, fun _ => ?_, fun q => by omega⟩
            exact ⟨by rw [upd_ne (by decide), upd_eq, upd_eq], by rw [upd_ne (by decide), upd_ne (by decide)]; exact e2, by rw [upd_ne (by decide), upd_ne (by decide)]; exact e3, by rw [upd_ne (by decide), upd_ne (by decide)]; exact e4, c, vb, vc, vd, ve, hc, upd_eq, s0, f4, f5, f6, f7, f8, f9, f10, f11, f12, f13⟩
          · rw [cs (15 + j) (by omega)]
            obtain ⟨q1, q2, q3, q4, q5, q6⟩ := hfl j hj
            refine ⟨q1, q2, by rw [upd_ne hq]; exact q3, by rw [upd_ne hq]; exact q4, fun hjK => ?_, q6⟩
            rw [upd_ne hq]
            exact q5 hjK
        · exact absurd p1 q1
      · rcases canGo_eq hnet hc s0 (n := vd) (a := va) f9 f10 f1 with ⟨q1, q2⟩ | ⟨q1, q2⟩
        · exact absurd q1 p1
        · rw [p2, q2]
          exact ⟨_, σ, τ, rfl, rfl, h⟩
  · rw [if_neg hw, if_neg hw]
    exact ⟨_, σ, τ, rfl, rfl, h⟩
theorem isAt_eq {σ : ojS} {K : Nat} (hK : K ≤ 4) (h : σ 9 1 = nI K) (a : Int32) : (f_X1_isAt a σ = some 1 ∧ ∃ i, i < K ∧ σ (15 + i) 0 = a) ∨ (f_X1_isAt a σ = some 0 ∧ ∀ i, i < K → ¬ σ (15 + i) 0 = a) := by
  unfold f_X1_isAt f_X1_isAt_2
  refine ojFix_inv (bot := fun _ => none) (fun (r : Int32 → Option Int32) a => r a) _ (fun k x => x = nI k ∧ ∀ i, i < k → ¬ σ (15 + i) 0 = a) (fun z => (z = some 1 ∧ ∃ i, i < K ∧ σ (15 + i) 0 = a) ∨ (z = some 0 ∧ ∀ i, i < K → ¬ σ (15 + i) 0 = a)) K ?_ ?_ 600 0 0 (by omega) (by omega) ⟨rfl, fun i hi => by omega⟩
  · rintro r k x hk ⟨rfl, hI⟩
    try dsimp only
    rw [h, if_neg (nI_ge hk (by omega)), ojChk_nI (show k < 4 by omega) (by decide), nI_clamp (by omega)]
    by_cases hq : σ (15 + k) 0 = a
    · rw [if_pos hq]; exact Or.inr (Or.inl ⟨rfl, k, hk, hq⟩)
    · rw [if_neg hq]
      exact Or.inl ⟨_, ⟨nI_1 k, fun i hi => by
        by_cases e : i = k
        · subst e; exact hq
        · exact hI i (by omega)⟩, rfl⟩
  · rintro r x ⟨rfl, hI⟩
    try dsimp only
    rw [h, if_pos (Int32.le_refl _)]
    exact Or.inr ⟨rfl, hI⟩
theorem leftAt_eq {σ : ojS} {P : Nat} (hP : P ≤ 8) (h : σ 0 9 = nI P) (a : Int32) : (f_X8_shipLeftAt a σ = some 1 ∧ ∃ i, i < P ∧ σ (31 + i) 1 = a) ∨ (f_X8_shipLeftAt a σ = some 0 ∧ ∀ i, i < P → ¬ σ (31 + i) 1 = a) := by
  unfold f_X8_shipLeftAt f_X8_shipLeftAt_2
  refine ojFix_inv (bot := fun _ => none) (fun (r : Int32 → Option Int32) a => r a) _ (fun k x => x = nI k ∧ ∀ i, i < k → ¬ σ (31 + i) 1 = a) (fun z => (z = some 1 ∧ ∃ i, i < P ∧ σ (31 + i) 1 = a) ∨ (z = some 0 ∧ ∀ i, i < P → ¬ σ (31 + i) 1 = a)) P ?_ ?_ 600 0 0 (by omega) (by omega) ⟨rfl, fun i hi => by omega⟩
  · rintro r k x hk ⟨rfl, hI⟩
    try dsimp only
    rw [h, if_neg (nI_ge hk (by omega)), ojChk_nI (show k < 8 by omega) (by decide), nI_clamp (by omega)]
    by_cases hq : σ (31 + k) 1 = a
    · rw [if_pos hq]; exact Or.inr (Or.inl ⟨rfl, k, hk, hq⟩)
    · rw [if_neg hq]
      exact Or.inl ⟨_, ⟨nI_1 k, fun i hi => by
        by_cases e : i = k
        · subst e; exact hq
        · exact hI i (by omega)⟩, rfl⟩
  · rintro r x ⟨rfl, hI⟩
    try dsimp only
    rw [h, if_pos (Int32.le_refl _)]
    exact Or.inr ⟨rfl, hI⟩
theorem sh37_eq {τ : ojS} {K : Nat} (hK : K ≤ 4) (h : τ 0 14 = nI K) (a b : Int32) : (f_X9_shore_37 a b 0 τ = some (0, τ) ∧ ∃ i, i < K ∧ τ 9 i = a) ∨ (f_X9_shore_37 a b 0 τ = f_X9_shore_63 a b τ ∧ ∀ i, i < K → ¬ τ 9 i = a) := by
  unfold f_X9_shore_37
  refine ojFix_inv (bot := fun _ => none) (fun (r : Int32 → Option (Int32 × ojS)) a => r a) _ (fun k x => x = nI k ∧ ∀ i, i < k → ¬ τ 9 i = a) (fun z => (z = some (0, τ) ∧ ∃ i, i < K ∧ τ 9 i = a) ∨ (z = f_X9_shore_63 a b τ ∧ ∀ i, i < K → ¬ τ 9 i = a)) K ?_ ?_ 600 0 0 (by omega) (by omega) ⟨rfl, fun i hi => by omega⟩
  · rintro r k x hk ⟨rfl, hI⟩
    try dsimp only
    rw [h, if_neg (nI_ge hk (by omega)), ojChk_nI (show k < 4 by omega) (by decide), nI_clamp (by omega)]
    by_cases hq : τ 9 k = a
    · rw [if_pos hq]; exact Or.inr (Or.inl ⟨rfl, k, hk, hq⟩)
    · rw [if_neg hq]
      exact Or.inl ⟨_, ⟨nI_1 k, fun i hi => by
        by_cases e : i = k
        · subst e; exact hq
        · exact hI i (by omega)⟩, rfl⟩
  · rintro r x ⟨rfl, hI⟩
    try dsimp only
    rw [h, if_pos (Int32.le_refl _)]
    exact Or.inr ⟨rfl, hI⟩
theorem sh63_eq {τ : ojS} {P : Nat} (hP : P ≤ 8) (h : τ 0 23 = nI P) (a b : Int32) : (f_X9_shore_63 a b τ = some (0, τ) ∧ ∃ i, i < P ∧ τ 18 i = a) ∨ (f_X9_shore_63 a b τ = f_X9_shore_91 a b τ ∧ ∀ i, i < P → ¬ τ 18 i = a) := by
  unfold f_X9_shore_63 f_X9_shore_65
  refine ojFix_inv (bot := fun _ => none) (fun (r : Int32 → Option (Int32 × ojS)) a => r a) _ (fun k x => x = nI k ∧ ∀ i, i < k → ¬ τ 18 i = a) (fun z => (z = some (0, τ) ∧ ∃ i, i < P ∧ τ 18 i = a) ∨ (z = f_X9_shore_91 a b τ ∧ ∀ i, i < P → ¬ τ 18 i = a)) P ?_ ?_ 600 0 0 (by omega) (by omega) ⟨rfl, fun i hi => by omega⟩
  · rintro r k x hk ⟨rfl, hI⟩
    try dsimp only
    rw [h, if_neg (nI_ge hk (by omega)), ojChk_nI (show k < 8 by omega) (by decide), nI_clamp (by omega)]
    by_cases hq : τ 18 k = a
    · rw [if_pos hq]; exact Or.inr (Or.inl ⟨rfl, k, hk, hq⟩)
    · rw [if_neg hq]
      exact Or.inl ⟨_, ⟨nI_1 k, fun i hi => by
        by_cases e : i = k
        · subst e; exact hq
        · exact hI i (by omega)⟩, rfl⟩
  · rintro r x ⟨rfl, hI⟩
    try dsimp only
    rw [h, if_pos (Int32.le_refl _)]
    exact Or.inr ⟨rfl, hI⟩
theorem sh91_eq {τ : ojS} (h01 : ∀ k, k < 20 → τ 5 k = 0 ∨ τ 5 k = 1) {c : Nat} (hc : c < 96) (b : Int32) : (f_X9_shore_91 (nI c) b τ = some (0, τ) ∧ ∃ k, k < 20 ∧ τ 5 k = 1 ∧ (τ 6 k = nI c ∨ τ 7 k = nI c)) ∨ (f_X9_shore_91 (nI c) b τ = some (1, ojU τ 1 c b) ∧ ∀ k, k < 20 → τ 5 k = 1 → ¬ (τ 6 k = nI c ∨ τ 7 k = nI c)) := by
  unfold f_X9_shore_91 f_X9_shore_93
  refine ojFix_inv (bot := fun _ => none) (fun (r : Int32 → Option (Int32 × ojS)) a => r a) _ (fun k x => x = nI k ∧ ∀ i, i < k → τ 5 i = 1 → ¬ (τ 6 i = nI c ∨ τ 7 i = nI c)) (fun z => (z = some (0, τ) ∧ ∃ k, k < 20 ∧ τ 5 k = 1 ∧ (τ 6 k = nI c ∨ τ 7 k = nI c)) ∨ (z = some (1, ojU τ 1 c b) ∧ ∀ k, k < 20 → τ 5 k = 1 → ¬ (τ 6 k = nI c ∨ τ 7 k = nI c))) 20 ?_ ?_ 600 0 0 (by omega) (by omega) ⟨rfl, fun i hi => by omega⟩
  · rintro r k x hk ⟨rfl, hI⟩
    try dsimp only
    simp only [if_neg (ge_20 hk), ojChk_nI hk (by decide), nI_clamp (show k < 2 ^ 31 by omega), ojLet_s]
    have nx : ¬ (τ 5 k = 1 ∧ (τ 6 k = nI c ∨ τ 7 k = nI c)) → ∃ a', (a' = nI (k + 1) ∧ ∀ i, i < k + 1 → τ 5 i = 1 → ¬ (τ 6 i = nI c ∨ τ 7 i = nI c)) ∧ r (nI k + 1) = r a' := fun hn => ⟨_, ⟨nI_1 k, fun i hi q1 q2 => by
        by_cases e : i = k
        · subst e; exact hn ⟨q1, q2⟩
        · exact hI i (by omega) q1 q2⟩, rfl⟩
    rcases h01 k hk with h0 | h1
    · rw [if_pos h0]; exact Or.inl (nx (fun q => by rw [h0] at q; exact absurd q.1 (by decide)))
    · rw [if_neg (by rw [h1]; decide)]
      by_cases c1 : τ 6 k = nI c
      · rw [if_pos c1]; exact Or.inr (Or.inl ⟨rfl, k, hk, h1, Or.inl c1⟩)
      · rw [if_neg c1]
        by_cases c2 : τ 7 k = nI c
        · rw [if_pos c2]; exact Or.inr (Or.inl ⟨rfl, k, hk, h1, Or.inr c2⟩)
        · rw [if_neg c2]; exact Or.inl (nx (fun q => q.2.elim c1 c2))
  · rintro r x ⟨rfl, hI⟩
    try dsimp only
    rw [if_pos (show (20 : Int32) ≤ nI 20 by decide), ojChk_nI hc (by decide), nI_clamp (by omega)]
    exact Or.inr ⟨rfl, hI⟩
theorem st_shore {σ τ : ojS} (h : RRR σ τ) (a b : Int32) : stp (f_X8_shore a b σ) (f_X9_shore a b τ) := by
  obtain ⟨N, S, K, P, hR⟩ := id h
  obtain ⟨hN, hS, hK, hP, hnet, hsky, hfs, hlq, hlo, haw, hfl, hskd, hhr, hpt, hbm, hsh⟩ := id hR
  unfold f_X8_shore f_X9_shore
  simp only [isWithin_eq]
  rcases cell_cases a with ⟨h1, h2⟩ | ⟨c, hc, rfl, h1, h2⟩
  · rw [h1, h2]; exact ⟨_, σ, τ, rfl, rfl, h⟩
  rw [h1, h2]
  simp only [ojB1_s, if10]
  rcases in_cases b 0 9 (by decide) (by decide) with e | ⟨vb, -, hb, rfl, e⟩
  · rw [show f_X9_in b 0 9 = some 0 from e]; exact ⟨_, σ, τ, rfl, rfl, h⟩
  rw [show f_X9_in (nI vb) 0 9 = some 1 from e]
  simp only [ojB1_s, if10]
  rw [hN.2.1, hN.2.2]
  have hN1 := hN.1
  by_cases hN0 : N = 0
  · rw [if_pos (show nI N = 0 by rw [hN0]; rfl), if_neg (show ¬ 0 < nI N by rw [hN0]; decide)]
    simp only [ojChk_nI hc (by decide), nI_clamp (show c < 2 ^ 31 by omega), ojLet_s]
    obtain ⟨L, t, q1, q2, q3⟩ := hlq
    have hL : L c ≤ 1000000 := by
      have := nsum_ge (f := L) hc
      have := hS.1
      omega
    rw [show σ (23 + 0) c = nI (L c) from (q1 c hc).1, (q1 c hc).2]
    by_cases hL0 : L c = 0
    · rw [if_neg (show ¬ 0 < nI (L c) by rw [hL0]; decide), if_pos (show nI (L c) ≤ 0 by rw [hL0]; decide)]
      have atf : ∀ i, i < K → σ (15 + i) 0 = τ 9 i := fun i hi => ((hfl i (by have := hK.1; omega)).2.2.2.2.1 hi).1
      have shf : ∀ i, i < P → σ (31 + i) 1 = τ 18 i := fun i hi => ((hsh i (by have := hP.1; omega)).1 hi).2.1
      rcases isAt_eq hK.1 hK.2.1 (nI c) with ⟨u1, i, u2, u3⟩ | ⟨u1, u2⟩
      · rw [u1]
        simp only [ojB1_s, if10]
        rcases sh37_eq hK.1 hK.2.2 (nI c) (nI vb) with ⟨w1, -⟩ | ⟨-, w2⟩
        · rw [w1]; exact ⟨_, σ, τ, rfl, rfl, h⟩
        · exact absurd (by rw [← atf i u2]; exact u3) (w2 i u2)
      · rw [u1]
        simp only [ojB1_s, if00]
        rcases sh37_eq hK.1 hK.2.2 (nI c) (nI vb) with ⟨-, i, w1, w2⟩ | ⟨w0, w2⟩
        · exact absurd (by rw [atf i w1]; exact w2) (u2 i w1)
        rw [w0]
        rcases sh63_eq hP.1 hP.2.2 (nI c) (nI vb) with ⟨x0, i, x1, x2⟩ | ⟨x0, x1⟩
        · rw [x0]
          have hleft : f_X8_shipLeftAt (nI c) σ = some 1 := by
            rcases leftAt_eq hP.1 hP.2.1 (nI c) with ⟨y1, -⟩ | ⟨-, y2⟩
            · exact y1
            · exact absurd (by rw [shf i x1]; exact x2) (y2 i x1)
          rcases endAt_eq hbm hc with ⟨z1, -⟩ | ⟨z1, -⟩
          · rw [z1]; exact ⟨_, σ, τ, rfl, rfl, h⟩
          · rw [z1, hleft]; exact ⟨_, σ, τ, rfl, rfl, h⟩
        · rw [x0]
          have hleft : f_X8_shipLeftAt (nI c) σ = some 0 := by
            rcases leftAt_eq hP.1 hP.2.1 (nI c) with ⟨-, i, y1, y2⟩ | ⟨y1, -⟩
            · exact absurd (by rw [← shf i y1]; exact y2) (x1 i y1)
            · exact y1
          rcases endAt_eq hbm hc with ⟨z1, k, z2, z3, z4⟩ | ⟨z1, z2⟩
          · rw [z1]
            rcases sh91_eq (Rbm_01 hbm) hc (nI vb) with ⟨v1, -⟩ | ⟨-, v2⟩
            · rw [v1]; exact ⟨_, σ, τ, rfl, rfl, h⟩
            · exact absurd z4 (v2 k z2 z3)
          · rw [z1, hleft]
            rcases sh91_eq (Rbm_01 hbm) hc (nI vb) with ⟨-, k, v1, v2, v3⟩ | ⟨v1, v2⟩
            · exact absurd v3 (z2 k v1 v2)
            · rw [v1]
              simp only [ojB1_s, if00]
              refine ⟨1, _, _, rfl, rfl, N, S, K, P, hN, hS, hK, hP, ?_, hsky, hfs, ⟨L, t, q1, q2, q3⟩, hlo, haw, ?_, hskd, hhr, hpt, hbm, ?_⟩
              · intro x hx
                show ∃ v, v ≤ 9 ∧ upd (σ 2) c (nI vb) x = nI v ∧ upd (τ 1) c (nI vb) x = nI v
                by_cases hq : x = c
                · subst hq; exact ⟨vb, hb, upd_eq, upd_eq⟩
                · rw [upd_ne hq, upd_ne hq]; exact hnet x hx
              · intro j hj
                rw [ojU_ne (show 15 + j ≠ 2 by omega)]
                show Rsk K j (σ (15 + j)) (σ 27) (τ 9) (τ 10) (τ 11) (τ 12) (τ 13) (τ 14) (τ 16) (upd (τ 1) c (nI vb))
                obtain ⟨g1, g2, g3, g4, g5, g6⟩ := hfl j hj
                refine ⟨g1, g2, g3, g4, fun hjK => ?_, g6⟩
                obtain ⟨e1, e2, e3, e4, a', b', c', d', e', f1, f2, f3, f4⟩ := g5 hjK
                have hne : a' ≠ c := fun e => w2 j hjK (by rw [f2, e])
                exact ⟨e1, e2, e3, e4, a', b', c', d', e', f1, f2, by rw [upd_ne hne]; exact f3, f4⟩
              · intro j hj
                rw [ojU_ne (show 31 + j ≠ 2 by omega), ojU_ne (show 39 + j ≠ 2 by omega)]
                obtain ⟨g1, g2⟩ := hsh j hj
                refine ⟨fun hjP => ?_, g2⟩
                obtain ⟨e1, e2, m, hh, aa, f1, f2, f3, f4, f5, f6, f7, f8⟩ := g1 hjP
                have hne : aa ≠ c := fun e => x1 j hjP (by rw [f6, e])
                refine ⟨e1, e2, m, hh, aa, f1, f2, f3, f4, f5, f6, by show upd (τ 1) c (nI vb) aa = 0; rw [upd_ne hne]; exact f7, fun x hx => ?_⟩
                have e0 : N - hh = 0 := by omega
                have := f8 x hx
                rw [e0] at this ⊢
                exact this
    · rw [if_pos (show 0 < nI (L c) from (nI_ltI (a := 0) (by decide) (by omega)).mpr (by omega)), if_neg (show ¬ nI (L c) ≤ 0 from nI_nle (by omega) (by omega))]
      exact ⟨_, σ, τ, rfl, rfl, h⟩
  · rw [if_neg (nI_ne0 (by omega) (by omega)), if_pos (show 0 < nI N from (nI_ltI (a := 0) (by decide) (by omega)).mpr (by omega))]
    exact ⟨_, σ, τ, rfl, rfl, h⟩
