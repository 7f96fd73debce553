theorem bsF_congr {po : Nat → Prop} {mk mk' : Nat → Int32} {d : Int32} : ∀ {k : Nat}, (∀ i, i < k → mk i = mk' i) → bsF po mk d k = bsF po mk' d k
  | 0, _ => rfl
  | k + 1, h => by
    have ih := bsF_congr (po := po) (d := d) (k := k) (fun i hi => h i (by omega))
    rw [bsF, bsF, ih]
    by_cases hp : po k
    · rw [if_pos hp, if_pos hp]
      cases hb : bsF po mk' d k with
      | none => rfl
      | some b =>
        have := (bsF_lt hb).1
        dsimp only
        rw [h b (by omega), h k (by omega)]
    · rw [if_neg hp, if_neg hp]
theorem Dbt_congr {po : Nat → Prop} {mk mk' : Nat → Int32} {d bnd : Int32} {P : Nat} {o : Option Nat} (h : ∀ i, i < P → mk i = mk' i) : Dbt po mk d bnd P o ↔ Dbt po mk' d bnd P o := by
  constructor
  · rintro ⟨i, q1, q2, q3, q4⟩; exact ⟨i, q1, q2, q3, by rw [← h i q1]; exact q4⟩
  · rintro ⟨i, q1, q2, q3, q4⟩; exact ⟨i, q1, q2, q3, by rw [h i q1]; exact q4⟩
theorem md_17 {τ : ojS} {P : Nat} {a1 d : Int32} {po : Nat → Prop} (hP : P ≤ 8) (h23 : τ 0 23 = nI P) (hcd : ∀ τ1 : ojS, (∀ k, k ≠ 23 → k ≠ 24 → τ1 k = τ k) → ∀ i, i < P → ∃ τ', (∀ k, k ≠ 23 → k ≠ 24 → τ' k = τ1 k) ∧ ((po i ∧ f_X9_could (nI i) a1 τ1 = some (1, τ')) ∨ (¬ po i ∧ f_X9_could (nI i) a1 τ1 = some (0, τ')))) :
    ∃ τ', (∀ k, k ≠ 23 → k ≠ 24 → τ' k = τ k) ∧ f_X9_sample_17 a1 d (-1) 0 τ = f_X9_sample_74 a1 d (bsI (bsF po (τ 17) d P)) τ' := by
  unfold f_X9_sample_17
  refine ojFix_inv (bot := fun _ _ _ => none) (fun (r : Int32 → Int32 → ojS → Option (Int32 × ojS)) (q : Int32 × Int32 × ojS) => r q.1 q.2.1 q.2.2) _ (fun t q => q.2.1 = nI t ∧ q.1 = bsI (bsF po (τ 17) d t) ∧ ∀ k, k ≠ 23 → k ≠ 24 → q.2.2 k = τ k) (fun z => ∃ τ', (∀ k, k ≠ 23 → k ≠ 24 → τ' k = τ k) ∧ z = f_X9_sample_74 a1 d (bsI (bsF po (τ 17) d P)) τ') P ?_ ?_ 600 0 (-1, 0, τ) (by omega) (by omega) ⟨rfl, rfl, fun _ _ _ => rfl⟩
  · rintro r t ⟨v3, v4, s⟩ ht ⟨h1, h2, h3⟩
    dsimp only at h1 h2 h3 ⊢
    subst h1
    have t8 : t < 8 := by omega
    rw [if_neg (show ¬ s 0 23 ≤ nI t by rw [h3 0 (by omega) (by omega), h23]; exact nI_ge ht (by omega))]
    obtain ⟨τ', g1, g2⟩ := hcd s h3 t ht
    have fr : ∀ k, k ≠ 23 → k ≠ 24 → τ' k = τ k := fun k q1 q2 => by rw [g1 k q1 q2, h3 k q1 q2]
    have s17 : τ' 17 = τ 17 := fr 17 (by omega) (by omega)
    rcases g2 with ⟨p1, p2⟩ | ⟨p1, p2⟩
    · rw [p2]
      simp only [ojB2_s, if10, ifF, ojChk_nI t8 (by decide), nI_clamp (show t < 2 ^ 31 by omega), s17, apt_eq, ojB1_s, ojLet_s]
      cases hb : bsF po (τ 17) d t with
      | none =>
        rw [hb] at h2
        rw [if_pos (show v3 = -1 from h2)]
        refine Or.inl ⟨(nI t, nI t + 1, τ'), ⟨nI_1 t, ?_, fr⟩, rfl⟩
        dsimp only
        rw [bsF, if_pos p1, hb]; rfl
      | some b =>
        rw [hb] at h2
        have hb8 := (bsF_lt hb).1
        have hv3 : v3 = nI b := h2
        subst hv3
        rw [if_neg (show ¬ nI b = -1 from nI_ne_m1 (by omega)), ojChk_nI (show b < 8 by omega) (by decide), nI_clamp (by omega)]
        by_cases c2 : apt (τ 17 b) d ≤ apt (τ 17 t) d
        · rw [if_pos c2]
          refine Or.inl ⟨(nI b, nI t + 1, τ'), ⟨nI_1 t, ?_, fr⟩, rfl⟩
          dsimp only
          rw [bsF, if_pos p1, hb]
          dsimp only
          rw [if_pos c2]; rfl
        · rw [if_neg c2]
          refine Or.inl ⟨(nI t, nI t + 1, τ'), ⟨nI_1 t, ?_, fr⟩, rfl⟩
          dsimp only
          rw [bsF, if_pos p1, hb]
          dsimp only
          rw [if_neg c2]; rfl
    · rw [p2]
      simp only [ojB2_s, if00, ifT, ojLet_s]
      refine Or.inl ⟨(v3, nI t + 1, τ'), ⟨nI_1 t, ?_, fr⟩, rfl⟩
      dsimp only
      rw [bsF, if_neg p1]; exact h2
  · rintro r ⟨v3, v4, s⟩ ⟨h1, h2, h3⟩
    dsimp only at h1 h2 h3 ⊢
    subst h1
    rw [if_pos (show s 0 23 ≤ nI P by rw [h3 0 (by omega) (by omega), h23]; exact Int32.le_refl _), h2]
    exact ⟨s, h3, rfl⟩
theorem md_77 {τ : ojS} {P : Nat} {a1 d : Int32} {po : Nat → Prop} {o : Option Nat} (hP : P ≤ 8) (h23 : τ 0 23 = nI P) (ho : ∀ b, o = some b → b < P) (hno : o = none → ∀ i, i < P → ¬ po i) (hcd : ∀ τ1 : ojS, (∀ k, k ≠ 23 → k ≠ 24 → τ1 k = τ k) → ∀ i, i < P → ∃ τ', (∀ k, k ≠ 23 → k ≠ 24 → τ' k = τ1 k) ∧ ((po i ∧ f_X9_could (nI i) a1 τ1 = some (1, τ')) ∨ (¬ po i ∧ f_X9_could (nI i) a1 τ1 = some (0, τ')))) (bnd : Int32) (hbnd : ∀ b, o = some b → bnd = apt (τ 17 b) d + 5) :
    ∃ τ', (∀ k, k ≠ 23 → k ≠ 24 → τ' k = τ k) ∧ ((Dbt po (τ 17) d bnd P o ∧ f_X9_sample_74 a1 d (bsI o) τ = some (-2, τ')) ∨ (¬ Dbt po (τ 17) d bnd P o ∧ f_X9_sample_74 a1 d (bsI o) τ = some (bsI o, τ'))) := by
  unfold f_X9_sample_74 f_X9_sample_77
  refine ojFix_inv (bot := fun _ _ => none) (fun (r : Int32 → ojS → Option (Int32 × ojS)) (q : Int32 × ojS) => r q.1 q.2) _ (fun t q => q.1 = nI t ∧ (∀ k, k ≠ 23 → k ≠ 24 → q.2 k = τ k) ∧ ∀ i, i < t → ¬ (o ≠ some i ∧ po i ∧ ¬ bnd ≤ apt (τ 17 i) d)) (fun z => ∃ τ', (∀ k, k ≠ 23 → k ≠ 24 → τ' k = τ k) ∧ ((Dbt po (τ 17) d bnd P o ∧ z = some (-2, τ')) ∨ (¬ Dbt po (τ 17) d bnd P o ∧ z = some (bsI o, τ')))) P ?_ ?_ 600 0 (0, τ) (by omega) (by omega) ⟨rfl, fun _ _ _ => rfl, fun i hi => by omega⟩
  · rintro r t ⟨v4, s⟩ ht ⟨h1, h2, h3⟩
    dsimp only at h1 h2 h3 ⊢
    subst h1
    have t8 : t < 8 := by omega
    rw [if_neg (show ¬ s 0 23 ≤ nI t by rw [h2 0 (by omega) (by omega), h23]; exact nI_ge ht (by omega))]
    have nx : ∀ s' : ojS, (∀ k, k ≠ 23 → k ≠ 24 → s' k = τ k) → ¬ (o ≠ some t ∧ po t ∧ ¬ bnd ≤ apt (τ 17 t) d) → ∃ a' : Int32 × ojS, (a'.1 = nI (t + 1) ∧ (∀ k, k ≠ 23 → k ≠ 24 → a'.2 k = τ k) ∧ ∀ i, i < t + 1 → ¬ (o ≠ some i ∧ po i ∧ ¬ bnd ≤ apt (τ 17 i) d)) ∧ r (nI t + 1) s' = r a'.1 a'.2 := fun s' hs hn => ⟨(nI t + 1, s'), ⟨nI_1 t, hs, fun i hi => by
      by_cases e : i = t
      · subst e; exact hn
      · exact h3 i (by omega)⟩, rfl⟩
    by_cases c1 : nI t = bsI o
    · rw [if_pos c1]
      simp only [ojLet_s]
      exact Or.inl (nx s h2 (fun q => q.1 ((bsI_ne t8 (fun b hb => by have := ho b hb; omega)).mp c1)))
    · rw [if_neg c1]
      have c1' : o ≠ some t := fun q => c1 ((bsI_ne t8 (fun b hb => by have := ho b hb; omega)).mpr q)
      obtain ⟨τ', g1, g2⟩ := hcd s h2 t ht
      have fr : ∀ k, k ≠ 23 → k ≠ 24 → τ' k = τ k := fun k q1 q2 => by rw [g1 k q1 q2, h2 k q1 q2]
      have s17 : τ' 17 = τ 17 := fr 17 (by omega) (by omega)
      rcases g2 with ⟨p1, p2⟩ | ⟨p1, p2⟩
      · rw [p2]
        simp only [ojB2_s, if10, ifF, ojChk_nI t8 (by decide), nI_clamp (show t < 2 ^ 31 by omega), s17, apt_eq, ojB1_s, ojLet_s]
        cases hb : o with
        | none => exact absurd p1 (hno hb t ht)
        | some b =>
          have hbP := ho b hb
          have e5 := hbnd b hb
          rw [show bsI (some b) = nI b from rfl, ojChk_nI (show b < 8 by omega) (by decide), nI_clamp (by omega)]
          rw [hb] at nx c1'
          rw [← e5]
          by_cases c2 : bnd ≤ apt (τ 17 t) d
          · rw [if_pos c2]
            exact Or.inl (nx τ' fr (fun q => q.2.2 c2))
          · rw [if_neg c2]
            exact Or.inr ⟨τ', fr, Or.inl ⟨⟨t, ht, c1', p1, c2⟩, rfl⟩⟩
      · rw [p2]
        simp only [ojB2_s, if00, ifT, ojLet_s]
        exact Or.inl (nx τ' fr (fun q => p1 q.2.1))
  · rintro r ⟨v4, s⟩ ⟨h1, h2, h3⟩
    dsimp only at h1 h2 h3 ⊢
    subst h1
    rw [if_pos (show s 0 23 ≤ nI P by rw [h2 0 (by omega) (by omega), h23]; exact Int32.le_refl _)]
    exact ⟨s, h2, Or.inr ⟨fun ⟨i, hi, q⟩ => h3 i hi q, rfl⟩⟩
theorem st_sample {σ τ : ojS} (h : RRR σ τ) (a b : Int32) : ∃ (r : Int32) (τ' : ojS), f_X8_sample a b σ = some r ∧ f_X9_sample a b τ = some (r, τ') ∧ RRR σ τ' := by
  obtain ⟨N, S, K, P, hR⟩ := id h
  obtain ⟨hN, hS, hK, hP, hnet, hsky, hfs, hlq, hlo, haw, hfl, hskd, hhr, hpt, hbm, hsh⟩ := id hR
  have hP8 := hP.1
  have frR : ∀ τ', (∀ k, k ≠ 23 → k ≠ 24 → τ' k = τ k) → RR N S K P σ τ' := fun τ' f => RR_fr hR (fun _ _ _ => rfl) (fun k q1 q2 => f k (by omega) (by omega)) (fun j _ _ => by rw [f 0 (by omega) (by omega)])
  unfold f_X8_sample f_X9_sample
  rw [isWithin_eq]
  rcases in_cases b 0 999999 (by decide) (by decide) with e | ⟨vb, -, hb, rfl, e⟩
  · rw [show f_X9_in b 0 999999 = some 0 from e]
    rcases sea_cases hnet a with ⟨e1, -⟩ | ⟨c, hc, rfl, -, hsea, e1, -⟩
    · rw [e1]; exact ⟨-1, τ, rfl, rfl, h⟩
    · rw [e1]; exact ⟨-1, τ, rfl, rfl, h⟩
  rw [show f_X9_in (nI vb) 0 999999 = some 1 from e]
  simp only [ojB1_s, if10, ifF]
  rcases sea_cases hnet a with ⟨e1, e2⟩ | ⟨c, hc, rfl, -, hsea, e1, e2⟩
  · rw [e1]
    simp only [ojB1_s, if00, ifT]
    have hcd : ∀ τ1 : ojS, (∀ k, k ≠ 23 → k ≠ 24 → τ1 k = τ k) → ∀ i, i < P → ∃ τ', (∀ k, k ≠ 23 → k ≠ 24 → τ' k = τ1 k) ∧ ((False ∧ f_X9_could (nI i) a τ1 = some (1, τ')) ∨ (¬ False ∧ f_X9_could (nI i) a τ1 = some (0, τ'))) := by
      intro τ1 f i hi
      refine ⟨τ1, fun _ _ _ => rfl, Or.inr ⟨fun q => q, ?_⟩⟩
      unfold f_X9_could
      have es : f_X9_isSea a τ1 = some 0 := by
        rw [← e2]; unfold f_X9_isSea; rw [f 1 (by omega) (by omega)]
      rw [f 0 (by omega) (by omega), hP.2.2, es]
      rcases in_pm1 (nI i) P hP8 with q | ⟨v, -, -, q⟩
      · rw [q]; rfl
      · rw [q]; rfl
    obtain ⟨τ1, a1, a2⟩ := md_17 (τ := τ) (P := P) (a1 := a) (d := nI vb) (po := fun _ => False) hP8 hP.2.2 hcd
    have hn : bsF (fun _ => False) (τ 17) (nI vb) P = none := by
      cases hq : bsF (fun _ => False) (τ 17) (nI vb) P with
      | none => rfl
      | some x => exact absurd (bsF_lt hq).2 (fun z => z)
    rw [hn] at a2
    rw [a2]
    obtain ⟨τ2, b1, b2⟩ := md_77 (τ := τ1) (P := P) (a1 := a) (d := nI vb) (po := fun _ => False) (o := none) hP8 (by rw [a1 0 (by omega) (by omega)]; exact hP.2.2) (fun b q => by cases q) (fun _ i _ q => q) (fun τ3 f => hcd τ3 (fun k q1 q2 => by rw [f k q1 q2, a1 k q1 q2])) 0 (fun b q => by cases q)
    rcases b2 with ⟨q, -⟩ | ⟨-, q⟩
    · obtain ⟨i, -, -, z, -⟩ := q
      exact absurd z (fun z => z)
    · rw [q]
      exact ⟨-1, τ2, rfl, rfl, N, S, K, P, frR τ2 (fun k q1 q2 => by rw [b1 k q1 q2, a1 k q1 q2])⟩
  · rw [e1]
    simp only [ojB1_s, if10, ifF]
    have hpo : ∀ i, i < P → (σ (39 + i) c = 1 ∧ σ (39 + i) c = 1) ∨ (¬ σ (39 + i) c = 1 ∧ σ (39 + i) c = 0) := fun i hi => by
      obtain ⟨-, -, m, hh, aa, -, -, -, -, -, -, -, f8⟩ := (hsh i (by omega)).1 hi
      by_cases q : rch (τ 1) (τ 3) aa hh (N - hh) c
      · exact Or.inl ⟨(f8 c hc).1 q, (f8 c hc).1 q⟩
      · have := (f8 c hc).2 q
        exact Or.inr ⟨by rw [this]; decide, this⟩
    have hmk : ∀ i, i < P → σ (31 + i) 0 = τ 17 i := fun i hi => ((hsh i (by omega)).1 hi).1
    have hcd : ∀ τ1 : ojS, (∀ k, k ≠ 23 → k ≠ 24 → τ1 k = τ k) → ∀ i, i < P → ∃ τ', (∀ k, k ≠ 23 → k ≠ 24 → τ' k = τ1 k) ∧ ((σ (39 + i) c = 1 ∧ f_X9_could (nI i) (nI c) τ1 = some (1, τ')) ∨ (¬ σ (39 + i) c = 1 ∧ f_X9_could (nI i) (nI c) τ1 = some (0, τ'))) := by
      intro τ1 f i hi
      obtain ⟨τ', q1, q2⟩ := md_could (frR τ1 f) hi hc (by rw [f 1 (by omega) (by omega)]; exact hsea)
      refine ⟨τ', q1, ?_⟩
      rcases q2 with ⟨z1, z2⟩ | ⟨z1, z2⟩
      · exact Or.inl ⟨z1, z2⟩
      · exact Or.inr ⟨by rw [z1]; decide, z2⟩
    obtain ⟨v, v1, v2⟩ := ow_31 (σ := σ) (P := P) (c := c) (po := fun i => σ (39 + i) c = 1) (d := nI vb) hP8 hP.2.1 hc hpo
    obtain ⟨τ1, a1, a2⟩ := md_17 (τ := τ) (P := P) (a1 := nI c) (d := nI vb) (po := fun i => σ (39 + i) c = 1) hP8 hP.2.2 hcd
    rw [v2, a2]
    have eb : bsF (fun i => σ (39 + i) c = 1) (fun i => σ (31 + i) 0) (nI vb) P = bsF (fun i => σ (39 + i) c = 1) (τ 17) (nI vb) P := bsF_congr hmk
    rw [eb] at v1 ⊢
    generalize ho : bsF (fun i => σ (39 + i) c = 1) (τ 17) (nI vb) P = o at v1 ⊢
    have hob : ∀ b, o = some b → b < P := fun b q => (bsF_lt (ho.trans q)).1
    obtain ⟨τ2, b1, b2⟩ := md_77 (τ := τ1) (P := P) (a1 := nI c) (d := nI vb) (po := fun i => σ (39 + i) c = 1) (o := o) hP8 (by rw [a1 0 (by omega) (by omega)]; exact hP.2.2) hob (fun q => bsF_none (ho.trans q)) (fun τ3 f => hcd τ3 (fun k q1 q2 => by rw [f k q1 q2, a1 k q1 q2])) (v + 5) (fun b q => by rw [v1 b q, hmk b (hob b q), a1 17 (by omega) (by omega)])
    rw [a1 17 (by omega) (by omega)] at b2
    have hR2 : RRR σ τ2 := ⟨N, S, K, P, frR τ2 (fun k q1 q2 => by rw [b1 k q1 q2, a1 k q1 q2])⟩
    rcases ow_doubt (σ := σ) (P := P) (c := c) (po := fun i => σ (39 + i) c = 1) (d := nI vb) (bnd := v + 5) (o := o) hP8 hP.2.1 hc hpo (fun b q => by have := hob b q; omega) with ⟨d1, d2⟩ | ⟨d1, d2⟩
    · rw [d2]
      simp only [ojB1_s, if10, ifF]
      rcases b2 with ⟨-, q⟩ | ⟨q, -⟩
      · rw [q]; exact ⟨-2, τ2, rfl, rfl, hR2⟩
      · exact absurd ((Dbt_congr hmk).mp d1) q
    · rw [d2]
      simp only [ojB1_s, if00, ifT]
      rcases b2 with ⟨q, -⟩ | ⟨-, q⟩
      · exact absurd ((Dbt_congr hmk).mpr q) d1
      · rw [q]; exact ⟨_, τ2, rfl, rfl, hR2⟩
