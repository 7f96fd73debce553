theorem m226_page {τ : ojS} : f_X9_hour_226 τ = f_X9_hour_262 (nI (page (τ 0 0 - τ 0 10))) τ := by
  unfold f_X9_hour_226 page
  simp only [ojLet_s]
  by_cases h1 : 12 ≤ τ 0 0 - τ 0 10
  · rw [if_pos h1, if_pos h1]
    by_cases h2 : 48 ≤ τ 0 0 - τ 0 10
    · rw [if_pos h2, if_pos h2]; exact congrArg (fun z => f_X9_hour_262 z τ) (rfl : (2 : Int32) = nI 2)
    · rw [if_neg h2, if_neg h2]; exact congrArg (fun z => f_X9_hour_262 z τ) (rfl : (10 : Int32) = nI 10)
  · rw [if_neg h1, if_neg h1]; exact congrArg (fun z => f_X9_hour_262 z τ) (rfl : (30 : Int32) = nI 30)
theorem long_loss {a p : Nat} (ha : a ≤ 1000000) (hp : p ≤ 30) : (((nI a).toInt64 * (nI p).toInt64) / 1000).toInt32 = nI (a * p / 1000) := by
  have hmul : a * p ≤ 1000000 * 30 := Nat.mul_le_mul ha hp
  rw [nI_l (by omega), nI_l (by omega), lN_mul, show (1000 : Int64) = lN 1000 from rfl, pk_lDiv (by omega) (by decide) (by decide), lN_i]
theorem md_lose {τ : ojS} {p : Nat} {L L1 : Nat → Nat} (hp : p ≤ 30) (hr : ∀ c, c < 96 → ∃ v, v ≤ 9 ∧ τ 1 c = nI v) (hL : ∀ c, c < 96 → τ 2 c = nI (L c)) (hD : ∀ x, x < 96 → nI (L x) + τ 21 x = nI (L1 x)) (hb : ∀ c, c < 96 → L1 c ≤ 1000000) :
    ∃ τ', f_X9_hour_262 (nI p) τ = f_X9_hour_352 τ' ∧ (∀ k, k ≠ 2 → k ≠ 0 → τ' k = τ k) ∧ (∀ j, j ≠ 11 → τ' 0 j = τ 0 j) ∧ τ' 0 11 = τ 0 11 + isum (fun c => nI (lsa (τ 1) p L1 c)) 96 ∧ ∀ x, x < 96 → τ' 2 x = nI (lsf (τ 1) p L1 x) := by
  unfold f_X9_hour_262 f_X9_hour_267
  refine ojFix_inv (bot := fun _ _ => none) (fun (r : Int32 → ojS → Option ojS) (a : Int32 × ojS) => r a.1 a.2) _ (fun t a => a.1 = nI t ∧ (∀ k, k ≠ 2 → k ≠ 0 → a.2 k = τ k) ∧ (∀ j, j ≠ 11 → a.2 0 j = τ 0 j) ∧ a.2 0 11 = τ 0 11 + isum (fun c => nI (lsa (τ 1) p L1 c)) t ∧ ∀ x, x < 96 → a.2 2 x = nI (if x < t then lsf (τ 1) p L1 x else L x)) (fun z => ∃ τ', z = f_X9_hour_352 τ' ∧ (∀ k, k ≠ 2 → k ≠ 0 → τ' k = τ k) ∧ (∀ j, j ≠ 11 → τ' 0 j = τ 0 j) ∧ τ' 0 11 = τ 0 11 + isum (fun c => nI (lsa (τ 1) p L1 c)) 96 ∧ ∀ x, x < 96 → τ' 2 x = nI (lsf (τ 1) p L1 x)) 96 ?_ ?_ 600 0 (0, τ) (by decide) (by decide) ⟨rfl, fun _ _ _ => rfl, fun _ _ => rfl, by rw [isum, Int32.add_zero], fun x hx => by show τ 2 x = _; rw [hL x hx, if_neg (Nat.not_lt_zero _)]⟩
  · rintro r t ⟨i, s⟩ ht ⟨h1, h2, h3, h4, h5⟩
    dsimp only at h1 h2 h3 h4 h5 ⊢
    subst h1
    have cur : s 2 t = nI (L t) := by rw [h5 t ht, if_neg (Nat.lt_irrefl t)]
    have s21 : s 21 = τ 21 := h2 21 (by omega) (by omega)
    have s1 : s 1 = τ 1 := h2 1 (by omega) (by omega)
    have lt1 : ∀ x, x ≠ t → ∀ a b : Nat, (if x < t + 1 then a else b) = if x < t then a else b := fun x hx a b => by
      by_cases q : x < t
      · rw [if_pos q, if_pos (by omega)]
      · rw [if_neg q, if_neg (by omega)]
    have hbt := hb t ht
    simp only [if_neg (ge_96 ht), ojChk_nI ht (by decide), nI_clamp (show t < 2 ^ 31 by omega), ojLet_s, cur, s21, hD t ht]
    have u1 : ojU s 2 t (nI (L1 t)) 1 = τ 1 := by rw [ojU_ne (by decide), s1]
    have u2 : ojU s 2 t (nI (L1 t)) 2 t = nI (L1 t) := by rw [ojU_eq, upd_eq]
    simp only [u1, u2, long_loss hbt hp]
    have hmul : L1 t * p ≤ 1000000 * 30 := Nat.mul_le_mul hbt hp
    have hle : L1 t * p / 1000 ≤ L1 t := by
      apply Nat.div_le_of_le_mul
      calc L1 t * p ≤ L1 t * 1000 := Nat.mul_le_mul_left _ (by omega)
        _ = 1000 * L1 t := Nat.mul_comm _ _
    by_cases hsea : τ 1 t = 0
    · rw [if_pos ((rank_le (hr t ht)).mpr hsea)]
      refine Or.inl ⟨(nI t + 1, ojU (ojU (ojU s 2 t (nI (L1 t))) 2 t (nI (L1 t) - nI (L1 t * p / 1000))) 0 11 (ojU (ojU s 2 t (nI (L1 t))) 2 t (nI (L1 t) - nI (L1 t * p / 1000)) 0 11 + nI (L1 t * p / 1000))), ⟨nI_1 t, fun k q1 q2 => ?_, fun j hj => ?_, ?_, fun x hx => ?_⟩, rfl⟩
      · dsimp only
        rw [ojU_ne q2, ojU_ne q1, ojU_ne q1, h2 k q1 q2]
      · dsimp only
        rw [ojU_eq, upd_ne hj, ojU_ne (by omega), ojU_ne (by omega), h3 j hj]
      · dsimp only
        rw [ojU_eq, upd_eq, ojU_ne (by omega), ojU_ne (by omega), h4, isum, Int32.add_assoc]
        show _ = _ + (_ + nI (lsa (τ 1) p L1 t))
        rw [lsa, if_pos hsea]
      · dsimp only
        rw [ojU_ne (by omega), ojU_eq]
        by_cases e : x = t
        · subst e
          rw [upd_eq, if_pos (by omega), lsf, if_pos hsea, pk_sub hle]
        · rw [upd_ne e, ojU_eq, upd_ne e, h5 x hx, lt1 x e]
    · rw [if_neg (fun q => hsea ((rank_le (hr t ht)).mp q))]
      refine Or.inl ⟨(nI t + 1, ojU s 2 t (nI (L1 t))), ⟨nI_1 t, fun k q1 q2 => ?_, fun j hj => ?_, ?_, fun x hx => ?_⟩, rfl⟩
      · dsimp only
        rw [ojU_ne q1, h2 k q1 q2]
      · dsimp only
        rw [ojU_ne (by omega), h3 j hj]
      · dsimp only
        rw [ojU_ne (by omega), h4, isum]
        show _ = _ + (_ + nI (lsa (τ 1) p L1 t))
        rw [lsa, if_neg hsea, nI_add0]
      · dsimp only
        rw [ojU_eq]
        by_cases e : x = t
        · subst e
          rw [upd_eq, if_pos (by omega), lsf, if_neg hsea]
        · rw [upd_ne e, h5 x hx, lt1 x e]
  · rintro r ⟨i, s⟩ ⟨h1, h2, h3, h4, h5⟩
    dsimp only at h1 h2 h3 h4 h5 ⊢
    subst h1
    rw [if_pos (show (96 : Int32) ≤ nI 96 by decide)]
    exact ⟨s, rfl, h2, h3, h4, fun x hx => by rw [h5 x hx, if_pos hx]⟩
theorem md_450 {τ : ojS} {rec : Int32 → ojS → Option ojS} {i c v : Nat} (hi : i < 4) (hc : c < 96) (ha : τ 9 i = nI c) : f_X9_hour_450 rec (nI i) (nI v) τ = rec (nI i + 1) (ojU (ojU (ojU (ojU τ 2 c (τ 2 c - nI v)) 13 i (τ 13 i + nI v)) 14 i (τ 14 i + nI v)) 0 13 (τ 0 13 + nI v)) := by
  unfold f_X9_hour_450
  simp only [ojChk_nI hi (by decide), nI_clamp (show i < 2 ^ 31 by omega), ha, ojChk_nI hc (by decide), nI_clamp (show c < 2 ^ 31 by omega), ojLet_s]
  rw [ojU_ne (show 13 ≠ 2 by decide), ojU_ne (show 14 ≠ 13 by decide), ojU_ne (show 14 ≠ 2 by decide), ojU_ne (show 0 ≠ 14 by decide), ojU_ne (show 0 ≠ 13 by decide), ojU_ne (show 0 ≠ 2 by decide)]
theorem md_pick {τ : ojS} {rec : Int32 → ojS → Option ojS} {i c : Nat} {rt rm ld L : Nat → Nat} (hi : i < 4) (hc : c < 96) (ha : τ 9 i = nI c) (h1 : τ 10 i = nI (rt i)) (h2 : τ 11 i = nI (rm i)) (h3 : τ 13 i = nI (ld i)) (h4 : τ 2 c = nI (L c)) (b1 : rt i ≤ 5000) (b2 : rm i ≤ 100000) (b3 : ld i ≤ rm i) (b4 : L c ≤ 1000000) :
    (if τ 10 i ≤ τ 2 c then f_X9_hour_408 rec (nI i) (τ 10 i) τ else f_X9_hour_408 rec (nI i) (τ 2 c) τ) = f_X9_hour_450 rec (nI i) (nI (tkn rt rm ld L i c)) τ := by
  have e408 : ∀ v : Nat, v ≤ 1000000 → f_X9_hour_408 rec (nI i) (nI v) τ = f_X9_hour_450 rec (nI i) (nI (min v (rm i - ld i))) τ := by
    intro v hv
    unfold f_X9_hour_408
    simp only [ojChk_nI hi (by decide), nI_clamp (show i < 2 ^ 31 by omega), h2, h3, pk_sub b3]
    by_cases q : rm i - ld i ≤ v
    · rw [if_pos (nI_le q (by omega)), Nat.min_eq_right q]
    · rw [if_neg (fun z => q ((nI_leI (by omega) (by omega)).mp z)), Nat.min_eq_left (by omega)]
  rw [h1, h4]
  by_cases q : rt i ≤ L c
  · rw [if_pos (nI_le q (by omega)), e408 _ (by omega)]
    refine congrArg (fun z => f_X9_hour_450 rec (nI i) (nI z) τ) ?_
    unfold tkn; omega
  · rw [if_neg (fun z => q ((nI_leI (by omega) (by omega)).mp z)), e408 _ b4]
    refine congrArg (fun z => f_X9_hour_450 rec (nI i) (nI z) τ) ?_
    unfold tkn; omega
theorem md_skim {τ : ojS} {at_ rt rm : Nat → Nat} {K : Nat} (hK : K ≤ 4) (hk : τ 0 14 = nI K) (hf : ∀ i, i < K → τ 9 i = nI (at_ i) ∧ τ 10 i = nI (rt i) ∧ τ 11 i = nI (rm i) ∧ at_ i < 96 ∧ rt i ≤ 5000 ∧ rm i ≤ 100000) {L ld : Nat → Nat} (hL : ∀ c, c < 96 → τ 2 c = nI (L c)) (hD : ∀ i, i < 4 → τ 13 i = nI (ld i)) (hb : ∀ c, c < 96 → L c ≤ 1000000) (hl : ∀ i, i < K → ld i ≤ rm i) :
    ∃ τ', f_X9_hour_352 τ = some τ' ∧ (∀ k, k ≠ 0 → k ≠ 2 → k ≠ 13 → k ≠ 14 → τ' k = τ k) ∧ (∀ j, j ≠ 0 → j ≠ 13 → τ' 0 j = τ 0 j) ∧ τ' 0 0 = τ 0 0 + 1 ∧ τ' 0 13 = τ 0 13 + nI (nsum (fun j => (skN at_ rt rm K 0 L ld).2 j - ld j) 4) ∧ (∀ x, x < 96 → τ' 2 x = nI ((skN at_ rt rm K 0 L ld).1 x)) ∧ (∀ i, i < 4 → τ' 13 i = nI ((skN at_ rt rm K 0 L ld).2 i)) ∧ ∀ i, i < 4 → τ' 14 i = τ 14 i + nI ((skN at_ rt rm K 0 L ld).2 i - ld i) := by
  unfold f_X9_hour_352 f_X9_hour_355
  refine ojFix_inv (bot := fun _ _ => none) (fun (r : Int32 → ojS → Option ojS) (a : Int32 × ojS) => r a.1 a.2) _ (fun t a => a.1 = nI t ∧ (∀ k, k ≠ 0 → k ≠ 2 → k ≠ 13 → k ≠ 14 → a.2 k = τ k) ∧ (∀ j, j ≠ 13 → a.2 0 j = τ 0 j) ∧ ∃ L1 l1 : Nat → Nat, skN at_ rt rm (K - t) t L1 l1 = skN at_ rt rm K 0 L ld ∧ (∀ c, c < 96 → a.2 2 c = nI (L1 c)) ∧ (∀ i, i < 4 → a.2 13 i = nI (l1 i)) ∧ (∀ c, c < 96 → L1 c ≤ 1000000) ∧ (∀ i, t ≤ i → i < K → l1 i ≤ rm i) ∧ (∀ i, ld i ≤ l1 i) ∧ (∀ i, i < 4 → a.2 14 i = τ 14 i + nI (l1 i - ld i)) ∧ a.2 0 13 = τ 0 13 + nI (nsum (fun j => l1 j - ld j) 4)) (fun z => ∃ τ', z = some τ' ∧ (∀ k, k ≠ 0 → k ≠ 2 → k ≠ 13 → k ≠ 14 → τ' k = τ k) ∧ (∀ j, j ≠ 0 → j ≠ 13 → τ' 0 j = τ 0 j) ∧ τ' 0 0 = τ 0 0 + 1 ∧ τ' 0 13 = τ 0 13 + nI (nsum (fun j => (skN at_ rt rm K 0 L ld).2 j - ld j) 4) ∧ (∀ x, x < 96 → τ' 2 x = nI ((skN at_ rt rm K 0 L ld).1 x)) ∧ (∀ i, i < 4 → τ' 13 i = nI ((skN at_ rt rm K 0 L ld).2 i)) ∧ ∀ i, i < 4 → τ' 14 i = τ 14 i + nI ((skN at_ rt rm K 0 L ld).2 i - ld i)) K ?_ ?_ 600 0 (0, τ) (by omega) (by omega) ⟨rfl, fun _ _ _ _ _ => rfl, fun _ _ => rfl, L, ld, rfl, hL, hD, hb, fun i _ h => hl i h, fun i => Nat.le_refl _, fun i _ => by show τ 14 i = _; rw [Nat.sub_self, nI_add0], by show τ 0 13 = _; rw [nsum_zero (fun j _ => Nat.sub_self _), nI_add0]⟩
  · rintro r t ⟨i, s⟩ ht ⟨h1, h2, h3, L1, l1, g1, g2, g3, g4, g5, g6, g7, g8⟩
    dsimp only at h1 h2 h3 g2 g3 g7 g8 ⊢
    subst h1
    have t4 : t < 4 := by omega
    obtain ⟨f1, f2, f3, f4, f5, f6⟩ := hf t ht
    have s9 : s 9 = τ 9 := h2 9 (by omega) (by omega) (by omega) (by omega)
    have s10 : s 10 = τ 10 := h2 10 (by omega) (by omega) (by omega) (by omega)
    have s11 : s 11 = τ 11 := h2 11 (by omega) (by omega) (by omega) (by omega)
    have e14 : s 0 14 = nI K := by rw [h3 14 (by omega), hk]
    rw [if_neg (show ¬ s 0 14 ≤ nI t by rw [e14]; exact nI_ge ht (by omega))]
    simp only [ojChk_nI t4 (by decide), nI_clamp (show t < 2 ^ 31 by omega), s9, f1, ojChk_nI f4 (by decide), nI_clamp (show at_ t < 2 ^ 31 by omega)]
    rw [md_pick (rt := rt) (rm := rm) (ld := l1) (L := L1) t4 f4 (by rw [s9]; exact f1) (by rw [s10]; exact f2) (by rw [s11]; exact f3) (g3 t t4) (g2 _ f4) f5 f6 (g5 t (Nat.le_refl _) ht) (g4 _ f4), md_450 t4 f4 (by rw [s9]; exact f1)]
    have hg6 := g6 t
    refine Or.inl ⟨(nI t + 1, ojU (ojU (ojU (ojU s 2 (at_ t) (s 2 (at_ t) - nI (tkn rt rm l1 L1 t (at_ t)))) 13 t (s 13 t + nI (tkn rt rm l1 L1 t (at_ t)))) 14 t (s 14 t + nI (tkn rt rm l1 L1 t (at_ t)))) 0 13 (s 0 13 + nI (tkn rt rm l1 L1 t (at_ t)))), ⟨nI_1 _, fun k q1 q2 q3 q4 => ?_, fun j hj => ?_, skL at_ rt rm L1 l1 t, skD at_ rt rm L1 l1 t, ?_, fun c hc => ?_, fun j hj => ?_, fun c hc => ?_, fun j j1 j2 => ?_, fun j => ?_, fun j hj => ?_, ?_⟩, rfl⟩
    · dsimp only
      rw [ojU_ne q1, ojU_ne q4, ojU_ne q3, ojU_ne q2, h2 k q1 q2 q3 q4]
    · dsimp only
      rw [ojU_eq, upd_ne hj, ojU_ne (by omega), ojU_ne (by omega), ojU_ne (by omega), h3 j hj]
    · rw [← g1, show K - t = (K - (t + 1)) + 1 by omega]
      rfl
    · dsimp only
      rw [ojU_ne (by omega), ojU_ne (by omega), ojU_ne (by omega), ojU_eq, skL]
      by_cases e : c = at_ t
      · rw [e, upd_eq, if_pos rfl, g2 _ f4, pk_sub (by unfold tkn; omega)]
      · rw [upd_ne e, if_neg e, g2 c hc]
    · dsimp only
      rw [ojU_ne (by omega), ojU_ne (by omega), ojU_eq, ojU_ne (show 13 ≠ 2 by decide), skD]
      by_cases e : j = t
      · rw [e, upd_eq, if_pos rfl, g3 _ t4, nI_add]
      · rw [upd_ne e, if_neg e, g3 j hj]
    · unfold skL
      have := g4 c hc
      split <;> omega
    · unfold skD
      rw [if_neg (by omega)]
      exact g5 j (by omega) j2
    · unfold skD
      have := g6 j
      split <;> omega
    · dsimp only
      rw [ojU_ne (by omega), ojU_eq, ojU_ne (show 14 ≠ 13 by decide), ojU_ne (show 14 ≠ 2 by decide), skD]
      by_cases e : j = t
      · rw [e, upd_eq, if_pos rfl, g7 _ t4, Int32.add_assoc, nI_add]
        refine congrArg (fun z => τ 14 t + nI z) ?_
        omega
      · rw [upd_ne e, if_neg e, g7 j hj]
    · dsimp only
      rw [ojU_eq, upd_eq, g8, Int32.add_assoc, nI_add]
      refine congrArg (fun z => τ 0 13 + nI z) ?_
      have : nsum (fun x => if x = t then (l1 x - ld x) + tkn rt rm l1 L1 t (at_ t) else l1 x - ld x) 4 = nsum (fun j => l1 j - ld j) 4 + tkn rt rm l1 L1 t (at_ t) := by
        rw [nsum_upd (L := fun j => l1 j - ld j), if_pos t4]
      rw [← this]
      refine nsum_congr (fun j _ => ?_)
      unfold skD
      by_cases e : j = t
      · rw [if_pos e, if_pos e, e]; omega
      · rw [if_neg e, if_neg e]
  · rintro r ⟨i, s⟩ ⟨h1, h2, h3, L1, l1, g1, g2, g3, g4, g5, g6, g7, g8⟩
    dsimp only at h1 h2 h3 g2 g3 g7 g8 ⊢
    subst h1
    have e14 : s 0 14 = nI K := by rw [h3 14 (by omega), hk]
    rw [if_pos (show s 0 14 ≤ nI K by rw [e14]; exact Int32.le_refl _)]
    rw [Nat.sub_self] at g1
    rw [← g1]
    simp only [ojLet_s]
    refine ⟨ojU s 0 0 (s 0 0 + 1), rfl, fun k q1 q2 q3 q4 => by rw [ojU_ne q1, h2 k q1 q2 q3 q4], fun j q1 q2 => by rw [ojU_eq, upd_ne q1, h3 j q2], by rw [ojU_eq, upd_eq, h3 0 (by omega)], by rw [ojU_eq, upd_ne (by decide)]; exact g8, fun x hx => by rw [ojU_ne (by decide)]; exact g2 x hx, fun i hi => by rw [ojU_ne (by decide)]; exact g3 i hi, fun i hi => by rw [ojU_ne (by decide)]; exact g7 i hi⟩
