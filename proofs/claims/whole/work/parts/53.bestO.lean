def SO (τ : ojS) (N K s d : Nat) (at_ rt rm : Nat → Nat) (fs : Int32) (σ : ojS) : Prop := EV K σ τ ∧ FO K at_ rt rm σ ∧ σ 0 10 = nI N ∧ σ 0 12 = fs ∧ σ (15 + s) 3 = nI d
theorem SO_fr {τ : ojS} {N K s d : Nat} {at_ rt rm : Nat → Nat} {fs : Int32} {σ σ' : ojS} (hs : s < 4) (h : SO τ N K s d at_ rt rm fs σ) (e : ∀ j, j ≠ 12 → j < 20 → σ' j = σ j) : SO τ N K s d at_ rt rm fs σ' := by
  obtain ⟨h1, h2, h3, h4, h5⟩ := h
  have hK := h1.2.2.2.1
  refine ⟨EV_fr h1 (e 2 (by omega) (by omega)) (e 8 (by omega) (by omega)) (e 3 (by omega) (by omega)) (e 4 (by omega) (by omega)) (e 5 (by omega) (by omega)) (e 6 (by omega) (by omega)) (e 9 (by omega) (by omega)) rfl rfl rfl rfl rfl rfl rfl rfl, fun i hi => ?_, ?_, ?_, ?_⟩
  · rw [e (15 + i) (by omega) (by omega)]; exact h2 i hi
  · rw [e 0 (by omega) (by omega)]; exact h3
  · rw [e 0 (by omega) (by omega)]; exact h4
  · rw [e (15 + s) (by omega) (by omega)]; exact h5
def Fk (k : Nat) (σ σ' : ojS) : Prop := ∀ j, j ≠ 12 → ¬ (20 + k ≤ j ∧ j ≤ 22) → ¬ (24 + k ≤ j ∧ j ≤ 26) → ¬ (28 + k ≤ j ∧ j ≤ 30) → σ' j = σ j
def SB (s n : Nat) (b : Nat × Int32) (σ : ojS) : Prop := σ 12 0 = nI s ∧ σ 12 1 = nI n ∧ σ 12 3 = mI b.1 ∧ σ 12 4 = b.2
theorem ow_sfrom {τ : ojS} {N K s d n k r c t : Nat} {at_ rt rm : Nat → Nat} {fs fi : Int32} {p : (Nat → Nat) × (Nat → Nat)} {b : Nat × Int32} {σ : ojS} {rec0 : Int32 → Int32 → Int32 → ojS → Option ojS} {R : Nat → Nat → Prop}
    (hs : s < K) (hkn : k + r + 1 = n) (hn : n ≤ 3) (hc : c < 96) (hok : okp K rm p) (hSO : SO τ N K s d at_ rt rm fs σ)
    (hL : ∀ x, x < 96 → σ (23 + (1 + k)) x = nI ((prt τ N s at_ rt rm fs k p).1 x)) (hD : ∀ i, i < 4 → σ (27 + (1 + k)) i = nI ((prt τ N s at_ rt rm fs k p).2 i))
    (hB : SB s n b σ) (h2 : k ≠ 0 → σ 12 2 = fi) (hb : r = 0 → b.1 < t + 1)
    (IH : r ≠ 0 → ∀ σ2, SO τ N K s d at_ rt rm fs σ2 → (∀ x, x < 96 → σ2 (23 + (1 + (k + 1))) x = nI ((nxt τ N K s at_ rt rm fs k p c).1 x)) → (∀ i, i < 4 → σ2 (27 + (1 + (k + 1))) i = nI ((nxt τ N K s at_ rt rm fs k p c).2 i)) → SB s n b σ2 → σ2 12 2 = (if k = 0 then nI c else fi) → ∃ σ', rec0 (nI (k + 1)) (nI c) (nI t) σ2 = some σ' ∧ Fk (k + 1) σ2 σ' ∧ SB s n (srch R (nxt τ N K s at_ rt rm fs) s r c (k + 1) (nxt τ N K s at_ rt rm fs k p c) t (if k = 0 then nI c else fi) b) σ' ∧ σ' 12 2 = (if k = 0 then nI c else fi)) :
    ∃ σ', f_X8_searchFrom rec0 (nI k) (nI c) (nI t) σ = some σ' ∧ Fk (k + 1) σ σ' ∧ SB s n (srch R (nxt τ N K s at_ rt rm fs) s r c (k + 1) (nxt τ N K s at_ rt rm fs k p c) t (if k = 0 then nI c else fi) b) σ' ∧ (k ≠ 0 → σ' 12 2 = fi) := by
  have hK4 : K ≤ 4 := hSO.1.2.2.2.1
  have main : ∀ σ1 : ojS, (∀ j, j ≠ 12 → σ1 j = σ j) → SB s n b σ1 → σ1 12 2 = (if k = 0 then nI c else fi) → ∃ σ', f_X8_searchFrom_12 rec0 (nI k) (nI c) (nI t) σ1 = some σ' ∧ Fk (k + 1) σ σ' ∧ SB s n (srch R (nxt τ N K s at_ rt rm fs) s r c (k + 1) (nxt τ N K s at_ rt rm fs k p c) t (if k = 0 then nI c else fi) b) σ' ∧ σ' 12 2 = (if k = 0 then nI c else fi) := by
    intro σ1 e1 hB1 e2
    obtain ⟨b0, b1, b3, b4⟩ := hB1
    unfold f_X8_searchFrom_12
    simp only [ojLet_s, nI_1]
    by_cases hr : r = 0
    · rw [if_pos (show σ1 12 1 ≤ nI (k + 1) by rw [b1]; exact nI_le (by omega) (by omega))]
      refine ⟨_, rfl, fun j q1 _ _ _ => by rw [ojU_ne q1, ojU_ne q1, e1 j q1], ?_, ?_⟩
      · subst hr
        rw [srch_0, if_pos (hb rfl)]
        refine ⟨?_, ?_, ?_, ?_⟩
        · rw [ojU_eq, upd_ne (by decide), ojU_eq, upd_ne (by decide)]; exact b0
        · rw [ojU_eq, upd_ne (by decide), ojU_eq, upd_ne (by decide)]; exact b1
        · rw [ojU_eq, upd_ne (by decide), ojU_eq, upd_eq, mI_s]
        · rw [ojU_eq, upd_eq, ojU_eq, upd_ne (by decide), e2]
      · rw [ojU_eq, upd_ne (by decide), ojU_eq, upd_ne (by decide)]; exact e2
    · rw [if_neg (show ¬ σ1 12 1 ≤ nI (k + 1) by rw [b1]; exact nI_ge (by omega) (by omega)), if_pos (show nI (k + 1) < 3 from nI_lt (b := 3) (by omega) (by decide))]
      simp only [ojChk_nI (show k + 1 < 3 by omega) (by decide), ojChk_nI (show k < 3 by omega) (by decide), nI_clamp (show k + 1 < 2 ^ 31 by omega), nI_clamp (show k < 2 ^ 31 by omega)]
      obtain ⟨σ7, a1, a2, a3, a4⟩ := ow_become (σ := σ1) (n0 := 1 + (k + 1)) (n1 := 1 + k) (by omega) (by omega)
      rw [a1]
      simp only [ojBv_s]
      have s12 : σ7 12 = σ1 12 := a2 12 (by omega) (by omega) (by omega)
      have sst : ∀ j, j ≠ 12 → j < 20 → σ7 j = σ j := fun j q1 q2 => by rw [a2 j (by omega) (by omega) (by omega), e1 j q1]
      have SO7 : SO τ N K s d at_ rt rm fs σ7 := SO_fr (by omega) hSO sst
      have hL7 : ∀ x, x < 96 → σ7 (23 + (1 + (k + 1))) x = nI ((prt τ N s at_ rt rm fs k p).1 x) := fun x hx => by rw [a3 x hx, e1 _ (by omega)]; exact hL x hx
      have hD7 : ∀ i, i < 4 → σ7 (27 + (1 + (k + 1))) i = nI ((prt τ N s at_ rt rm fs k p).2 i) := fun i hi => by rw [a4 i hi, e1 _ (by omega)]; exact hD i hi
      obtain ⟨f1, f2, f3, f4, f5, f6⟩ := SO7.2.1 s hs
      have hokq := okp_prt (τ := τ) (N := N) (s := s) (at_ := at_) (rt := rt) (fs := fs) (k := k) hok
      have tk := ow_take (σ := σ7) (n := 1 + (k + 1)) (i := s) (c := c) (rt := rt) (rm := rm) (ld := (prt τ N s at_ rt rm fs k p).2) (L := (prt τ N s at_ rt rm fs k p).1) (by omega) hc f2 f3 (hD7 s (by omega)) (hL7 c hc) f5 f6 (hokq.2 s hs) (nsum_bd hokq.1 hc)
      rw [s12, b0, tk]
      simp only [ojBv_s]
      have t12 : ∀ j, j ≠ 23 + (1 + (k + 1)) → j ≠ 27 + (1 + (k + 1)) → ojU (ojU σ7 (23 + (1 + (k + 1))) c (nI ((prt τ N s at_ rt rm fs k p).1 c - tkn rt rm (prt τ N s at_ rt rm fs k p).2 (prt τ N s at_ rt rm fs k p).1 s c))) (27 + (1 + (k + 1))) s (nI ((prt τ N s at_ rt rm fs k p).2 s + tkn rt rm (prt τ N s at_ rt rm fs k p).2 (prt τ N s at_ rt rm fs k p).1 s c)) j = σ7 j := fun j q1 q2 => by rw [ojU_ne q2, ojU_ne q1]
      have tL : ∀ x, x < 96 → ojU (ojU σ7 (23 + (1 + (k + 1))) c (nI ((prt τ N s at_ rt rm fs k p).1 c - tkn rt rm (prt τ N s at_ rt rm fs k p).2 (prt τ N s at_ rt rm fs k p).1 s c))) (27 + (1 + (k + 1))) s (nI ((prt τ N s at_ rt rm fs k p).2 s + tkn rt rm (prt τ N s at_ rt rm fs k p).2 (prt τ N s at_ rt rm fs k p).1 s c)) (23 + (1 + (k + 1))) x = nI (skL (fun j => if j = s then c else at_ j) rt rm (prt τ N s at_ rt rm fs k p).1 (prt τ N s at_ rt rm fs k p).2 s x) := fun x hx => by
        rw [ojU_ne (by omega), ojU_eq]
        unfold skL
        dsimp only
        have es : (if s = s then c else at_ s) = c := if_pos rfl
        by_cases q : x = c
        · rw [q, upd_eq, if_pos es.symm, es]
        · rw [upd_ne q, if_neg (by rw [es]; exact q), hL7 x hx]
      have tD : ∀ i, i < 4 → ojU (ojU σ7 (23 + (1 + (k + 1))) c (nI ((prt τ N s at_ rt rm fs k p).1 c - tkn rt rm (prt τ N s at_ rt rm fs k p).2 (prt τ N s at_ rt rm fs k p).1 s c))) (27 + (1 + (k + 1))) s (nI ((prt τ N s at_ rt rm fs k p).2 s + tkn rt rm (prt τ N s at_ rt rm fs k p).2 (prt τ N s at_ rt rm fs k p).1 s c)) (27 + (1 + (k + 1))) i = nI (skD (fun j => if j = s then c else at_ j) rt rm (prt τ N s at_ rt rm fs k p).1 (prt τ N s at_ rt rm fs k p).2 s i) := fun i hi => by
        rw [ojU_eq, ojU_ne (by omega)]
        unfold skD
        dsimp only
        rw [if_pos (rfl : s = s)]
        by_cases q : i = s
        · rw [q, upd_eq, if_pos rfl]
        · rw [upd_ne q, if_neg q, hD7 i hi]
      generalize ojU (ojU σ7 (23 + (1 + (k + 1))) c (nI ((prt τ N s at_ rt rm fs k p).1 c - tkn rt rm (prt τ N s at_ rt rm fs k p).2 (prt τ N s at_ rt rm fs k p).1 s c))) (27 + (1 + (k + 1))) s (nI ((prt τ N s at_ rt rm fs k p).2 s + tkn rt rm (prt τ N s at_ rt rm fs k p).2 (prt τ N s at_ rt rm fs k p).1 s c)) = σ10 at t12 tL tD ⊢
      have SO10 : SO τ N K s d at_ rt rm fs σ10 := SO_fr (by omega) SO7 (fun j _ q => t12 j (by omega) (by omega))
      rw [t12 12 (by omega) (by omega), s12, b0, SO10.1.2.2.2.2.1, nI_1]
      obtain ⟨σ13, g1, g2, g3, g4⟩ := ow_skim (σ := σ10) (n := 1 + (k + 1)) (at_ := fun j => if j = s then c else at_ j) (rt := rt) (rm := rm) (i0 := s + 1) (m := K - s - 1) (by omega) (fun i q1 q2 => by rw [if_neg (show ¬ i = s by omega)]; exact SO10.2.1 i (by omega)) tL tD (fun x hx => Nat.le_trans (by unfold skL; split <;> omega) (nsum_bd hokq.1 hx)) (fun i q1 q2 => by unfold skD; rw [if_neg (show ¬ i = s by omega)]; exact hokq.2 i (by omega)) (by omega)
      rw [show s + 1 + (K - s - 1) = K by omega] at g1
      rw [g1]
      simp only [ojBv_s]
      rw [← nxt_prt hs] at g3 g4
      have s13 : σ13 12 = σ1 12 := by rw [g2 12 (by omega) (by omega), t12 12 (by omega) (by omega), s12]
      obtain ⟨σ', i1, i2, i3, i4⟩ := IH hr σ13 (SO_fr (by omega) SO10 (fun j _ q => g2 j (by omega) (by omega))) g3 g4 ⟨by rw [s13]; exact b0, by rw [s13]; exact b1, by rw [s13]; exact b3, by rw [s13]; exact b4⟩ (by rw [s13]; exact e2)
      rw [i1]
      refine ⟨σ', rfl, fun j q1 q2 q3 q4 => ?_, i3, i4⟩
      rw [i2 j q1 q2 q3 q4, g2 j (by omega) (by omega), t12 j (by omega) (by omega), a2 j (by omega) (by omega) (by omega), e1 j q1]
  show ∃ σ', g_X8_searchFrom rec0 (nI k) (nI c) (nI t) σ = some σ' ∧ _
  unfold g_X8_searchFrom
  obtain ⟨b0, b1, b3, b4⟩ := id hB
  by_cases hk : k = 0
  · rw [if_pos (show nI k = 0 by rw [hk]; rfl)]
    simp only [ojLet_s]
    obtain ⟨σ', i1, i2, i3, i4⟩ := main (ojU σ 12 2 (nI c)) (fun j q => ojU_ne q) ⟨by rw [ojU_eq, upd_ne (by decide)]; exact b0, by rw [ojU_eq, upd_ne (by decide)]; exact b1, by rw [ojU_eq, upd_ne (by decide)]; exact b3, by rw [ojU_eq, upd_ne (by decide)]; exact b4⟩ (by rw [ojU_eq, upd_eq, if_pos hk])
    exact ⟨σ', i1, i2, i3, fun q => absurd hk q⟩
  · rw [if_neg (nI_ne0 (by omega) (by omega))]
    obtain ⟨σ', i1, i2, i3, i4⟩ := main σ (fun _ _ => rfl) hB (by rw [if_neg hk]; exact h2 hk)
    exact ⟨σ', i1, i2, i3, fun _ => by rw [i4, if_neg hk]⟩
theorem wayO {σ τ : ojS} (h : Rnet (σ 2) (τ 1)) {d a c : Nat} (hd : d ≤ 3) (ha : a < 96) (hsa : τ 1 a = 0) (hc : c < 96) : (Rr τ d a c ∧ f_X8_isWayOverSea 8 (nI a) (nI c) (nI d) σ = some 1) ∨ (¬ Rr τ d a c ∧ f_X8_isWayOverSea 8 (nI a) (nI c) (nI d) σ = some 0) := by
  by_cases hsc : τ 1 c = 0
  · rcases way_eq h hc hsc d 8 a (by omega) hd ha hsa with ⟨q1, q2⟩ | ⟨q1, q2⟩
    · exact Or.inl ⟨⟨hsc, q1⟩, q2⟩
    · exact Or.inr ⟨fun z => q1 z.2, q2⟩
  · refine Or.inr ⟨fun z => hsc z.1, ?_⟩
    show g_X8_isWayOverSea (f_X8_isWayOverSea 7) (nI a) (nI c) (nI d) σ = some 0
    unfold g_X8_isWayOverSea
    rw [if_neg (show ¬ nI d < 0 from nI_pos (by omega))]
    rcases isSea_at h ha with ⟨-, q1, -⟩ | ⟨q, -⟩
    · rcases isSea_at h hc with ⟨q, -⟩ | ⟨-, q2, -⟩
      · exact absurd q hsc
      · rw [q1, q2]; rfl
    · exact absurd hsa q
theorem afl_nI {σ : ojS} {rk : Nat → Int32} {n : Nat} {L : Nat → Nat} (h : ∀ c, c < 96 → σ (23 + n) c = nI (L c)) : isum (fun c => if rk c = 0 then σ (23 + n) c else 0) 96 = nI (afl rk L) := by
  unfold afl
  rw [← isum_nI]
  refine isum_congr (fun c hc => ?_)
  by_cases q : rk c = 0
  · rw [if_pos q, if_pos q, h c hc]
  · rw [if_neg q, if_neg q]; rfl
theorem afl_le {rk : Nat → Int32} {L : Nat → Nat} : afl rk L ≤ nsum L 96 := nsum_le (fun x _ => by split <;> omega)
theorem ow_sloop {τ : ojS} {N K s d n k r a t : Nat} {at_ rt rm : Nat → Nat} {fs fi : Int32} {p : (Nat → Nat) × (Nat → Nat)} {b : Nat × Int32} {σ : ojS} {rec0 : Int32 → Int32 → Int32 → ojS → Option ojS}
    (hs : s < K) (hd : d ≤ 3) (hkn : k + r + 1 = n) (hn : n ≤ 3) (ha : a < 96) (hsa : τ 1 a = 0) (hok : okp K rm p) (htp : t ≤ p.2 s) (hb1 : b.1 ≤ 100001) (hSO : SO τ N K s d at_ rt rm fs σ)
    (hL : ∀ x, x < 96 → σ (23 + (1 + k)) x = nI ((prt τ N s at_ rt rm fs k p).1 x)) (hD : ∀ i, i < 4 → σ (27 + (1 + k)) i = nI ((prt τ N s at_ rt rm fs k p).2 i))
    (hB : SB s n b σ) (h2 : k ≠ 0 → σ 12 2 = fi)
    (IH : r ≠ 0 → ∀ c, c < 96 → τ 1 c = 0 → ∀ t2 fi2 b2 p2 σ2, okp K rm p2 → t2 ≤ p2.2 s → b2.1 ≤ 100001 → SO τ N K s d at_ rt rm fs σ2 → (∀ x, x < 96 → σ2 (23 + (1 + (k + 1))) x = nI (p2.1 x)) → (∀ i, i < 4 → σ2 (27 + (1 + (k + 1))) i = nI (p2.2 i)) → SB s n b2 σ2 → σ2 12 2 = fi2 → ∃ σ', rec0 (nI (k + 1)) (nI c) (nI t2) σ2 = some σ' ∧ Fk (k + 1) σ2 σ' ∧ SB s n (srch (Rr τ d) (nxt τ N K s at_ rt rm fs) s r c (k + 1) p2 t2 fi2 b2) σ' ∧ σ' 12 2 = fi2) :
    ∃ σ', f_X8_searchHour_114 rec0 (nI k) (nI a) (nI t) (1 + k) s (nI (rt s * r)) (nI (min (afl (τ 1) (prt τ N s at_ rt rm fs k p).1) (rm s - (prt τ N s at_ rt rm fs k p).2 s))) 0 σ = some σ' ∧ Fk (k + 1) σ σ' ∧ SB s n (srch (Rr τ d) (nxt τ N K s at_ rt rm fs) s (r + 1) a k p t fi b) σ' ∧ (k ≠ 0 → σ' 12 2 = fi) := by
  have hK4 : K ≤ 4 := hSO.1.2.2.2.1
  obtain ⟨-, -, -, -, f5, f6⟩ := hSO.2.1 s hs
  have hokq := okp_prt (τ := τ) (N := N) (s := s) (at_ := at_) (rt := rt) (fs := fs) (k := k) hok
  have hqs : (prt τ N s at_ rt rm fs k p).2 s = p.2 s := prt_s
  have hps := hok.2 s hs
  have haf : afl (τ 1) (prt τ N s at_ rt rm fs k p).1 ≤ 1000000 := Nat.le_trans afl_le hokq.1
  have hrr : rt s * r ≤ 5000 * 3 := Nat.mul_le_mul f5 (by omega)
  have Hbd : ∀ r a k p t fi b, okp K rm p → t ≤ p.2 s → b.1 ≤ 100001 → (srch (Rr τ d) (nxt τ N K s at_ rt rm fs) s r a k p t fi b).1 ≤ 100001 := srch_bd (ok := okp K rm) (fun k p c q _ => ⟨okp_nxt q, nxt_ge⟩) (fun p q => by have := q.2 s hs; omega)
  unfold f_X8_searchHour_114
  rw [srch_s]
  refine ojFix_inv (bot := fun _ _ => none) (fun (rr : Int32 → ojS → Option ojS) (q : Int32 × ojS) => rr q.1 q.2) _ (fun c q => q.1 = nI c ∧ Fk (k + 1) σ q.2 ∧ SB s n (fdl (srg (Rr τ d) (nxt τ N K s at_ rt rm fs) s r a k p t fi) c b) q.2 ∧ (k ≠ 0 → q.2 12 2 = fi) ∧ (fdl (srg (Rr τ d) (nxt τ N K s at_ rt rm fs) s r a k p t fi) c b).1 ≤ 100001) (fun z => ∃ σ', z = some σ' ∧ Fk (k + 1) σ σ' ∧ SB s n (fdl (srg (Rr τ d) (nxt τ N K s at_ rt rm fs) s r a k p t fi) 96 b) σ' ∧ (k ≠ 0 → σ' 12 2 = fi)) 96 ?_ ?_ 600 0 (0, σ) (by decide) (by decide) ⟨rfl, fun _ _ _ _ _ => rfl, hB, h2, hb1⟩
  · rintro rr c ⟨v, u⟩ hc ⟨i1, i2, i3, i4, i5⟩
    dsimp only at i1 i2 i3 i4 ⊢
    subst i1
    rw [if_neg (ge_96 hc)]
    have SOu : SO τ N K s d at_ rt rm fs u := SO_fr (by omega) hSO (fun j q1 q2 => i2 j q1 (by omega) (by omega) (by omega))
    rw [SOu.2.2.2.2]
    have hstep : fdl (srg (Rr τ d) (nxt τ N K s at_ rt rm fs) s r a k p t fi) (c + 1) b = srg (Rr τ d) (nxt τ N K s at_ rt rm fs) s r a k p t fi c (fdl (srg (Rr τ d) (nxt τ N K s at_ rt rm fs) s r a k p t fi) c b) := rfl
    generalize fdl (srg (Rr τ d) (nxt τ N K s at_ rt rm fs) s r a k p t fi) c b = bb at hstep i3 i5
    rcases wayO SOu.1.1 hd ha hsa hc with ⟨w1, w2⟩ | ⟨w1, w2⟩
    · rw [w2]
      simp only [ojB1_s, if10, ifF]
      obtain ⟨b0, b1, b3, b4⟩ := id i3
      obtain ⟨g1, g2, g3, g4, g5, g6⟩ := SOu.2.1 s hs
      have hLu : ∀ x, x < 96 → u (23 + (1 + k)) x = nI ((prt τ N s at_ rt rm fs k p).1 x) := fun x hx => by rw [i2 (23 + (1 + k)) (by omega) (by omega) (by omega) (by omega)]; exact hL x hx
      have hDu : ∀ i, i < 4 → u (27 + (1 + k)) i = nI ((prt τ N s at_ rt rm fs k p).2 i) := fun i hi => by rw [i2 (27 + (1 + k)) (by omega) (by omega) (by omega) (by omega)]; exact hD i hi
      rw [b0, ow_canTake (rt := rt) (rm := rm) (ld := (prt τ N s at_ rt rm fs k p).2) (L := (prt τ N s at_ rt rm fs k p).1) (show s < 4 by omega) hc g2 g3 (hDu s (by omega)) (hLu c hc) f5 f6 (hokq.2 s hs) (nsum_bd hokq.1 hc)]
      simp only [ojB1_s]
      have eg := nxt_s (τ := τ) (N := N) (at_ := at_) (rt := rt) (rm := rm) (fs := fs) (k := k) (p := p) (c := c) hs
      have hbs := bdp_st (τ := τ) (N := N) (at_ := at_) (rt := rt) (rm := rm) (fs := fs) (k := k) (r := r) hs hok hc w1.1
      have hage := afl_ge (rk := τ 1) (L := (prt τ N s at_ rt rm fs k p).1) hc w1.1
      have hgle : tkn rt rm (prt τ N s at_ rt rm fs k p).2 (prt τ N s at_ rt rm fs k p).1 s c ≤ min (rm s - (prt τ N s at_ rt rm fs k p).2 s) ((prt τ N s at_ rt rm fs k p).1 c) := by unfold tkn; omega
      rw [show (nxt τ N K s at_ rt rm fs k p c).2 s - p.2 s = tkn rt rm (prt τ N s at_ rt rm fs k p).2 (prt τ N s at_ rt rm fs k p).1 s c by omega] at hbs
      have hsr : srg (Rr τ d) (nxt τ N K s at_ rt rm fs) s r a k p t fi c bb = srch (Rr τ d) (nxt τ N K s at_ rt rm fs) s r c (k + 1) (nxt τ N K s at_ rt rm fs k p c) (t + tkn rt rm (prt τ N s at_ rt rm fs k p).2 (prt τ N s at_ rt rm fs k p).1 s c) (if k = 0 then nI c else fi) bb := by
        rw [srg_y w1, show (nxt τ N K s at_ rt rm fs k p c).2 s - p.2 s = tkn rt rm (prt τ N s at_ rt rm fs k p).2 (prt τ N s at_ rt rm fs k p).1 s c by omega]
      rw [hsr] at hstep
      generalize tkn rt rm (prt τ N s at_ rt rm fs k p).2 (prt τ N s at_ rt rm fs k p).1 s c = g at eg hbs hgle hsr hstep ⊢
      rw [hstep, nI_add, ojMin_nI (by omega) (by omega), nI_add, nI_add]
      by_cases cnd : t + min (g + rt s * r) (min (afl (τ 1) (prt τ N s at_ rt rm fs k p).1) (rm s - (prt τ N s at_ rt rm fs k p).2 s)) + 1 ≤ bb.1
      · rw [if_pos (show nI _ ≤ u 12 3 by rw [b3]; exact (mI_le (by omega) (by omega)).mpr cnd)]
        simp only [ojLet_s, nI_1]
        have e := srch_skip (ok := okp K rm) (bd := bdp τ s rt rm) (bdp_H (τ := τ) (N := N) (at_ := at_) (rt := rt) (fs := fs) hs (R := Rr τ d) (fun _ _ q => q.1)) r c (k + 1) (nxt τ N K s at_ rt rm fs k p c) (t + g) (if k = 0 then nI c else fi) bb (okp_nxt hok) (by omega)
        rw [e]
        exact Or.inl ⟨(nI (c + 1), u), ⟨rfl, i2, i3, i4, i5⟩, rfl⟩
      · rw [if_neg (show ¬ nI _ ≤ u 12 3 by rw [b3]; exact fun z => cnd ((mI_le (by omega) (by omega)).mp z))]
        have okn := okp_nxt (τ := τ) (N := N) (s := s) (at_ := at_) (rt := rt) (fs := fs) (k := k) (c := c) hok
        have htn : t + g ≤ (nxt τ N K s at_ rt rm fs k p c).2 s := by omega
        obtain ⟨σ', j1, j2, j3, j4⟩ := ow_sfrom (R := Rr τ d) (rec0 := rec0) (t := t + g) (b := bb) (fi := fi) (σ := u) hs hkn hn hc hok SOu hLu hDu i3 i4 (fun r0 => by subst r0; omega) (fun hr σ2 q1 q2 q3 q4 q5 => IH hr c hc w1.1 (t + g) (if k = 0 then nI c else fi) bb _ σ2 okn htn i5 q1 q2 q3 q4 q5)
        rw [j1]
        simp only [ojBv_s, ojLet_s, nI_1]
        exact Or.inl ⟨(nI (c + 1), σ'), ⟨rfl, fun j q1 q2 q3 q4 => by dsimp only; rw [j2 j q1 q2 q3 q4, i2 j q1 q2 q3 q4], j3, j4, Hbd _ _ _ _ _ _ _ okn htn i5⟩, rfl⟩
    · rw [w2]
      simp only [ojB1_s, if00, ifT, ojLet_s, nI_1]
      rw [srg_n w1] at hstep
      rw [hstep]
      exact Or.inl ⟨(nI (c + 1), u), ⟨rfl, i2, i3, i4, i5⟩, rfl⟩
  · rintro rr ⟨v, u⟩ ⟨i1, i2, i3, i4, i5⟩
    dsimp only at i1 i2 i3 i4 ⊢
    subst i1
    rw [if_pos (show (96 : Int32) ≤ nI 96 by decide)]
    exact ⟨u, rfl, i2, i3, i4⟩
theorem ow_sstep {τ : ojS} {N K s d n k r a t : Nat} {at_ rt rm : Nat → Nat} {fs fi : Int32} {p : (Nat → Nat) × (Nat → Nat)} {b : Nat × Int32} {σ : ojS} {rec0 : Int32 → Int32 → Int32 → ojS → Option ojS}
    (hN : N ≤ 500) (hs : s < K) (hd : d ≤ 3) (hkn : k + r + 1 = n) (hn : n ≤ 3) (ha : a < 96) (hsa : τ 1 a = 0) (hok : okp K rm p) (htp : t ≤ p.2 s) (hb1 : b.1 ≤ 100001) (hSO : SO τ N K s d at_ rt rm fs σ)
    (hL : ∀ x, x < 96 → σ (23 + (1 + k)) x = nI (p.1 x)) (hD : ∀ i, i < 4 → σ (27 + (1 + k)) i = nI (p.2 i))
    (hB : SB s n b σ) (h2 : k ≠ 0 → σ 12 2 = fi)
    (IH : r ≠ 0 → ∀ c, c < 96 → τ 1 c = 0 → ∀ t2 fi2 b2 p2 σ2, okp K rm p2 → t2 ≤ p2.2 s → b2.1 ≤ 100001 → SO τ N K s d at_ rt rm fs σ2 → (∀ x, x < 96 → σ2 (23 + (1 + (k + 1))) x = nI (p2.1 x)) → (∀ i, i < 4 → σ2 (27 + (1 + (k + 1))) i = nI (p2.2 i)) → SB s n b2 σ2 → σ2 12 2 = fi2 → ∃ σ', rec0 (nI (k + 1)) (nI c) (nI t2) σ2 = some σ' ∧ Fk (k + 1) σ2 σ' ∧ SB s n (srch (Rr τ d) (nxt τ N K s at_ rt rm fs) s r c (k + 1) p2 t2 fi2 b2) σ' ∧ σ' 12 2 = fi2) :
    ∃ σ', g_X8_searchHour rec0 (nI k) (nI a) (nI t) σ = some σ' ∧ Fk k σ σ' ∧ SB s n (srch (Rr τ d) (nxt τ N K s at_ rt rm fs) s (r + 1) a k p t fi b) σ' ∧ (k ≠ 0 → σ' 12 2 = fi) := by
  have hK4 : K ≤ 4 := hSO.1.2.2.2.1
  have hokq := okp_prt (τ := τ) (N := N) (s := s) (at_ := at_) (rt := rt) (fs := fs) (k := k) hok
  have haf : afl (τ 1) (prt τ N s at_ rt rm fs k p).1 ≤ 1000000 := Nat.le_trans afl_le hokq.1
  unfold g_X8_searchHour
  rw [if_neg (nI_pos (by omega)), if_pos (show nI k < 3 from nI_lt (b := 3) (by omega) (by decide)), ojChk_nI (show k < 3 by omega) (by decide), nI_clamp (by omega), hSO.2.2.1, nI_add]
  obtain ⟨σ3, a1, a2, -, -, a5⟩ := ow_dl hSO.1 (n := 1 + k) (wd := 0) (h := N + k) (by omega) (by omega) hL hok.1
  rw [show f_X8_driftAndLose (1 + k) 0 (nI (N + k)) σ = some σ3 from a1]
  simp only [ojBv_s]
  obtain ⟨b0, b1, b3, b4⟩ := id hB
  have c12 : σ3 12 = σ 12 := a2 12 (by omega) (by omega)
  have SO3 : SO τ N K s d at_ rt rm fs σ3 := SO_fr (by omega) hSO (fun j q1 q2 => a2 j (by omega) (by omega))
  rw [c12, b0]
  rw [hSO.2.2.2.1] at a5
  obtain ⟨σ5, g1, g2, g3, g4⟩ := ow_skim (σ := σ3) (n := 1 + k) (at_ := at_) (rt := rt) (rm := rm) (i0 := 0) (m := s) (L := hrF τ N fs k p.1) (ld := p.2) (by omega) (fun i _ q => SO3.2.1 i (by omega)) a5 (fun i hi => by rw [a2 (27 + (1 + k)) (by omega) (by omega)]; exact hD i hi) (fun x hx => nsum_bd (Nat.le_trans hrL_sum hok.1) hx) (fun i _ q => hok.2 i (by omega)) (by omega)
  rw [Nat.zero_add] at g1
  rw [show f_X1_skim (1 + k) 0 (nI s) σ3 = some σ5 from g1]
  have g3 : ∀ x, x < 96 → σ5 (23 + (1 + k)) x = nI ((prt τ N s at_ rt rm fs k p).1 x) := g3
  have g4 : ∀ i, i < 4 → σ5 (27 + (1 + k)) i = nI ((prt τ N s at_ rt rm fs k p).2 i) := g4
  simp only [ojBv_s]
  have d12 : σ5 12 = σ 12 := by rw [g2 12 (by omega) (by omega), c12]
  have SO5 : SO τ N K s d at_ rt rm fs σ5 := SO_fr (by omega) SO3 (fun j q1 q2 => g2 j (by omega) (by omega))
  obtain ⟨f1, f2, f3, f4, f5, f6⟩ := SO5.2.1 s hs
  rw [d12, b0, b1, ojChk_nI (show s < 4 by omega) (by decide), nI_clamp (by omega), f2]
  simp only [ojLet_s]
  rw [pk_sub (show k ≤ n by omega), show (1 : Int32) = nI 1 from rfl, pk_sub (show 1 ≤ n - k by omega), pk_mul, show n - k - 1 = r by omega, ow_afl SO5.1.1 (1 + k), afl_nI g3]
  simp only [ojB1_s]
  unfold f_X1_roomLeft
  rw [ojChk_nI (show s < 4 by omega) (by decide), ojChk_nI (show s < 4 by omega) (by decide), nI_clamp (by omega), f3, g4 s (by omega), pk_sub (hokq.2 s hs)]
  simp only [ojB1_s]
  rw [ojMin_nI (by omega) (by omega)]
  obtain ⟨σ', j1, j2, j3, j4⟩ := ow_sloop (rec0 := rec0) (σ := σ5) (fi := fi) hs hd hkn hn ha hsa hok htp hb1 SO5 g3 g4 ⟨by rw [d12]; exact b0, by rw [d12]; exact b1, by rw [d12]; exact b3, by rw [d12]; exact b4⟩ (fun q => by rw [d12]; exact h2 q) IH
  exact ⟨σ', j1, fun j q1 q2 q3 q4 => by rw [j2 j q1 (by omega) (by omega) (by omega), g2 j (by omega) (by omega), a2 j (by omega) (by omega)], j3, j4⟩
theorem ow_search {τ : ojS} {N K s d n : Nat} {at_ rt rm : Nat → Nat} {fs : Int32} (hN : N ≤ 500) (hs : s < K) (hd : d ≤ 3) (hn : n ≤ 3) : ∀ r k F a p t fi b σ, k + r + 1 = n → r < F → a < 96 → τ 1 a = 0 → okp K rm p → t ≤ p.2 s → b.1 ≤ 100001 → SO τ N K s d at_ rt rm fs σ → (∀ x, x < 96 → σ (23 + (1 + k)) x = nI (p.1 x)) → (∀ i, i < 4 → σ (27 + (1 + k)) i = nI (p.2 i)) → SB s n b σ → (k ≠ 0 → σ 12 2 = fi) →
    ∃ σ', f_X8_searchHour F (nI k) (nI a) (nI t) σ = some σ' ∧ Fk k σ σ' ∧ SB s n (srch (Rr τ d) (nxt τ N K s at_ rt rm fs) s (r + 1) a k p t fi b) σ' ∧ (k ≠ 0 → σ' 12 2 = fi) := by
  intro r
  induction r with
  | zero =>
    intro k F a p t fi b σ q1 q2 ha hsa q3 q4 q5 q6 q7 q8 q9 q10
    obtain ⟨F, rfl⟩ : ∃ G, F = G + 1 := ⟨F - 1, by omega⟩
    exact ow_sstep (rec0 := f_X8_searchHour F) hN hs hd q1 hn ha hsa q3 q4 q5 q6 q7 q8 q9 q10 (fun z => absurd rfl z)
  | succ r ih =>
    intro k F a p t fi b σ q1 q2 ha hsa q3 q4 q5 q6 q7 q8 q9 q10
    obtain ⟨F, rfl⟩ : ∃ G, F = G + 1 := ⟨F - 1, by omega⟩
    refine ow_sstep (rec0 := f_X8_searchHour F) hN hs hd q1 hn ha hsa q3 q4 q5 q6 q7 q8 q9 q10 (fun _ c hc hsc t2 fi2 b2 p2 σ2 z1 z2 z3 z4 z5 z6 z7 z8 => ?_)
    obtain ⟨σ', w1, w2, w3, w4⟩ := ih (k + 1) F c p2 t2 fi2 b2 σ2 (by omega) (by omega) hc hsc z1 z2 z3 z4 z5 z6 z7 (fun _ => z8)
    exact ⟨σ', w1, w2, w3, w4 (by omega)⟩
