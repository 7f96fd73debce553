theorem Mst_t {τ : ojS} {N K s k : Nat} {at_ : Nat → Nat} {x5 : Int32} {p : ((Nat → Nat) × (Nat → Nat))} {a t : Nat} {u : ojS} (h : Mst τ N K s k at_ x5 p a t u) : u 14 s = x5 + nI t := h.2.2.2.2.2.2
theorem sr_bd {σ τ : ojS} {N K s d : Nat} {at_ rt rm : Nat → Nat} (hX : CX σ τ N K s d at_ rt rm) : ∀ r a k p t fi b, okp K rm p → t ≤ p.2 s → b.1 ≤ 100001 → (srch (Rr τ d) (nxt τ N K s at_ rt rm (τ 0 10)) s r a k p t fi b).1 ≤ 100001 := srch_bd (ok := okp K rm) (fun k p c q _ => ⟨okp_nxt q, nxt_ge⟩) (fun p q => by have := q.2 s hX.2.2.2.1; have := (hX.2.1 s hX.2.2.2.1).2.2.2.2.2; omega)
theorem Bs_of {b : Nat × Int32} {u v : ojS} (h : Bs b u) (h1 : v 0 30 = u 0 30) (h2 : v 0 31 = u 0 31) : Bs b v := ⟨by rw [h1]; exact h.1, by rw [h2]; exact h.2⟩
theorem md_106 {σ τ : ojS} {N K s d : Nat} {at_ rt rm : Nat → Nat} (hX : CX σ τ N K s d at_ rt rm) {rec53 rec77 : Int32 → ojS → Option (Int32 × ojS)} {a3 x5 c1 : Int32} {c2 t : Nat} {p : ((Nat → Nat) × (Nat → Nat))} {b : Nat × Int32} {u : ojS} (hc2 : c2 < 96) (hok : okp K rm p) (ht : t ≤ p.2 s) (hb : b.1 ≤ 100001) (hM : Mst τ N K s 2 at_ x5 p c2 t u) (hB : Bs b u) :
    ∃ v, f_X9_best_106 rec53 rec77 (nI s) (nI 3) a3 x5 c1 (nI c2) 0 u = f_X9_best_158 rec53 rec77 (nI s) (nI 3) a3 x5 c1 (nI c2) v ∧ Bq 2 u v ∧ Bs (srch (Rr τ d) (nxt τ N K s at_ rt rm (τ 0 10)) s 1 c2 2 p t c1 b) v := by
  have hs := hX.2.2.2.1
  have hK4 : K ≤ 4 := hX.1.2.2.2.1
  have hrm := (hX.2.1 s hs).2.2.2.2.2
  unfold f_X9_best_106
  rw [srch_s]
  refine ojFix_inv (bot := fun _ _ => none) (fun (rr : Int32 → ojS → Option (Int32 × ojS)) (q : Int32 × ojS) => rr q.1 q.2) _ (fun c q => q.1 = nI c ∧ Bq 2 u q.2 ∧ Bs (fdl (srg (Rr τ d) (nxt τ N K s at_ rt rm (τ 0 10)) s 0 c2 2 p t c1) c b) q.2 ∧ (fdl (srg (Rr τ d) (nxt τ N K s at_ rt rm (τ 0 10)) s 0 c2 2 p t c1) c b).1 ≤ 100001) (fun z => ∃ v, z = f_X9_best_158 rec53 rec77 (nI s) (nI 3) a3 x5 c1 (nI c2) v ∧ Bq 2 u v ∧ Bs (fdl (srg (Rr τ d) (nxt τ N K s at_ rt rm (τ 0 10)) s 0 c2 2 p t c1) 96 b) v) 96 ?_ ?_ 600 0 (0, u) (by decide) (by decide) ⟨rfl, Bq_rf, hB, hb⟩
  · rintro rr c ⟨v0, w⟩ hc ⟨i1, i2, i3, i4⟩
    dsimp only at i1 i2 i3 ⊢
    subst i1
    rw [if_neg (ge_96 hc), if_neg (show ¬ nI 3 ≤ 2 by decide)]
    have hMw := Mst_Bq hK4 hs hM i2
    have hstep : fdl (srg (Rr τ d) (nxt τ N K s at_ rt rm (τ 0 10)) s 0 c2 2 p t c1) (c + 1) b = srg (Rr τ d) (nxt τ N K s at_ rt rm (τ 0 10)) s 0 c2 2 p t c1 c (fdl (srg (Rr τ d) (nxt τ N K s at_ rt rm (τ 0 10)) s 0 c2 2 p t c1) c b) := rfl
    generalize fdl (srg (Rr τ d) (nxt τ N K s at_ rt rm (τ 0 10)) s 0 c2 2 p t c1) c b = bb at hstep i3 i4
    rcases md_tries hX (k := 2) (a := c2) (c := c) (by omega) hc2 hc hok hMw with ⟨w1, w2⟩ | ⟨w1, u', w2, w3, w4, w5, w6, w7⟩
    · rw [show f_X9_tries (nI s) (nI c) 3 w = some (0, w) from w2]
      simp only [ojB2_s, if00, ifT, ojLet_s, nI_1]
      rw [srg_n w1] at hstep
      rw [hstep]
      exact Or.inl ⟨(nI (c + 1), w), ⟨rfl, i2, i3, i4⟩, rfl⟩
    · rw [show f_X9_tries (nI s) (nI c) 3 w = some (1, u') from w2]
      simp only [ojB2_s, if10, ifF, ojChk_nI (show s < 4 by omega) (by decide), nI_clamp (show s < 2 ^ 31 by omega)]
      have okn := okp_nxt (τ := τ) (N := N) (s := s) (at_ := at_) (rt := rt) (fs := τ 0 10) (k := 2) (c := c) hok
      have hge := nxt_ge (τ := τ) (N := N) (K := K) (s := s) (at_ := at_) (rt := rt) (rm := rm) (fs := τ 0 10) (k := 2) (p := p) (c := c)
      have hrs := okn.2 s hs
      obtain ⟨v, m1, m2, m3⟩ := md_meets (R := Rr τ d) (nx := (nxt τ N K s at_ rt rm (τ 0 10))) (a0 := c) (k0 := 3) (p0 := (nxt τ N K s at_ rt rm (τ 0 10)) 2 p c) (c1 := c1) (k2 := 3) (Mst_t w3) (by omega) i4 (Bs_of i3 w6 w7)
      rw [m1]
      simp only [ojBv_s]
      obtain ⟨z, n1, n2, n3, n4⟩ := md_close (by omega) hMw w3 w4 w5 m2
      rw [show f_X9_back 3 v = some z from n1]
      simp only [ojBv_s, ojLet_s, nI_1]
      rw [srg_y w1, if_neg (show ¬ (2 : Nat) = 0 by decide)] at hstep
      rw [hstep]
      exact Or.inl ⟨(nI (c + 1), z), ⟨rfl, Bq_tr i2 n2, Bs_of m3 n3 n4, sr_bd hX _ _ _ _ _ _ _ okn (by omega) i4⟩, rfl⟩
  · rintro rr ⟨v0, w⟩ ⟨i1, i2, i3, i4⟩
    dsimp only at i1 i2 i3 ⊢
    subst i1
    rw [if_pos (show (96 : Int32) ≤ nI 96 by decide)]
    exact ⟨w, rfl, i2, i3⟩
theorem md_in2 {σ τ : ojS} {N K s d : Nat} {at_ rt rm : Nat → Nat} (hX : CX σ τ N K s d at_ rt rm) {rec53 rec77 : Int32 → ojS → Option (Int32 × ojS)} {a3 x5 c1 : Int32} {n r c2 t t2 a1 : Nat} {p1 p : ((Nat → Nat) × (Nat → Nat))} {b : Nat × Int32} {u u' : ojS} (hn : n = r + 2) (hn3 : n ≤ 3) (hc2 : c2 < 96) (hok : okp K rm p) (ht : t2 ≤ p.2 s) (hb : b.1 ≤ 100001) (hM : Mst τ N K s 1 at_ x5 p1 a1 t u) (hM2 : Mst τ N K s 2 at_ x5 p c2 t2 u') (hKp : Kp 2 u u') (h22 : ∀ j, j < 112 * 2 → u' 22 j = u 22 j) (hB : Bs b u') :
    ∃ w, f_X9_best_106 rec53 rec77 (nI s) (nI n) a3 x5 c1 (nI c2) 0 u' = rec77 (nI (c2 + 1)) w ∧ Bq 1 u w ∧ Bs (srch (Rr τ d) (nxt τ N K s at_ rt rm (τ 0 10)) s r c2 2 p t2 c1 b) w := by
  have hs := hX.2.2.2.1
  have hK4 : K ≤ 4 := hX.1.2.2.2.1
  have hrm := (hX.2.1 s hs).2.2.2.2.2
  have hrs := hok.2 s hs
  by_cases hr : r = 0
  · subst hr
    have e106 : f_X9_best_106 rec53 rec77 (nI s) (nI n) a3 x5 c1 (nI c2) 0 u' = f_X9_best_158 rec53 rec77 (nI s) (nI n) a3 x5 c1 (nI c2) u' := by
      unfold f_X9_best_106
      refine ojFix_inv (bot := fun _ _ => none) (fun (rr : Int32 → ojS → Option (Int32 × ojS)) (q : Int32 × ojS) => rr q.1 q.2) _ (fun _ q => q = (0, u')) (fun z => z = f_X9_best_158 rec53 rec77 (nI s) (nI n) a3 x5 c1 (nI c2) u') 0 (fun r k a hk => absurd hk (Nat.not_lt_zero _)) ?_ 600 0 (0, u') (Nat.le_refl _) (by decide) rfl
      rintro rr q rfl
      dsimp only
      rw [if_neg (show ¬ (96 : Int32) ≤ 0 by decide), if_pos (show nI n ≤ 2 by rw [hn]; decide)]
    rw [e106]
    unfold f_X9_best_158
    rw [if_pos (show nI n = 2 by rw [hn]; rfl), ojChk_nI (show s < 4 by omega) (by decide), nI_clamp (by omega)]
    obtain ⟨v, m1, m2, m3⟩ := md_meets (R := Rr τ d) (nx := (nxt τ N K s at_ rt rm (τ 0 10))) (a0 := c2) (k0 := 2) (p0 := p) (c1 := c1) (k2 := 2) (Mst_t hM2) (by omega) hb hB
    rw [m1]
    simp only [ojBv_s]
    obtain ⟨z, n1, n2, n3, n4⟩ := md_close (by omega) hM hM2 hKp h22 m2
    rw [show f_X9_back 2 v = some z from n1]
    simp only [ojBv_s, ojLet_s, nI_1]
    exact ⟨z, rfl, n2, Bs_of m3 n3 n4⟩
  · have r1 : r = 1 := by omega
    subst r1
    subst hn
    obtain ⟨v, e1, e2, e3⟩ := md_106 hX (rec53 := rec53) (rec77 := rec77) (a3 := a3) (c1 := c1) hc2 hok ht hb hM2 hB
    rw [show f_X9_best_106 rec53 rec77 (nI s) (nI (1 + 2)) a3 x5 c1 (nI c2) 0 u' = _ from e1]
    unfold f_X9_best_158
    rw [if_neg (show ¬ nI 3 = 2 by decide)]
    obtain ⟨z, n1, n2, n3, n4⟩ := md_close (by omega) hM hM2 hKp h22 e2
    rw [show f_X9_back 2 v = some z from n1]
    simp only [ojBv_s, ojLet_s, nI_1]
    exact ⟨z, rfl, n2, Bs_of e3 n3 n4⟩
theorem md_77b {σ τ : ojS} {N K s d : Nat} {at_ rt rm : Nat → Nat} (hX : CX σ τ N K s d at_ rt rm) {rec53 : Int32 → ojS → Option (Int32 × ojS)} {a3 x5 : Int32} {n r c1 t : Nat} {p : ((Nat → Nat) × (Nat → Nat))} {b : Nat × Int32} {u : ojS} (hn : n = r + 2) (hn3 : n ≤ 3) (hc1 : c1 < 96) (hok : okp K rm p) (ht : t ≤ p.2 s) (hb : b.1 ≤ 100001) (hM : Mst τ N K s 1 at_ x5 p c1 t u) (hB : Bs b u) :
    ∃ v, f_X9_best_77 rec53 (nI s) (nI n) a3 x5 (nI c1) 0 u = f_X9_best_189 rec53 (nI s) (nI n) a3 x5 (nI c1) v ∧ Bq 1 u v ∧ Bs (srch (Rr τ d) (nxt τ N K s at_ rt rm (τ 0 10)) s (r + 1) c1 1 p t (nI c1) b) v := by
  have hs := hX.2.2.2.1
  have hK4 : K ≤ 4 := hX.1.2.2.2.1
  have hrm := (hX.2.1 s hs).2.2.2.2.2
  unfold f_X9_best_77
  rw [srch_s]
  refine ojFix_inv (bot := fun _ _ => none) (fun (rr : Int32 → ojS → Option (Int32 × ojS)) (q : Int32 × ojS) => rr q.1 q.2) _ (fun c q => q.1 = nI c ∧ Bq 1 u q.2 ∧ Bs (fdl (srg (Rr τ d) (nxt τ N K s at_ rt rm (τ 0 10)) s r c1 1 p t (nI c1)) c b) q.2 ∧ (fdl (srg (Rr τ d) (nxt τ N K s at_ rt rm (τ 0 10)) s r c1 1 p t (nI c1)) c b).1 ≤ 100001) (fun z => ∃ v, z = f_X9_best_189 rec53 (nI s) (nI n) a3 x5 (nI c1) v ∧ Bq 1 u v ∧ Bs (fdl (srg (Rr τ d) (nxt τ N K s at_ rt rm (τ 0 10)) s r c1 1 p t (nI c1)) 96 b) v) 96 ?_ ?_ 600 0 (0, u) (by decide) (by decide) ⟨rfl, Bq_rf, hB, hb⟩
  · rintro rr c ⟨v0, w⟩ hc ⟨i1, i2, i3, i4⟩
    dsimp only at i1 i2 i3 ⊢
    subst i1
    rw [if_neg (ge_96 hc), if_neg (show ¬ nI n ≤ 1 from nI_ge (a := 1) (by omega) (by omega))]
    have hMw := Mst_Bq hK4 hs hM i2
    have hstep : fdl (srg (Rr τ d) (nxt τ N K s at_ rt rm (τ 0 10)) s r c1 1 p t (nI c1)) (c + 1) b = srg (Rr τ d) (nxt τ N K s at_ rt rm (τ 0 10)) s r c1 1 p t (nI c1) c (fdl (srg (Rr τ d) (nxt τ N K s at_ rt rm (τ 0 10)) s r c1 1 p t (nI c1)) c b) := rfl
    generalize fdl (srg (Rr τ d) (nxt τ N K s at_ rt rm (τ 0 10)) s r c1 1 p t (nI c1)) c b = bb at hstep i3 i4
    rcases md_tries hX (k := 1) (a := c1) (c := c) (by omega) hc1 hc hok hMw with ⟨w1, w2⟩ | ⟨w1, u', w2, w3, w4, w5, w6, w7⟩
    · rw [show f_X9_tries (nI s) (nI c) 2 w = some (0, w) from w2]
      simp only [ojB2_s, if00, ifT, ojLet_s, nI_1]
      rw [srg_n w1] at hstep
      rw [hstep]
      exact Or.inl ⟨(nI (c + 1), w), ⟨rfl, i2, i3, i4⟩, rfl⟩
    · rw [show f_X9_tries (nI s) (nI c) 2 w = some (1, u') from w2]
      simp only [ojB2_s, if10, ifF]
      have okn := okp_nxt (τ := τ) (N := N) (s := s) (at_ := at_) (rt := rt) (fs := τ 0 10) (k := 1) (c := c) hok
      have hge := nxt_ge (τ := τ) (N := N) (K := K) (s := s) (at_ := at_) (rt := rt) (rm := rm) (fs := τ 0 10) (k := 1) (p := p) (c := c)
      have hrs := okn.2 s hs
      obtain ⟨z, n1, n2, n3⟩ := md_in2 hX (rec53 := rec53) (rec77 := rr) (a3 := a3) (c1 := nI c1) hn hn3 hc okn (by omega) i4 hMw w3 w4 w5 (Bs_of i3 w6 w7)
      rw [n1]
      rw [srg_y w1, if_neg (show ¬ (1 : Nat) = 0 by decide)] at hstep
      rw [hstep]
      exact Or.inl ⟨(nI (c + 1), z), ⟨rfl, Bq_tr i2 n2, n3, sr_bd hX _ _ _ _ _ _ _ okn (by omega) i4⟩, rfl⟩
  · rintro rr ⟨v0, w⟩ ⟨i1, i2, i3, i4⟩
    dsimp only at i1 i2 i3 ⊢
    subst i1
    rw [if_pos (show (96 : Int32) ≤ nI 96 by decide)]
    exact ⟨w, rfl, i2, i3⟩
theorem md_in1 {σ τ : ojS} {N K s d : Nat} {at_ rt rm : Nat → Nat} (hX : CX σ τ N K s d at_ rt rm) {rec53 : Int32 → ojS → Option (Int32 × ojS)} {a3 x5 : Int32} {n r c1 t t2 a1 : Nat} {p1 p : ((Nat → Nat) × (Nat → Nat))} {b : Nat × Int32} {u u' : ojS} (hn : n = r + 1) (hn3 : n ≤ 3) (hc1 : c1 < 96) (hok : okp K rm p) (ht : t2 ≤ p.2 s) (hb : b.1 ≤ 100001) (hM : Mst τ N K s 0 at_ x5 p1 a1 t u) (hM2 : Mst τ N K s 1 at_ x5 p c1 t2 u') (hKp : Kp 1 u u') (h22 : ∀ j, j < 112 * 1 → u' 22 j = u 22 j) (hB : Bs b u') :
    ∃ w, f_X9_best_77 rec53 (nI s) (nI n) a3 x5 (nI c1) 0 u' = rec53 (nI (c1 + 1)) w ∧ Bq 0 u w ∧ Bs (srch (Rr τ d) (nxt τ N K s at_ rt rm (τ 0 10)) s r c1 1 p t2 (nI c1) b) w := by
  have hs := hX.2.2.2.1
  have hK4 : K ≤ 4 := hX.1.2.2.2.1
  have hrm := (hX.2.1 s hs).2.2.2.2.2
  have hrs := hok.2 s hs
  by_cases hr : r = 0
  · subst hr
    have e77 : f_X9_best_77 rec53 (nI s) (nI n) a3 x5 (nI c1) 0 u' = f_X9_best_189 rec53 (nI s) (nI n) a3 x5 (nI c1) u' := by
      unfold f_X9_best_77
      refine ojFix_inv (bot := fun _ _ => none) (fun (rr : Int32 → ojS → Option (Int32 × ojS)) (q : Int32 × ojS) => rr q.1 q.2) _ (fun _ q => q = (0, u')) (fun z => z = f_X9_best_189 rec53 (nI s) (nI n) a3 x5 (nI c1) u') 0 (fun r k a hk => absurd hk (Nat.not_lt_zero _)) ?_ 600 0 (0, u') (Nat.le_refl _) (by decide) rfl
      rintro rr q rfl
      dsimp only
      rw [if_neg (show ¬ (96 : Int32) ≤ 0 by decide), if_pos (show nI n ≤ 1 by rw [hn]; decide)]
    rw [e77]
    unfold f_X9_best_189
    rw [if_pos (show nI n = 1 by rw [hn]; rfl), ojChk_nI (show s < 4 by omega) (by decide), nI_clamp (by omega)]
    obtain ⟨v, m1, m2, m3⟩ := md_meets (R := Rr τ d) (nx := (nxt τ N K s at_ rt rm (τ 0 10))) (a0 := c1) (k0 := 1) (p0 := p) (c1 := nI c1) (k2 := 1) (Mst_t hM2) (by omega) hb hB
    rw [m1]
    simp only [ojBv_s]
    obtain ⟨z, n1, n2, n3, n4⟩ := md_close (by omega) hM hM2 hKp h22 m2
    rw [show f_X9_back 1 v = some z from n1]
    simp only [ojBv_s, ojLet_s, nI_1]
    exact ⟨z, rfl, n2, Bs_of m3 n3 n4⟩
  · obtain ⟨r, rfl⟩ : ∃ q, r = q + 1 := ⟨r - 1, by omega⟩
    obtain ⟨v, e1, e2, e3⟩ := md_77b hX (rec53 := rec53) (a3 := a3) (n := n) (r := r) (by omega) hn3 hc1 hok ht hb hM2 hB
    rw [e1]
    unfold f_X9_best_189
    rw [if_neg (show ¬ nI n = 1 from fun q => by have := (nI_eq (b := 1) (by omega) (by decide)).mp q; omega)]
    obtain ⟨z, n1, n2, n3, n4⟩ := md_close (by omega) hM hM2 hKp h22 e2
    rw [show f_X9_back 1 v = some z from n1]
    simp only [ojBv_s, ojLet_s, nI_1]
    exact ⟨z, rfl, n2, Bs_of e3 n3 n4⟩
theorem md_53b {σ τ : ojS} {N K s d : Nat} {at_ rt rm : Nat → Nat} (hX : CX σ τ N K s d at_ rt rm) {a3 x5 : Int32} {n r t a : Nat} {p : ((Nat → Nat) × (Nat → Nat))} {b : Nat × Int32} {u : ojS} (hn : n = r + 1) (hn3 : n ≤ 3) (ha : a < 96) (hok : okp K rm p) (ht : t ≤ p.2 s) (hb : b.1 ≤ 100001) (hM : Mst τ N K s 0 at_ x5 p a t u) (hB : Bs b u) (fi : Int32) :
    ∃ v, f_X9_best_53 (nI s) (nI n) a3 x5 0 u = some (if a3 = 0 then v 0 30 else v 0 31, v) ∧ Bq 0 u v ∧ Bs (srch (Rr τ d) (nxt τ N K s at_ rt rm (τ 0 10)) s (r + 1) a 0 p t fi b) v := by
  have hs := hX.2.2.2.1
  have hK4 : K ≤ 4 := hX.1.2.2.2.1
  have hrm := (hX.2.1 s hs).2.2.2.2.2
  unfold f_X9_best_53
  rw [srch_s]
  refine ojFix_inv (bot := fun _ _ => none) (fun (rr : Int32 → ojS → Option (Int32 × ojS)) (q : Int32 × ojS) => rr q.1 q.2) _ (fun c q => q.1 = nI c ∧ Bq 0 u q.2 ∧ Bs (fdl (srg (Rr τ d) (nxt τ N K s at_ rt rm (τ 0 10)) s r a 0 p t fi) c b) q.2 ∧ (fdl (srg (Rr τ d) (nxt τ N K s at_ rt rm (τ 0 10)) s r a 0 p t fi) c b).1 ≤ 100001) (fun z => ∃ v, z = some (if a3 = 0 then v 0 30 else v 0 31, v) ∧ Bq 0 u v ∧ Bs (fdl (srg (Rr τ d) (nxt τ N K s at_ rt rm (τ 0 10)) s r a 0 p t fi) 96 b) v) 96 ?_ ?_ 600 0 (0, u) (by decide) (by decide) ⟨rfl, Bq_rf, hB, hb⟩
  · rintro rr c ⟨v0, w⟩ hc ⟨i1, i2, i3, i4⟩
    dsimp only at i1 i2 i3 ⊢
    subst i1
    rw [if_neg (ge_96 hc)]
    have hMw := Mst_Bq hK4 hs hM i2
    have hstep : fdl (srg (Rr τ d) (nxt τ N K s at_ rt rm (τ 0 10)) s r a 0 p t fi) (c + 1) b = srg (Rr τ d) (nxt τ N K s at_ rt rm (τ 0 10)) s r a 0 p t fi c (fdl (srg (Rr τ d) (nxt τ N K s at_ rt rm (τ 0 10)) s r a 0 p t fi) c b) := rfl
    generalize fdl (srg (Rr τ d) (nxt τ N K s at_ rt rm (τ 0 10)) s r a 0 p t fi) c b = bb at hstep i3 i4
    rcases md_tries hX (k := 0) (a := a) (c := c) (by omega) ha hc hok hMw with ⟨w1, w2⟩ | ⟨w1, u', w2, w3, w4, w5, w6, w7⟩
    · rw [show f_X9_tries (nI s) (nI c) 1 w = some (0, w) from w2]
      simp only [ojB2_s, if00, ifT, ojLet_s, nI_1]
      rw [srg_n w1] at hstep
      rw [hstep]
      exact Or.inl ⟨(nI (c + 1), w), ⟨rfl, i2, i3, i4⟩, rfl⟩
    · rw [show f_X9_tries (nI s) (nI c) 1 w = some (1, u') from w2]
      simp only [ojB2_s, if10, ifF]
      have okn := okp_nxt (τ := τ) (N := N) (s := s) (at_ := at_) (rt := rt) (fs := τ 0 10) (k := 0) (c := c) hok
      have hge := nxt_ge (τ := τ) (N := N) (K := K) (s := s) (at_ := at_) (rt := rt) (rm := rm) (fs := τ 0 10) (k := 0) (p := p) (c := c)
      have hrs := okn.2 s hs
      obtain ⟨z, n1, n2, n3⟩ := md_in1 hX (rec53 := rr) (a3 := a3) hn hn3 hc okn (by omega) i4 hMw w3 w4 w5 (Bs_of i3 w6 w7)
      rw [n1]
      rw [srg_y w1, if_pos (show (0 : Nat) = 0 from rfl)] at hstep
      rw [hstep]
      exact Or.inl ⟨(nI (c + 1), z), ⟨rfl, Bq_tr i2 n2, n3, sr_bd hX _ _ _ _ _ _ _ okn (by omega) i4⟩, rfl⟩
  · rintro rr ⟨v0, w⟩ ⟨i1, i2, i3, i4⟩
    dsimp only at i1 i2 i3 ⊢
    subst i1
    rw [if_pos (show (96 : Int32) ≤ nI 96 by decide)]
    refine ⟨w, ?_, i2, i3⟩
    by_cases q : a3 = 0
    · rw [if_pos q, if_pos q]
    · rw [if_neg q, if_neg q]
theorem srch_fs {R : Nat → Nat → Prop} {nx nx2 : Nat → ((Nat → Nat) × (Nat → Nat)) → Nat → ((Nat → Nat) × (Nat → Nat))} {s : Nat} {ok : ((Nat → Nat) × (Nat → Nat)) → Prop} (H : ∀ k p c, ok p → nx k p c = nx2 k p c ∧ ok (nx k p c)) : ∀ r a k p t fi b, ok p → srch R nx s r a k p t fi b = srch R nx2 s r a k p t fi b := by
  intro r
  induction r with
  | zero => intro a k p t fi b _; rw [srch_0, srch_0]
  | succ r ih =>
    intro a k p t fi b hok
    rw [srch_s, srch_s]
    refine fdl_rel (P := fun x y => x = y) rfl (fun c hc x y hx => ?_)
    subst hx
    by_cases q : R a c
    · obtain ⟨h1, h2⟩ := H k p c hok
      rw [srg_y q, srg_y q, ← h1]
      exact ih _ _ _ _ _ _ h2
    · rw [srg_n q, srg_n q]
