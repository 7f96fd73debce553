/-! the relation between the class's cells σ and the reference's cells τ -/
theorem if10 {α : Type} {a b : α} : (if (1 : Int32) = 0 then a else b) = b := (Eq.refl _).trans (Eq.refl _)
theorem if00 {α : Type} {a b : α} : (if (0 : Int32) = 0 then a else b) = a := (Eq.refl _).trans (Eq.refl _)
def RN (N : Nat) (a b : Int32) : Prop := N ≤ 500 ∧ a = nI N ∧ b = nI N
def RS (S : Nat) (a b : Int32) : Prop := S ≤ 1000000 ∧ a = nI S ∧ b = nI S
def RK (K : Nat) (a b : Int32) : Prop := K ≤ 4 ∧ a = nI K ∧ b = nI K
def RP (P : Nat) (a b : Int32) : Prop := P ≤ 8 ∧ a = nI P ∧ b = nI P
def Rnet (a b : Nat → Int32) : Prop := ∀ c, c < 96 → ∃ v, v ≤ 9 ∧ a c = nI v ∧ b c = nI v
def Rsky (p w f : Nat → Int32) : Prop := ∀ j, j < 1503 → ∃ x y, x ≤ 4 ∧ y ≤ 9 ∧ p j = nI (x * 10 + y) ∧ w j = nI x ∧ f j = nI y
def Rfs (N S : Nat) (a b : Int32) : Prop := (S = 0 → b = -1) ∧ (S ≠ 0 → ∃ f, f ≤ N ∧ a = nI f ∧ b = nI f)
def Rlq (S : Nat) (q p tk : Nat → Int32) : Prop := ∃ L t : Nat → Nat, (∀ c, c < 96 → q c = nI (L c) ∧ p c = nI (L c)) ∧ (∀ i, i < 4 → tk i = nI (t i)) ∧ nsum L 96 + nsum t 4 ≤ S
def Rsk (K i : Nat) (s ldo at_ rt rm sp hs tk wt rk : Nat → Int32) : Prop :=
  ldo i = hs i ∧ s 4 + hs i = tk i ∧ s 5 = wt i ∧ (wt i = 0 ∨ wt i = 1) ∧
  (i < K → s 0 = at_ i ∧ s 1 = rt i ∧ s 2 = rm i ∧ s 3 = sp i ∧ ∃ a b c d e : Nat, a < 96 ∧ at_ i = nI a ∧ rk a = 0 ∧ 1 ≤ b ∧ b ≤ 5000 ∧ rt i = nI b ∧ c ≤ 100000 ∧ rm i = nI c ∧ 1 ≤ d ∧ d ≤ 3 ∧ sp i = nI d ∧ e ≤ c ∧ hs i = nI e) ∧
  (K ≤ i → hs i = 0 ∧ tk i = 0)
def Rfl (K : Nat) (σ τ : ojS) : Prop := ∀ i, i < 4 → Rsk K i (σ (15 + i)) (σ 27) (τ 9) (τ 10) (τ 11) (τ 12) (τ 13) (τ 14) (τ 16) (τ 1)
def Rhr (K N : Nat) (a : Int32) (ci : Nat → Int32) : Prop := a = isum (fun i => nI N - ci i) K ∧ ∀ i, i < K → ∃ c, c ≤ N ∧ ci i = nI c
def Rpt (a b : Nat → Int32) : Prop := ∀ i, i < 4 → ∃ v, v ≤ 100 ∧ a i = nI v ∧ b i = nI v
def Jn (ba bb : Nat → Int32) (k x y : Nat) : Prop := (ba k = nI x ∧ bb k = nI y) ∨ (ba k = nI y ∧ bb k = nI x)
def Rbm (sz : Int32) (bc bw bl ib ba bb bt : Nat → Int32) : Prop :=
  sz = isum ib 20 ∧
  (∀ k, k < 20 → (ib k = 0 ∧ bc k = -1) ∨ (ib k = 1 ∧ ∃ a w t : Nat, a < 96 ∧ 1 ≤ w ∧ w ≤ 4 ∧ ah a w < 96 ∧ bc k = nI a ∧ bw k = nI w ∧ ba k = nI a ∧ bb k = nI (ah a w) ∧ t ≤ 9 ∧ bt k = nI t)) ∧
  (∀ c w, c < 96 → 1 ≤ w → w ≤ 4 → (∀ k, k < 20 → ib k = 1 → ah c w < 96 → Jn ba bb k c (ah c w) → bl (c * 5 + w) = bt k) ∧ ((∀ k, k < 20 → ib k = 1 → ah c w < 96 → ¬ Jn ba bb k c (ah c w)) → bl (c * 5 + w) = -1)) ∧
  (∀ k k' x y, k < 20 → k' < 20 → x < 96 → y < 96 → ib k = 1 → ib k' = 1 → Jn ba bb k x y → Jn ba bb k' x y → k = k')
def rch (rk wy : Nat → Int32) (a h : Nat) : Nat → Nat → Prop
  | 0, c => c = a
  | n + 1, c => rch rk wy a h n c ∨ (rk c = 0 ∧ ∃ b, b < 96 ∧ rch rk wy a h n b ∧ ah b (wy (h + n)).toNatClampNeg = c)
def Rsh (P N i : Nat) (s po mk sc sh rk wy : Nat → Int32) : Prop :=
  (i < P → s 0 = mk i ∧ s 1 = sc i ∧ ∃ m h a : Nat, m ≤ 999999 ∧ mk i = nI m ∧ h ≤ N ∧ sh i = nI h ∧ a < 96 ∧ sc i = nI a ∧ rk a = 0 ∧ ∀ c, c < 96 → (rch rk wy a h (N - h) c → po c = 1) ∧ (¬ rch rk wy a h (N - h) c → po c = 0)) ∧
  (P ≤ i → ∀ c, c < 96 → po c = 0)
def Rshs (P N : Nat) (σ τ : ojS) : Prop := ∀ i, i < 8 → Rsh P N i (σ (31 + i)) (σ (39 + i)) (τ 17) (τ 18) (τ 19) (τ 1) (τ 3)
def RR (N S K P : Nat) (σ τ : ojS) : Prop :=
  RN N (σ 0 10) (τ 0 0) ∧ RS S (σ 0 11) (τ 0 9) ∧ RK K (σ 9 1) (τ 0 14) ∧ RP P (σ 0 9) (τ 0 23) ∧ Rnet (σ 2) (τ 1) ∧ Rsky (σ 8) (τ 3) (τ 4) ∧ Rfs N S (σ 0 12) (τ 0 10) ∧ Rlq S (σ 23) (τ 2) (τ 14) ∧ σ 19 2 = τ 0 11 ∧ σ 19 3 = τ 0 12 ∧ Rfl K σ τ ∧ τ 0 13 = isum (τ 14) 4 ∧ Rhr K N (σ 0 13) (τ 15) ∧ Rpt (σ 14) (τ 20) ∧ Rbm (σ 3 3) (σ 4) (σ 5) (σ 6) (τ 5) (τ 6) (τ 7) (τ 8) ∧ Rshs P N σ τ
def RRR (σ τ : ojS) : Prop := ∃ N S K P : Nat, RR N S K P σ τ
theorem Rfl_fr {K : Nat} {σ τ σ' τ' : ojS} (h : Rfl K σ τ) (h1 : ∀ k, 15 ≤ k → k < 19 → σ' k = σ k) (h2 : σ' 27 = σ 27) (ht : τ' 9 = τ 9 ∧ τ' 10 = τ 10 ∧ τ' 11 = τ 11 ∧ τ' 12 = τ 12 ∧ τ' 13 = τ 13 ∧ τ' 14 = τ 14 ∧ τ' 16 = τ 16 ∧ τ' 1 = τ 1) : Rfl K σ' τ' := fun i hi => by
  rw [h1 (15 + i) (by omega) (by omega), h2, ht.1, ht.2.1, ht.2.2.1, ht.2.2.2.1, ht.2.2.2.2.1, ht.2.2.2.2.2.1, ht.2.2.2.2.2.2.1, ht.2.2.2.2.2.2.2]
  exact h i hi
theorem Rshs_fr {P N : Nat} {σ τ σ' τ' : ojS} (h : Rshs P N σ τ) (h1 : ∀ k, 31 ≤ k → k < 47 → σ' k = σ k) (ht : τ' 17 = τ 17 ∧ τ' 18 = τ 18 ∧ τ' 19 = τ 19 ∧ τ' 1 = τ 1 ∧ τ' 3 = τ 3) : Rshs P N σ' τ' := fun i hi => by
  rw [h1 (31 + i) (by omega) (by omega), h1 (39 + i) (by omega) (by omega), ht.1, ht.2.1, ht.2.2.1, ht.2.2.2.1, ht.2.2.2.2]
  exact h i hi
def stp (x y : Option (Int32 × ojS)) : Prop := ∃ (r : Int32) (σ τ : ojS), x = some (r, σ) ∧ y = some (r, τ) ∧ RRR σ τ
theorem sea_cases {σ τ : ojS} (h : Rnet (σ 2) (τ 1)) (a : Int32) : (f_X2_isSea a σ = some 0 ∧ f_X9_isSea a τ = some 0) ∨ ∃ c : Nat, c < 96 ∧ a = nI c ∧ σ 2 c = 0 ∧ τ 1 c = 0 ∧ f_X2_isSea a σ = some 1 ∧ f_X9_isSea a τ = some 1 := by
  unfold f_X2_isSea f_X9_isSea
  rcases cell_cases a with ⟨h1, h2⟩ | ⟨c, hc, rfl, h1, h2⟩
  · rw [h1, h2]; exact Or.inl ⟨rfl, rfl⟩
  · rw [h1, h2]
    simp only [ojB1_s, if10]
    simp only [ojChk_nI hc (by decide), nI_clamp (show c < 2 ^ 31 by omega)]
    obtain ⟨v, hv, e1, e2⟩ := h c hc
    by_cases h0 : v = 0
    · subst h0
      refine Or.inr ⟨c, hc, rfl, e1, e2, ?_, ?_⟩
      · rw [if_pos (show σ 2 c = 0 from e1)]
      · rw [if_pos (show τ 1 c = 0 from e2)]
    · have hv0 : ¬ nI v = 0 := nI_ne0 (by omega) (by omega)
      refine Or.inl ⟨by rw [if_neg (by rw [e1]; exact hv0)], by rw [if_neg (by rw [e2]; exact hv0)]⟩
theorem st_weather {σ τ : ojS} (h : RRR σ τ) (a b c d : Int32) : stp (f_X8_weather a b c d σ) (f_X9_weather a b c d τ) := by
  obtain ⟨N, S, K, P, hN, hS, hK, hP, hnet, hsky, hfs, hlq, hlo, haw, hfl, hskd, hhr, hpt, hbm, hsh⟩ := id h
  unfold f_X8_weather f_X9_weather
  simp only [isWithin_eq]
  rcases in_cases a 0 2 (by decide) (by decide) with e | ⟨va, -, ha, rfl, e⟩
  · rw [show f_X9_in a 0 2 = some 0 from e]; exact ⟨0, σ, τ, rfl, rfl, h⟩
  rw [show f_X9_in (nI va) 0 2 = some 1 from e]
  simp only [ojB1_s, if10]
  have hN500 := hN.1
  rw [hN.2.1, hN.2.2]
  rcases in_cases b N 500 (by decide) (by omega) with e | ⟨vb, hb0, hb, rfl, e⟩
  · rw [show f_X9_in b (nI N) 500 = some 0 from e]; exact ⟨0, σ, τ, rfl, rfl, h⟩
  rw [show f_X9_in (nI vb) (nI N) 500 = some 1 from e]
  simp only [ojB1_s, if10]
  rcases in_cases c 0 4 (by decide) (by decide) with e | ⟨vc, -, hc, rfl, e⟩
  · rw [show f_X9_in c 0 4 = some 0 from e]; exact ⟨0, σ, τ, rfl, rfl, h⟩
  rw [show f_X9_in (nI vc) 0 4 = some 1 from e]
  simp only [ojB1_s, if10]
  rcases in_cases d 0 9 (by decide) (by decide) with e | ⟨vd, -, hd, rfl, e⟩
  · rw [show f_X9_in d 0 9 = some 0 from e]; exact ⟨0, σ, τ, rfl, rfl, h⟩
  rw [show f_X9_in (nI vd) 0 9 = some 1 from e]
  simp only [ojB1_s, if10]
  unfold f_X6_tell
  rw [show nI va * 501 + nI vb = nI (va * 501 + vb) from by rw [show (501 : Int32) = nI 501 from rfl, pk_mul, nI_add], show (501 : Int32) * nI va + nI vb = nI (va * 501 + vb) from by rw [show (501 : Int32) = nI 501 from rfl, pk_mul, nI_add, Nat.mul_comm]]
  simp only [ojChk_nI (show va * 501 + vb < 1503 by omega) (by decide), nI_clamp (show va * 501 + vb < 2 ^ 31 by omega), ojLet_s, ojBv_s]
  refine ⟨1, _, _, rfl, rfl, N, S, K, P, hN, hS, hK, hP, hnet, ?_, hfs, hlq, hlo, haw, Rfl_fr hfl (fun k _ _ => ojU_ne (by omega)) rfl ⟨rfl, rfl, rfl, rfl, rfl, rfl, rfl, rfl⟩, hskd, hhr, hpt, hbm, ?_⟩
  · intro j hj
    show ∃ x y, x ≤ 4 ∧ y ≤ 9 ∧ upd (σ 8) (va * 501 + vb) (nI vc * 10 + nI vd) j = nI (x * 10 + y) ∧ upd (τ 3) (va * 501 + vb) (nI vc) j = nI x ∧ upd (τ 4) (va * 501 + vb) (nI vd) j = nI y
    by_cases hq : j = va * 501 + vb
    · subst hq
      refine ⟨vc, vd, hc, hd, ?_, upd_eq, upd_eq⟩
      rw [upd_eq, show (10 : Int32) = nI 10 from rfl, pk_mul, nI_add]
    · rw [upd_ne hq, upd_ne hq, upd_ne hq]
      exact hsky j hj
  · intro i hi
    rw [ojU_ne (show 31 + i ≠ 8 by omega), ojU_ne (show 39 + i ≠ 8 by omega)]
    obtain ⟨h1, h2⟩ := hsh i hi
    refine ⟨fun hiP => ?_, h2⟩
    obtain ⟨e1, e2, m, hh, aa, g1, g2, g3, g4, g5, g6, g7, g8⟩ := h1 hiP
    refine ⟨e1, e2, m, hh, aa, g1, g2, g3, g4, g5, g6, g7, fun cc hcc => ?_⟩
    have key : ∀ n, n ≤ N - hh → ∀ x, rch (τ 1) (upd (τ 3) (va * 501 + vb) (nI vc)) aa hh n x ↔ rch (τ 1) (τ 3) aa hh n x := by
      intro n
      induction n with
      | zero => intro _ x; exact Iff.rfl
      | succ n ih =>
        intro hn x
        simp only [rch]
        rw [upd_ne (show hh + n ≠ va * 501 + vb by omega)]
        constructor
        · rintro (q | ⟨q1, b, q2, q3, q4⟩)
          · exact Or.inl ((ih (by omega) x).mp q)
          · exact Or.inr ⟨q1, b, q2, (ih (by omega) b).mp q3, q4⟩
        · rintro (q | ⟨q1, b, q2, q3, q4⟩)
          · exact Or.inl ((ih (by omega) x).mpr q)
          · exact Or.inr ⟨q1, b, q2, (ih (by omega) b).mpr q3, q4⟩
    have k2 := key (N - hh) (Nat.le_refl _) cc
    exact ⟨fun q => (g8 cc hcc).1 (k2.mp q), fun q => (g8 cc hcc).2 (fun q2 => q (k2.mpr q2))⟩
theorem st_part {σ τ : ojS} (h : RRR σ τ) (a b : Int32) : stp (f_X8_part a b σ) (f_X9_part a b τ) := by
  obtain ⟨N, S, K, P, hN, hS, hK, hP, hnet, hsky, hfs, hlq, hlo, haw, hfl, hskd, hhr, hpt, hbm, hsh⟩ := id h
  unfold f_X8_part f_X9_part
  simp only [isWithin_eq]
  rcases in_cases a 0 3 (by decide) (by decide) with e | ⟨va, -, ha, rfl, e⟩
  · rw [show f_X9_in a 0 3 = some 0 from e]; exact ⟨0, σ, τ, rfl, rfl, h⟩
  rw [show f_X9_in (nI va) 0 3 = some 1 from e]
  simp only [ojB1_s, if10]
  rcases in_cases b 0 100 (by decide) (by decide) with e | ⟨vb, -, hb, rfl, e⟩
  · rw [show f_X9_in b 0 100 = some 0 from e]; exact ⟨0, σ, τ, rfl, rfl, h⟩
  rw [show f_X9_in (nI vb) 0 100 = some 1 from e]
  simp only [ojB1_s, if10]
  simp only [ojChk_nI (show va < 4 by omega) (by decide), nI_clamp (show va < 2 ^ 31 by omega), ojLet_s]
  refine ⟨1, _, _, rfl, rfl, N, S, K, P, hN, hS, hK, hP, hnet, hsky, hfs, hlq, hlo, haw, Rfl_fr hfl (fun k _ _ => ojU_ne (by omega)) rfl ⟨rfl, rfl, rfl, rfl, rfl, rfl, rfl, rfl⟩, hskd, hhr, ?_, hbm, Rshs_fr hsh (fun k _ _ => ojU_ne (by omega)) ⟨rfl, rfl, rfl, rfl, rfl⟩⟩
  intro i hi
  show ∃ v, v ≤ 100 ∧ upd (σ 14) va (nI vb) i = nI v ∧ upd (τ 20) va (nI vb) i = nI v
  by_cases hq : i = va
  · subst hq; exact ⟨vb, hb, upd_eq, upd_eq⟩
  · rw [upd_ne hq, upd_ne hq]; exact hpt i hi
theorem st_oil {σ τ : ojS} (h : RRR σ τ) (a : Int32) : ∃ r, f_X8_oil a σ = some r ∧ f_X9_oil a τ = some r := by
  obtain ⟨N, S, K, P, hN, hS, hK, hP, hnet, hsky, hfs, hlq, hlo, haw, hfl, hskd, hhr, hpt, hbm, hsh⟩ := id h
  unfold f_X8_oil f_X9_oil
  rcases cell_cases a with ⟨h1, h2⟩ | ⟨c, hc, rfl, h1, h2⟩
  · rw [h1, h2]; exact ⟨_, rfl, rfl⟩
  · rw [h1, h2]
    simp only [ojB1_s, if10]
    simp only [ojChk_nI hc (by decide), nI_clamp (show c < 2 ^ 31 by omega)]
    obtain ⟨L, t, q1, -⟩ := hlq
    exact ⟨_, rfl, by rw [(q1 c hc).2, ← (q1 c hc).1]⟩
theorem st_told {σ τ : ojS} (h : RRR σ τ) (a b : Int32) : ∃ r, f_X8_told a b σ = some r ∧ f_X9_told a b τ = some r := by
  obtain ⟨N, S, K, P, hN, hS, hK, hP, hnet, hsky, hfs, hlq, hlo, haw, hfl, hskd, hhr, hpt, hbm, hsh⟩ := id h
  unfold f_X8_told f_X9_told
  rcases has_eq a σ K hK.1 hK.2.1 with ⟨h1, h2⟩ | ⟨i, hi, rfl, h1, h2⟩
  · rw [h1, h2 τ hK.2.2]; exact ⟨_, rfl, rfl⟩
  · have hK4 := hK.1
    rw [h1, h2 τ hK.2.2]
    simp only [ojB1_s, if10]
    simp only [ojChk_nI (show i < 4 by omega) (by decide), nI_clamp (show i < 2 ^ 31 by omega)]
    obtain ⟨g1, g2, g3, g4, g5, g6⟩ := hfl i (by omega)
    obtain ⟨e1, e2, e3, e4, -⟩ := g5 hi
    by_cases c0 : b = 0
    · rw [if_pos c0, if_pos c0]; exact ⟨_, rfl, by rw [e1]⟩
    · rw [if_neg c0, if_neg c0]
      by_cases c1 : b = 1
      · rw [if_pos c1, if_pos c1]; exact ⟨_, rfl, by rw [← g1]⟩
      · rw [if_neg c1, if_neg c1]
        by_cases c2 : b = 2
        · rw [if_pos c2, if_pos c2]; exact ⟨_, rfl, by rw [← g2, g1]⟩
        · rw [if_neg c2, if_neg c2]
          by_cases c3 : b = 3
          · rw [if_pos c3, if_pos c3, g3]
            by_cases c4 : τ 16 i = 0
            · rw [if_pos c4]; exact ⟨_, rfl, rfl⟩
            · rw [if_neg c4]; exact ⟨_, rfl, rfl⟩
          · rw [if_neg c3, if_neg c3]; exact ⟨_, rfl, rfl⟩
theorem st_empty {σ τ : ojS} (h : RRR σ τ) (a : Int32) : stp (f_X8_empty a σ) (f_X9_empty a τ) := by
  obtain ⟨N, S, K, P, hN, hS, hK, hP, hnet, hsky, hfs, hlq, hlo, haw, hfl, hskd, hhr, hpt, hbm, hsh⟩ := id h
  unfold f_X8_empty f_X9_empty
  rcases has_eq a σ K hK.1 hK.2.1 with ⟨h1, h2⟩ | ⟨i, hi, rfl, h1, h2⟩
  · rw [h1, h2 τ hK.2.2]; exact ⟨_, σ, τ, rfl, rfl, h⟩
  · have hK4 := hK.1
    rw [h1, h2 τ hK.2.2]
    simp only [ojB1_s, ojLet_s, if10]
    have hi4 : i < 4 := by omega
    simp only [ojChk_nI hi4 (by decide), nI_clamp (show i < 2 ^ 31 by omega)]
    obtain ⟨g1, g2, g3, g4, g5, g6⟩ := hfl i hi4
    refine ⟨σ (27 + 0) i, _, _, rfl, by rw [show σ (27 + 0) i = τ 13 i from g1], N, S, K, P, ?_⟩
    have rd : ∀ k, k ≠ 27 → k ≠ 15 + i → ojU (ojU σ (15 + i) 4 (σ (15 + i) 4 + σ (27 + 0) i)) (27 + 0) i 0 k = σ k := fun k q1 q2 => by rw [ojU_ne q1, ojU_ne q2]
    have rd27 : ojU (ojU σ (15 + i) 4 (σ (15 + i) 4 + σ (27 + 0) i)) (27 + 0) i 0 27 = upd (σ 27) i 0 := by rw [show (27 : Nat) = 27 + 0 from rfl, ojU_eq, ojU_ne (by omega)]
    have rdi : ojU (ojU σ (15 + i) 4 (σ (15 + i) 4 + σ (27 + 0) i)) (27 + 0) i 0 (15 + i) = upd (σ (15 + i)) 4 (σ (15 + i) 4 + σ (27 + 0) i) := by rw [ojU_ne (by omega), ojU_eq]
    refine ⟨by rw [rd 0 (by omega) (by omega)]; exact hN, by rw [rd 0 (by omega) (by omega)]; exact hS, by rw [rd 9 (by omega) (by omega)]; exact hK, by rw [rd 0 (by omega) (by omega)]; exact hP, by rw [rd 2 (by omega) (by omega)]; exact hnet, by rw [rd 8 (by omega) (by omega)]; exact hsky, by rw [rd 0 (by omega) (by omega)]; exact hfs, by rw [rd 23 (by omega) (by omega)]; exact hlq, by rw [rd 19 (by omega) (by omega)]; exact hlo, by rw [rd 19 (by omega) (by omega)]; exact haw, ?_, hskd, by rw [rd 0 (by omega) (by omega)]; exact hhr, by rw [rd 14 (by omega) (by omega)]; exact hpt, by rw [rd 3 (by omega) (by omega), rd 4 (by omega) (by omega), rd 5 (by omega) (by omega), rd 6 (by omega) (by omega)]; exact hbm, ?_⟩
    · intro j hj
      rw [rd27]
      show Rsk K j _ _ (τ 9) (τ 10) (τ 11) (τ 12) (upd (τ 13) i 0) (τ 14) (τ 16) (τ 1)
      by_cases hq : j = i
      · subst hq
        rw [rdi]
        refine ⟨by rw [upd_eq, upd_eq], ?_, by rw [upd_ne (by decide)]; exact g3, g4, fun hjK => ?_, fun hjK => by omega⟩
        · rw [upd_eq, upd_eq, show σ (27 + 0) j = τ 13 j from g1, g2, Int32.add_zero]
        · obtain ⟨e1, e2, e3, e4, a', b', c', d', e', f1, f2, f3, f4, f5, f6, f7, f8, f9, f10, f11, f12, f13⟩ := g5 hjK
          exact ⟨by rw [upd_ne (by decide)]; exact e1, by rw [upd_ne (by decide)]; exact e2, by rw [upd_ne (by decide)]; exact e3, by rw [upd_ne (by decide)]; exact e4, a', b', c', d', 0, f1, f2, f3, f4, f5, f6, f7, f8, f9, f10, f11, by omega, upd_eq⟩
      · rw [rd (15 + j) (by omega) (by omega)]
        obtain ⟨q1, q2, q3, q4, q5, q6⟩ := hfl j hj
        refine ⟨by rw [upd_ne hq, upd_ne hq]; exact q1, by rw [upd_ne hq]; exact q2, q3, q4, fun hjK => ?_, fun hjK => by rw [upd_ne hq]; exact q6 hjK⟩
        rw [upd_ne hq]; exact q5 hjK
    · intro j hj
      rw [rd (31 + j) (by omega) (by omega), rd (39 + j) (by omega) (by omega)]
      exact hsh j hj
