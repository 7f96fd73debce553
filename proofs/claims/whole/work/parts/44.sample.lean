theorem wyN_0 {τ : ojS} {h w : Nat} (hh : h ≤ 500) (e : τ 3 h = nI w) (hw : w ≤ 4) : wyN τ 0 h = (τ 3 h).toNatClampNeg := by
  unfold wyN
  rw [if_pos hh, show 0 * 501 + h = h by omega]
theorem ow_78 {σ τ : ojS} {N P h a : Nat} (hN : N ≤ 500) (ht : σ 0 10 = nI N) (hh : h ≤ N) (hnet : Rnet (σ 2) (τ 1)) (hsky : Rsky (σ 8) (τ 3) (τ 4)) (hA : bitF (fun x => x = a) (σ (39 + P))) :
    ∃ σ', f_X8_ship_78 P (nI h) σ = some (σ 0 9 + 1 - 1, ojU σ' 0 9 (σ 0 9 + 1)) ∧ (∀ k, k ≠ 39 + P → σ' k = σ k) ∧ bitF (rch (τ 1) (τ 3) a h (N - h)) (σ' (39 + P)) := by
  unfold f_X8_ship_78
  refine ojFix_inv (bot := fun _ _ => none) (fun (r : Int32 → ojS → Option (Int32 × ojS)) (q : Int32 × ojS) => r q.1 q.2) _ (fun t q => q.1 = nI (h + t) ∧ (∀ k, k ≠ 39 + P → q.2 k = σ k) ∧ bitF (rch (τ 1) (τ 3) a h t) (q.2 (39 + P))) (fun z => ∃ σ', z = some (σ 0 9 + 1 - 1, ojU σ' 0 9 (σ 0 9 + 1)) ∧ (∀ k, k ≠ 39 + P → σ' k = σ k) ∧ bitF (rch (τ 1) (τ 3) a h (N - h)) (σ' (39 + P))) (N - h) ?_ ?_ 600 0 (nI h, σ) (by omega) (by omega) ⟨rfl, fun _ _ => rfl, hA⟩
  · rintro r t ⟨j, s⟩ htl ⟨h1, h2, h3⟩
    dsimp only at h1 h2 h3 ⊢
    subst h1
    have e0 : s 0 10 = nI N := by rw [h2 0 (by omega), ht]
    rw [if_neg (show ¬ s 0 10 ≤ nI (h + t) by rw [e0]; exact nI_ge (by omega) (by omega))]
    obtain ⟨σ', b1, b2, b3⟩ := ow_spread (σ := s) (τ := τ) (n := P) (h := h + t) (by rw [h2 2 (by omega)]; exact hnet) (by rw [h2 8 (by omega)]; exact hsky) (by omega) h3
    rw [b1]
    simp only [ojBv_s, ojLet_s]
    refine Or.inl ⟨(nI (h + t) + 1, σ'), ⟨nI_1 _, fun k hk => by dsimp only; rw [b2 k hk, h2 k hk], ?_⟩, rfl⟩
    dsimp only
    refine bitF_iff b3 (fun x hx => ?_)
    obtain ⟨w, y, q1, -, -, q2, -⟩ := hsky (h + t) (by omega)
    rw [wyN_0 (w := w) (by omega) q2 q1]
    exact Iff.rfl
  · rintro r ⟨j, s⟩ ⟨h1, h2, h3⟩
    dsimp only at h1 h2 h3 ⊢
    subst h1
    have e0 : s 0 10 = nI N := by rw [h2 0 (by omega), ht]
    rw [if_pos (show s 0 10 ≤ nI (h + (N - h)) by rw [e0]; exact nI_le (by omega) (by omega))]
    simp only [ojLet_s]
    refine ⟨s, ?_, h2, h3⟩
    rw [ojU_eq, upd_eq, h2 0 (by omega)]
theorem st_ship {σ τ : ojS} (h : RRR σ τ) (a b c : Int32) : stp (f_X8_ship a b c σ) (f_X9_ship a b c τ) := by
  obtain ⟨N, S, K, P, hR⟩ := id h
  obtain ⟨hN, hS, hK, hP, hnet, hsky, hfs, hlq, hlo, haw, hfl, hskd, hhr, hpt, hbm, hsh⟩ := id hR
  unfold f_X8_ship f_X9_ship
  simp only [isWithin_eq]
  rcases in_cases a 0 999999 (by decide) (by decide) with e | ⟨va, -, ha, rfl, e⟩
  · rw [show f_X9_in a 0 999999 = some 0 from e]; exact ⟨_, σ, τ, rfl, rfl, h⟩
  rw [show f_X9_in (nI va) 0 999999 = some 1 from e]
  simp only [ojB1_s, if10, ifF]
  rcases sea_cases hnet b with ⟨e1, e2⟩ | ⟨vb, hvb, rfl, -, hsea, e1, e2⟩
  · rw [e1, e2]; exact ⟨_, σ, τ, rfl, rfl, h⟩
  rw [e1, e2]
  simp only [ojB1_s, if10, ifF]
  have hN1 := hN.1
  rw [hN.2.1, hN.2.2]
  rcases in_cases c 0 N (by omega) (by decide) with e | ⟨vc, -, hc, rfl, e⟩
  · rw [show f_X9_in c 0 (nI N) = some 0 from e]; exact ⟨_, σ, τ, rfl, rfl, h⟩
  rw [show f_X9_in (nI vc) 0 (nI N) = some 1 from e]
  simp only [ojB1_s, if10, ifF]
  have hP8 := hP.1
  rw [hP.2.1, hP.2.2]
  by_cases hP0 : P = 8
  · rw [if_neg (show ¬ nI P < 8 by rw [hP0]; decide), if_pos (show nI P = 8 by rw [hP0]; rfl)]
    exact ⟨_, σ, τ, rfl, rfl, h⟩
  have hPl : P < 8 := by omega
  rw [if_pos (show nI P < 8 from (nI_ltI (b := 8) (by omega) (by decide)).mpr hPl), if_neg (show ¬ nI P = 8 from fun q => hP0 ((nI_eq (b := 8) (by omega) (by decide)).mp q))]
  have t23 : τ 0 23 = nI P := hP.2.2
  simp only [ojChk_nI hPl (by decide), nI_clamp (show P < 2 ^ 31 by omega), ojChk_nI hvb (by decide), nI_clamp (show vb < 2 ^ 31 by omega), ojLet_s, nar_1]
  have u1 : ojU τ 17 P (nI va) 0 23 = nI P := t23
  simp only [u1, ojChk_nI hPl (by decide), nI_clamp (show P < 2 ^ 31 by omega)]
  have u2 : ojU (ojU τ 17 P (nI va)) 18 P (nI vb) 0 23 = nI P := t23
  simp only [u2, ojChk_nI hPl (by decide), nI_clamp (show P < 2 ^ 31 by omega)]
  have u3 : ojU (ojU (ojU τ 17 P (nI va)) 18 P (nI vb)) 19 P (nI vc) 0 23 = nI P := t23
  rw [u3]
  have cs : ∀ k, k ≠ 31 + P → k ≠ 39 + P → ojU (ojU (ojU σ (31 + P) 0 (nI va)) (31 + P) 1 (nI vb)) (39 + P) vb 1 k = σ k := fun k h1 h2 => by rw [ojU_ne h2, ojU_ne h1, ojU_ne h1]
  have csP : ojU (ojU (ojU σ (31 + P) 0 (nI va)) (31 + P) 1 (nI vb)) (39 + P) vb 1 (31 + P) = upd (upd (σ (31 + P)) 0 (nI va)) 1 (nI vb) := by rw [ojU_ne (by omega), ojU_eq, ojU_eq]
  have csQ : ojU (ojU (ojU σ (31 + P) 0 (nI va)) (31 + P) 1 (nI vb)) (39 + P) vb 1 (39 + P) = upd (σ (39 + P)) vb 1 := by rw [ojU_eq, ojU_ne (by omega), ojU_ne (by omega)]
  generalize ojU (ojU (ojU σ (31 + P) 0 (nI va)) (31 + P) 1 (nI vb)) (39 + P) vb 1 = σ1 at cs csP csQ ⊢
  have hz := (hsh P hPl).2 (Nat.le_refl _)
  have hbit : bitF (fun x => x = vb) (σ1 (39 + P)) := fun x hx => by
    rw [csQ]
    by_cases q : x = vb
    · subst q; exact ⟨fun _ => upd_eq, fun z => absurd rfl z⟩
    · rw [upd_ne q]; exact ⟨fun z => absurd z q, fun _ => hz x hx⟩
  obtain ⟨σ', b1, b2, b3⟩ := ow_78 (σ := σ1) (τ := τ) (N := N) (P := P) (h := vc) (a := vb) hN1 (by rw [cs 0 (by omega) (by omega)]; exact hN.2.1) hc (by rw [cs 2 (by omega) (by omega)]; exact hnet) (by rw [cs 8 (by omega) (by omega)]; exact hsky) hbit
  rw [b1, cs 0 (by omega) (by omega), hP.2.1]
  have ds : ∀ k, k ≠ 0 → k ≠ 31 + P → k ≠ 39 + P → ojU σ' 0 9 (nI P + 1) k = σ k := fun k q1 q2 q3 => by rw [ojU_ne q1, b2 k q3, cs k q2 q3]
  have d0 : ∀ j, j ≠ 9 → ojU σ' 0 9 (nI P + 1) 0 j = σ 0 j := fun j q => by rw [ojU_eq, upd_ne q, b2 0 (by omega), cs 0 (by omega) (by omega)]
  refine ⟨_, _, _, rfl, by rw [ojU_eq, upd_eq], N, S, K, P + 1, ?_⟩
  refine ⟨by rw [d0 10 (by omega)]; exact hN, by rw [d0 11 (by omega)]; exact hS, by rw [ds 9 (by omega) (by omega) (by omega)]; exact hK, ⟨by omega, by rw [ojU_eq, upd_eq, nI_1], by rw [ojU_eq, upd_eq, nI_1]⟩, by rw [ds 2 (by omega) (by omega) (by omega)]; exact hnet, by rw [ds 8 (by omega) (by omega) (by omega)]; exact hsky, by rw [d0 12 (by omega)]; exact hfs, by rw [ds 23 (by omega) (by omega) (by omega)]; exact hlq, by rw [ds 19 (by omega) (by omega) (by omega)]; exact hlo, by rw [ds 19 (by omega) (by omega) (by omega)]; exact haw, Rfl_fr hfl (fun k _ _ => ds k (by omega) (by omega) (by omega)) (ds 27 (by omega) (by omega) (by omega)) ⟨rfl, rfl, rfl, rfl, rfl, rfl, rfl, rfl⟩, hskd, by rw [d0 13 (by omega)]; exact hhr, by rw [ds 14 (by omega) (by omega) (by omega)]; exact hpt, by rw [ds 3 (by omega) (by omega) (by omega), ds 4 (by omega) (by omega) (by omega), ds 5 (by omega) (by omega) (by omega), ds 6 (by omega) (by omega) (by omega)]; exact hbm, ?_⟩
  intro i hi
  show Rsh (P + 1) N i _ _ (upd (τ 17) P (nI va)) (upd (τ 18) P (nI vb)) (upd (τ 19) P (nI vc)) (τ 1) (τ 3)
  by_cases hq : i = P
  · subst hq
    rw [ojU_ne (show 31 + i ≠ 0 by omega), ojU_ne (show 39 + i ≠ 0 by omega), b2 (31 + i) (by omega), csP]
    refine ⟨fun _ => ?_, fun q => by omega⟩
    exact ⟨by rw [upd_ne (by decide), upd_eq, upd_eq], by rw [upd_eq, upd_eq], va, vc, vb, ha, upd_eq, hc, upd_eq, hvb, upd_eq, hsea, b3⟩
  · rw [ds (31 + i) (by omega) (by omega) (by omega), ds (39 + i) (by omega) (by omega) (by omega)]
    obtain ⟨g1, g2⟩ := hsh i hi
    refine ⟨fun q => ?_, fun q => g2 (by omega)⟩
    rw [upd_ne hq, upd_ne hq, upd_ne hq]
    exact g1 (by omega)
/-! samples -/
theorem mark_eq (a b : Int32) : f_X8_markDifference a b = f_X9_apart a b := by
  unfold f_X8_markDifference f_X9_apart f_X8_markDifference_10 f_X9_apart_10
  simp only [ojLet_s]
theorem apart_some (a b : Int32) : ∃ v, f_X9_apart a b = some v := by
  unfold f_X9_apart f_X9_apart_10
  refine ojFix_inv (bot := fun _ _ _ _ => none) (fun (r : Int32 → Int32 → Int32 → Int32 → Option Int32) (q : Int32 × Int32 × Int32 × Int32) => r q.1 q.2.1 q.2.2.1 q.2.2.2) _ (fun t q => q.2.2.2 = nI t) (fun z => ∃ v, z = some v) 6 ?_ ?_ 600 0 (0, a, b, 0) (by decide) (by decide) rfl
  · rintro r t ⟨q1, q2, q3, q4⟩ ht h
    dsimp only at h ⊢
    subst h
    rw [if_neg (ge_6 ht)]
    simp only [ojLet_s]
    exact Or.inl ⟨(_, _, _, _), nI_1 t, rfl⟩
  · rintro r ⟨q1, q2, q3, q4⟩ h
    dsimp only at h ⊢
    subst h
    rw [if_pos (show (6 : Int32) ≤ nI 6 by decide)]
    exact ⟨_, rfl⟩
def apt (a b : Int32) : Int32 := (f_X9_apart a b).getD 0
theorem apt_eq (a b : Int32) : f_X9_apart a b = some (apt a b) := by
  obtain ⟨v, h⟩ := apart_some a b
  unfold apt
  rw [h]; rfl
noncomputable def bsF (po : Nat → Prop) (mk : Nat → Int32) (d : Int32) : Nat → Option Nat
  | 0 => none
  | k + 1 => @ite (Option Nat) (po k) (Classical.propDecidable _) (match bsF po mk d k with
    | none => some k
    | some b => if apt (mk b) d ≤ apt (mk k) d then some b else some k) (bsF po mk d k)
def bsI (o : Option Nat) : Int32 := match o with
  | none => -1
  | some b => nI b
theorem bsF_lt {po : Nat → Prop} {mk : Nat → Int32} {d : Int32} : ∀ {k b : Nat}, bsF po mk d k = some b → b < k ∧ po b
  | 0, b, h => by cases h
  | k + 1, b, h => by
    rw [bsF] at h
    by_cases hp : po k
    · rw [if_pos hp] at h
      cases hb : bsF po mk d k with
      | none => rw [hb] at h; cases h; exact ⟨by omega, hp⟩
      | some c =>
        rw [hb] at h
        dsimp only at h
        have := bsF_lt hb
        split at h
        · cases h; exact ⟨by omega, this.2⟩
        · cases h; exact ⟨by omega, hp⟩
    · rw [if_neg hp] at h
      have := bsF_lt h
      exact ⟨by omega, this.2⟩
theorem bsF_none {po : Nat → Prop} {mk : Nat → Int32} {d : Int32} : ∀ {k : Nat}, bsF po mk d k = none → ∀ j, j < k → ¬ po j
  | 0, _, j, hj => by omega
  | k + 1, h, j, hj => by
    rw [bsF] at h
    by_cases hp : po k
    · rw [if_pos hp] at h
      cases hb : bsF po mk d k with
      | none => rw [hb] at h; cases h
      | some c =>
        rw [hb] at h
        dsimp only at h
        split at h <;> cases h
    · rw [if_neg hp] at h
      by_cases e : j = k
      · subst e; exact hp
      · exact bsF_none h j (by omega)
def Dbt (po : Nat → Prop) (mk : Nat → Int32) (d bnd : Int32) (P : Nat) (o : Option Nat) : Prop := ∃ i, i < P ∧ o ≠ some i ∧ po i ∧ ¬ bnd ≤ apt (mk i) d
theorem bsI_ne {o : Option Nat} {i : Nat} (hi : i < 8) (ho : ∀ b, o = some b → b < 8) : nI i = bsI o ↔ o = some i := by
  cases o with
  | none => exact ⟨fun h => absurd h (nI_ne_m1 (by omega)), fun h => by cases h⟩
  | some b =>
    have := ho b rfl
    exact ⟨fun h => by rw [nI_inj (by omega) (by omega) h], fun h => by cases h; rfl⟩
theorem ow_doubt {σ : ojS} {P c : Nat} {po : Nat → Prop} {d bnd : Int32} {o : Option Nat} (hP : P ≤ 8) (h9 : σ 0 9 = nI P) (hc : c < 96) (hpo : ∀ i, i < P → (po i ∧ σ (39 + i) c = 1) ∨ (¬ po i ∧ σ (39 + i) c = 0)) (ho : ∀ b, o = some b → b < 8) :
    (Dbt po (fun i => σ (31 + i) 0) d bnd P o ∧ f_X8_isDoubtful (bsI o) bnd (nI c) d σ = some 1) ∨ (¬ Dbt po (fun i => σ (31 + i) 0) d bnd P o ∧ f_X8_isDoubtful (bsI o) bnd (nI c) d σ = some 0) := by
  unfold f_X8_isDoubtful f_X8_isDoubtful_3
  refine ojFix_inv (bot := fun _ => none) (fun (r : Int32 → Option Int32) a => r a) _ (fun t a => a = nI t ∧ ∀ i, i < t → ¬ (o ≠ some i ∧ po i ∧ ¬ bnd ≤ apt (σ (31 + i) 0) d)) (fun z => (Dbt po (fun i => σ (31 + i) 0) d bnd P o ∧ z = some 1) ∨ (¬ Dbt po (fun i => σ (31 + i) 0) d bnd P o ∧ z = some 0)) P ?_ ?_ 600 0 0 (by omega) (by omega) ⟨rfl, fun i hi => by omega⟩
  · rintro r t a ht ⟨rfl, hI⟩
    try dsimp only
    rw [if_neg (show ¬ σ 0 9 ≤ nI t by rw [h9]; exact nI_ge ht (by omega))]
    have t8 : t < 8 := by omega
    simp only [ojChk_nI t8 (by decide), nI_clamp (show t < 2 ^ 31 by omega), ojChk_nI hc (by decide), nI_clamp (show c < 2 ^ 31 by omega), ojLet_s, mark_eq, apt_eq, ojB1_s]
    have nx : ¬ (o ≠ some t ∧ po t ∧ ¬ bnd ≤ apt (σ (31 + t) 0) d) → ∃ a', (a' = nI (t + 1) ∧ ∀ i, i < t + 1 → ¬ (o ≠ some i ∧ po i ∧ ¬ bnd ≤ apt (σ (31 + i) 0) d)) ∧ r (nI t + 1) = r a' := fun hn => ⟨_, ⟨nI_1 t, fun i hi => by
      by_cases e : i = t
      · subst e; exact hn
      · exact hI i (by omega)⟩, rfl⟩
    by_cases c1 : nI t = bsI o
    · rw [if_pos c1]
      exact Or.inl (nx (fun q => q.1 ((bsI_ne t8 ho).mp c1)))
    · rw [if_neg c1]
      have c1' : o ≠ some t := fun q => c1 ((bsI_ne t8 ho).mpr q)
      rcases hpo t ht with ⟨p1, p2⟩ | ⟨p1, p2⟩
      · rw [if_neg (by rw [p2]; decide)]
        by_cases c2 : bnd ≤ apt (σ (31 + t) 0) d
        · rw [if_pos c2]
          exact Or.inl (nx (fun q => q.2.2 c2))
        · rw [if_neg c2]
          exact Or.inr (Or.inl ⟨⟨t, ht, c1', p1, c2⟩, rfl⟩)
      · rw [if_pos p2]
        exact Or.inl (nx (fun q => p1 q.2.1))
  · rintro r a ⟨rfl, hI⟩
    try dsimp only
    rw [if_pos (show σ 0 9 ≤ nI P by rw [h9]; exact Int32.le_refl _)]
    exact Or.inr ⟨fun ⟨i, hi, q⟩ => hI i hi q, rfl⟩
theorem ow_31 {σ : ojS} {P c : Nat} {po : Nat → Prop} {d : Int32} (hP : P ≤ 8) (h9 : σ 0 9 = nI P) (hc : c < 96) (hpo : ∀ i, i < P → (po i ∧ σ (39 + i) c = 1) ∨ (¬ po i ∧ σ (39 + i) c = 0)) :
    ∃ v : Int32, (∀ b, bsF po (fun i => σ (31 + i) 0) d P = some b → v = apt (σ (31 + b) 0) d) ∧ f_X8_sample_31 (nI c) d (-1) 0 0 σ = ojB1 (f_X8_isDoubtful (bsI (bsF po (fun i => σ (31 + i) 0) d P)) (v + 5) (nI c) d σ) (fun r3 => if r3 = 0 then some (bsI (bsF po (fun i => σ (31 + i) 0) d P)) else some (-2)) := by
  unfold f_X8_sample_31
  refine ojFix_inv (bot := fun _ _ _ => none) (fun (r : Int32 → Int32 → Int32 → Option Int32) (q : Int32 × Int32 × Int32) => r q.1 q.2.1 q.2.2) _ (fun t q => q.2.2 = nI t ∧ q.1 = bsI (bsF po (fun i => σ (31 + i) 0) d t) ∧ ∀ b, bsF po (fun i => σ (31 + i) 0) d t = some b → q.2.1 = apt (σ (31 + b) 0) d) (fun z => ∃ v : Int32, (∀ b, bsF po (fun i => σ (31 + i) 0) d P = some b → v = apt (σ (31 + b) 0) d) ∧ z = ojB1 (f_X8_isDoubtful (bsI (bsF po (fun i => σ (31 + i) 0) d P)) (v + 5) (nI c) d σ) (fun r3 => if r3 = 0 then some (bsI (bsF po (fun i => σ (31 + i) 0) d P)) else some (-2))) P ?_ ?_ 600 0 (-1, 0, 0) (by omega) (by omega) ⟨rfl, rfl, fun b h => by cases h⟩
  · rintro r t ⟨v3, v4, v5⟩ ht ⟨h1, h2, h3⟩
    dsimp only at h1 h2 h3 ⊢
    subst h1
    rw [if_neg (show ¬ σ 0 9 ≤ nI t by rw [h9]; exact nI_ge ht (by omega))]
    have t8 : t < 8 := by omega
    simp only [ojChk_nI t8 (by decide), nI_clamp (show t < 2 ^ 31 by omega), ojChk_nI hc (by decide), nI_clamp (show c < 2 ^ 31 by omega), ojLet_s, mark_eq, apt_eq, ojB1_s]
    rcases hpo t ht with ⟨p1, p2⟩ | ⟨p1, p2⟩
    · rw [if_neg (by rw [p2]; decide)]
      cases hb : bsF po (fun i => σ (31 + i) 0) d t with
      | none =>
        rw [hb] at h2
        rw [if_pos (show v3 = -1 from h2)]
        refine Or.inl ⟨(nI t, apt (σ (31 + t) 0) d, nI t + 1), ⟨nI_1 t, ?_, fun b q => ?_⟩, rfl⟩
        · dsimp only
          rw [bsF, if_pos p1, hb]; rfl
        · rw [bsF, if_pos p1, hb] at q
          cases q; rfl
      | some b =>
        rw [hb] at h2
        have hb8 := (bsF_lt hb).1
        rw [if_neg (show ¬ v3 = -1 by rw [h2]; exact nI_ne_m1 (by omega))]
        have h3b := h3 b hb
        rw [h3b]
        by_cases c2 : apt (σ (31 + b) 0) d ≤ apt (σ (31 + t) 0) d
        · rw [if_pos c2]
          refine Or.inl ⟨(v3, apt (σ (31 + b) 0) d, nI t + 1), ⟨nI_1 t, ?_, fun b' q => ?_⟩, rfl⟩
          · dsimp only
            rw [bsF, if_pos p1, hb, h2]
            dsimp only
            rw [if_pos c2]
          · rw [bsF, if_pos p1, hb] at q
            dsimp only at q
            rw [if_pos c2] at q
            cases q; rfl
        · rw [if_neg c2]
          refine Or.inl ⟨(nI t, apt (σ (31 + t) 0) d, nI t + 1), ⟨nI_1 t, ?_, fun b' q => ?_⟩, rfl⟩
          · dsimp only
            rw [bsF, if_pos p1, hb]
            dsimp only
            rw [if_neg c2]; rfl
          · rw [bsF, if_pos p1, hb] at q
            dsimp only at q
            rw [if_neg c2] at q
            cases q; rfl
    · rw [if_pos p2]
      refine Or.inl ⟨(v3, v4, nI t + 1), ⟨nI_1 t, ?_, fun b q => ?_⟩, rfl⟩
      · dsimp only
        rw [bsF, if_neg p1]; exact h2
      · rw [bsF, if_neg p1] at q
        exact h3 b q
  · rintro r ⟨v3, v4, v5⟩ ⟨h1, h2, h3⟩
    dsimp only at h1 h2 h3 ⊢
    subst h1
    rw [if_pos (show σ 0 9 ≤ nI P by rw [h9]; exact Int32.le_refl _)]
    rw [h2]
    exact ⟨v4, h3, rfl⟩
