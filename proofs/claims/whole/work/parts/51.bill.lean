theorem nsum_mono {f : Nat → Nat} {a : Nat} : ∀ {n : Nat}, a ≤ n → nsum f a ≤ nsum f n
  | 0, h => by rw [show a = 0 by omega]; exact Nat.le_refl _
  | n + 1, h => by
    by_cases q : a = n + 1
    · rw [q]; exact Nat.le_refl _
    · rw [nsum]; exact Nat.le_trans (nsum_mono (show a ≤ n by omega)) (Nat.le_add_right _ _)
theorem nsum_lt {f g : Nat → Nat} {i : Nat} : ∀ {n : Nat}, (∀ k, k < n → f k ≤ g k) → i < n → f i < g i → nsum f n < nsum g n
  | 0, _, h, _ => by omega
  | n + 1, h, hi, hlt => by
    rw [nsum, nsum]
    by_cases q : i = n
    · subst q
      exact Nat.add_lt_add_of_le_of_lt (nsum_le (fun k hk => h k (by omega))) hlt
    · exact Nat.add_lt_add_of_lt_of_le (nsum_lt (fun k hk => h k (by omega)) (by omega) hlt) (h n (by omega))
theorem nI_dec (k : Nat) : nI (k + 1) + (-1) = nI k := by
  rw [← Int32.sub_eq_add_neg, show (1 : Int32) = nI 1 from rfl, pk_sub (by omega)]; rfl
def ahd (m : Nat → Nat) (i : Nat) : Nat := nsum (fun j => if m i < m j ∨ (m j = m i ∧ j < i) then 1 else 0) 4
def q4 (a b c d : Nat) (i : Nat) : Nat := if i = 0 then a else if i = 1 then b else if i = 2 then c else d
def q4n (n i : Nat) : Nat := q4 (n % 4) (n / 4 % 4) (n / 16 % 4) (n / 64) i
theorem ahd_fn1 : ∀ n, n < 256 → ∀ t, t < 4 → (t ≤ ahd (q4n n) 0 ∨ t ≤ ahd (q4n n) 1 ∨ t ≤ ahd (q4n n) 2 ∨ t ≤ ahd (q4n n) 3) := by decide +kernel
def bfb (m : Nat → Nat) (t i j : Nat) : Bool := decide ((m i < m j ∨ (m j = m i ∧ j < i)) ∧ t ≤ ahd m j)
def bfc (m : Nat → Nat) (t i : Nat) : Bool := decide (ahd m i = t) || (decide (ahd m i < t) || (bfb m t i 0 || (bfb m t i 1 || (bfb m t i 2 || bfb m t i 3))))
theorem ahd_fn2 : ∀ n, n < 256 → ∀ t, t < 4 → ∀ i, i < 4 → bfc (q4n n) t i = true := by decide +kernel
theorem bfb_t {m : Nat → Nat} {t i j : Nat} (h : bfb m t i j = true) : (m i < m j ∨ (m j = m i ∧ j < i)) ∧ t ≤ ahd m j := of_decide_eq_true h
theorem bfc_t {m : Nat → Nat} {t i : Nat} (h : bfc m t i = true) : ahd m i = t ∨ ahd m i < t ∨ bfb m t i 0 = true ∨ bfb m t i 1 = true ∨ bfb m t i 2 = true ∨ bfb m t i 3 = true := by
  unfold bfc at h
  simp only [Bool.or_eq_true, decide_eq_true_eq] at h
  exact h
theorem ahd_fn3 : ∀ n, n < 256 → ∀ i, i < 4 → ∀ j, j < 4 → (ahd (q4n n) i ≠ ahd (q4n n) j ∨ i = j) := by decide +kernel
theorem q4n_eq {a b c d : Nat} (ha : a < 4) (hb : b < 4) (hc : c < 4) (hd : d < 4) : q4n (a + 4 * b + 16 * c + 64 * d) = q4 a b c d := by
  funext i
  unfold q4n
  rw [show (a + 4 * b + 16 * c + 64 * d) % 4 = a by omega, show (a + 4 * b + 16 * c + 64 * d) / 4 % 4 = b by omega, show (a + 4 * b + 16 * c + 64 * d) / 16 % 4 = c by omega, show (a + 4 * b + 16 * c + 64 * d) / 64 = d by omega]
theorem ahd_fin : ∀ a, a < 4 → ∀ b, b < 4 → ∀ c, c < 4 → ∀ d, d < 4 → ∀ t, t < 4 → (∃ i, i < 4 ∧ t ≤ ahd (q4 a b c d) i) ∧ ∀ i, i < 4 → t ≤ ahd (q4 a b c d) i → (∀ j, j < 4 → (q4 a b c d i < q4 a b c d j ∨ (q4 a b c d j = q4 a b c d i ∧ j < i)) → ahd (q4 a b c d) j < t) → ahd (q4 a b c d) i = t := by
  intro a ha b hb c hc d hd t ht
  rw [← q4n_eq ha hb hc hd]
  refine ⟨?_, fun i hi h1 h2 => ?_⟩
  · rcases ahd_fn1 (a + 4 * b + 16 * c + 64 * d) (by omega) t ht with q | q | q | q
    · exact ⟨0, by omega, q⟩
    · exact ⟨1, by omega, q⟩
    · exact ⟨2, by omega, q⟩
    · exact ⟨3, by omega, q⟩
  · rcases bfc_t (ahd_fn2 (a + 4 * b + 16 * c + 64 * d) (by omega) t ht i hi) with q | q | q | q | q | q
    · exact q
    · omega
    · have := bfb_t q; have := h2 0 (by omega) this.1; omega
    · have := bfb_t q; have := h2 1 (by omega) this.1; omega
    · have := bfb_t q; have := h2 2 (by omega) this.1; omega
    · have := bfb_t q; have := h2 3 (by omega) this.1; omega
theorem ahd_inj_fin : ∀ a, a < 4 → ∀ b, b < 4 → ∀ c, c < 4 → ∀ d, d < 4 → ∀ i, i < 4 → ∀ j, j < 4 → ahd (q4 a b c d) i = ahd (q4 a b c d) j → i = j := by
  intro a ha b hb c hc d hd i hi j hj h
  rw [← q4n_eq ha hb hc hd] at h
  rcases ahd_fn3 (a + 4 * b + 16 * c + 64 * d) (by omega) i hi j hj with q | q
  · exact absurd h q
  · exact q
def rnk (m : Nat → Nat) (i : Nat) : Nat := nsum (fun j => if m j < m i then 1 else 0) 4
theorem rnk_lt {m : Nat → Nat} {i : Nat} (hi : i < 4) : rnk m i < 4 := by
  have h1 : nsum (fun j => if m j < m i then 1 else 0) 4 < nsum (fun _ => 1) 4 := nsum_lt (i := i) (fun k _ => by split <;> omega) hi (by rw [if_neg (Nat.lt_irrefl _)]; omega)
  exact h1
theorem rnk_iff {m : Nat → Nat} {i j : Nat} (hi : i < 4) : rnk m i < rnk m j ↔ m i < m j := by
  constructor
  · intro h
    refine Decidable.byContradiction fun q => ?_
    have : rnk m j ≤ rnk m i := nsum_le (fun k _ => by
      by_cases h1 : m k < m j
      · rw [if_pos h1, if_pos (by omega)]; exact Nat.le_refl _
      · rw [if_neg h1]; exact Nat.zero_le _)
    omega
  · intro h
    refine nsum_lt (i := i) (fun k _ => ?_) hi ?_
    · by_cases h1 : m k < m i
      · rw [if_pos h1, if_pos (by omega)]; exact Nat.le_refl _
      · rw [if_neg h1]; exact Nat.zero_le _
    · rw [if_neg (Nat.lt_irrefl _), if_pos h]; omega
theorem rnk_eq {m : Nat → Nat} {i j : Nat} (hi : i < 4) (hj : j < 4) : rnk m i = rnk m j ↔ m i = m j := by
  have h1 := rnk_iff (m := m) (i := i) (j := j) hi
  have h2 := rnk_iff (m := m) (i := j) (j := i) hj
  constructor
  · intro h
    have a1 : ¬ rnk m i < rnk m j := by omega
    have a2 : ¬ rnk m j < rnk m i := by omega
    rw [h1] at a1; rw [h2] at a2; omega
  · intro h
    have a1 : ¬ m i < m j := by omega
    have a2 : ¬ m j < m i := by omega
    rw [← h1] at a1; rw [← h2] at a2; omega
theorem q4_at {f : Nat → Nat} {i : Nat} (hi : i < 4) : q4 (f 0) (f 1) (f 2) (f 3) i = f i := by
  unfold q4
  by_cases h0 : i = 0
  · rw [if_pos h0, h0]
  · rw [if_neg h0]
    by_cases h1 : i = 1
    · rw [if_pos h1, h1]
    · rw [if_neg h1]
      by_cases h2 : i = 2
      · rw [if_pos h2, h2]
      · rw [if_neg h2, show i = 3 by omega]
theorem ite_iff {p q : Prop} [Decidable p] [Decidable q] (h : p ↔ q) : (if p then 1 else 0 : Nat) = if q then 1 else 0 := by
  by_cases hp : p
  · rw [if_pos hp, if_pos (h.mp hp)]
  · rw [if_neg hp, if_neg (fun z => hp (h.mpr z))]
theorem ahd_q4 (m : Nat → Nat) {i : Nat} (hi : i < 4) : ahd m i = ahd (q4 (rnk m 0) (rnk m 1) (rnk m 2) (rnk m 3)) i := nsum_congr (fun j hj => by
  refine ite_iff ?_
  rw [q4_at (f := rnk m) hi, q4_at (f := rnk m) hj, rnk_iff hi, rnk_eq hj hi])
theorem ahd_ex (m : Nat → Nat) {t : Nat} (ht : t < 4) : ∃ i, i < 4 ∧ t ≤ ahd m i := by
  obtain ⟨⟨i, hi, h⟩, -⟩ := ahd_fin (rnk m 0) (rnk_lt (by decide)) (rnk m 1) (rnk_lt (by decide)) (rnk m 2) (rnk_lt (by decide)) (rnk m 3) (rnk_lt (by decide)) t ht
  exact ⟨i, hi, by rw [ahd_q4 m hi]; exact h⟩
theorem ahd_pick (m : Nat → Nat) {t b : Nat} (ht : t < 4) (hb : b < 4) (h1 : t ≤ ahd m b) (h2 : ∀ j, j < 4 → (m b < m j ∨ (m j = m b ∧ j < b)) → ahd m j < t) : ahd m b = t := by
  obtain ⟨-, h⟩ := ahd_fin (rnk m 0) (rnk_lt (by decide)) (rnk m 1) (rnk_lt (by decide)) (rnk m 2) (rnk_lt (by decide)) (rnk m 3) (rnk_lt (by decide)) t ht
  rw [ahd_q4 m hb]
  refine h b hb (by rw [← ahd_q4 m hb]; exact h1) (fun j hj q => ?_)
  rw [← ahd_q4 m hj]
  refine h2 j hj ?_
  rw [q4_at (f := rnk m) hb, q4_at (f := rnk m) hj, rnk_iff hb, rnk_eq hj hb] at q
  exact q
theorem ahd_inj (m : Nat → Nat) {i j : Nat} (hi : i < 4) (hj : j < 4) (h : ahd m i = ahd m j) : i = j := by
  rw [ahd_q4 m hi, ahd_q4 m hj] at h
  exact ahd_inj_fin (rnk m 0) (rnk_lt (by decide)) (rnk m 1) (rnk_lt (by decide)) (rnk m 2) (rnk_lt (by decide)) (rnk m 3) (rnk_lt (by decide)) i hi j hj h
theorem share_arith {B T : Nat} {p : Nat → Nat} (hT : T = nsum p 4) (h0 : 0 < T) : nsum (fun i => B * p i / T) 4 ≤ B ∧ B - nsum (fun i => B * p i / T) 4 ≤ 3 := by
  have d0 := Nat.div_add_mod (B * p 0) T
  have d1 := Nat.div_add_mod (B * p 1) T
  have d2 := Nat.div_add_mod (B * p 2) T
  have d3 := Nat.div_add_mod (B * p 3) T
  have r0 := Nat.mod_lt (B * p 0) h0
  have r1 := Nat.mod_lt (B * p 1) h0
  have r2 := Nat.mod_lt (B * p 2) h0
  have r3 := Nat.mod_lt (B * p 3) h0
  have eT : T * B = B * p 0 + B * p 1 + B * p 2 + B * p 3 := by
    rw [Nat.mul_comm, ← Nat.mul_add, ← Nat.mul_add, ← Nat.mul_add, hT]
    exact congrArg (fun z => B * z) (by show nsum p 4 = _; simp only [nsum]; omega)
  have eq : nsum (fun i => B * p i / T) 4 = B * p 0 / T + B * p 1 / T + B * p 2 / T + B * p 3 / T := by simp only [nsum]; omega
  have eQ : T * nsum (fun i => B * p i / T) 4 = T * (B * p 0 / T) + T * (B * p 1 / T) + T * (B * p 2 / T) + T * (B * p 3 / T) := by rw [eq, Nat.mul_add, Nat.mul_add, Nat.mul_add]
  have l1 : T * nsum (fun i => B * p i / T) 4 ≤ T * B := by omega
  have l2 := Nat.le_of_mul_le_mul_left l1 h0
  refine ⟨l2, ?_⟩
  have l3 : T * (B - nsum (fun i => B * p i / T) 4) < T * 4 := by rw [Nat.mul_sub]; omega
  have := Nat.lt_of_mul_lt_mul_left l3
  omega
def cnb (m : Nat → Nat) (i t : Nat) : Nat := nsum (fun j => if m i < m j ∨ (m j = m i ∧ j < i) then 1 else 0) t
theorem cnb_1 {m : Nat → Nat} {i t : Nat} (h : m i < m t ∨ (m t = m i ∧ t < i)) : cnb m i (t + 1) = cnb m i t + 1 := by unfold cnb; rw [nsum, if_pos h]
theorem cnb_0 {m : Nat → Nat} {i t : Nat} (h : ¬ (m i < m t ∨ (m t = m i ∧ t < i))) : cnb m i (t + 1) = cnb m i t := by unfold cnb; rw [nsum, if_neg h]; rfl
theorem ojNz_nI {α : Type} {T : Nat} {x : Option α} (h0 : 0 < T) (hT : T < 2 ^ 31) : ojNz (nI T) x = x := if_neg (nI_ne0 h0 hT)
theorem ow_share {σ : ojS} {B T a : Nat} {p : Nat → Nat} (hB : B ≤ 2190000) (hp : ∀ i, i < 4 → p i ≤ 100 ∧ σ 14 i = nI (p i)) (hT : T = nsum p 4) (h0 : 0 < T) (ha : a < 4) :
    f_X8_shareOf (nI a) (nI B) (nI T) σ = some (nI (B * p a / T + if ahd (fun i => B * p i % T) a < B - nsum (fun i => B * p i / T) 4 then 1 else 0)) := by
  obtain ⟨s1, s2⟩ := share_arith (B := B) hT h0
  have hT4 : T ≤ 4 * 100 := by rw [hT]; exact nsum_le_mul (fun i hi => (hp i hi).1)
  have hm : ∀ i, i < 4 → B * p i ≤ 2190000 * 100 := fun i hi => Nat.mul_le_mul hB (hp i hi).1
  have hdv : ∀ i, i < 4 → nI B * σ 14 i / nI T = nI (B * p i / T) := fun i hi => by
    have := hm i hi
    rw [(hp i hi).2, pk_mul, pk_div (by omega) h0 (by omega)]
  have hrm : ∀ i, i < 4 → ojRem (nI B * σ 14 i) (nI T) = nI (B * p i % T) := fun i hi => by
    have := hm i hi
    unfold ojRem
    rw [(hp i hi).2, pk_mul, pk_rem (by omega) h0 (by omega)]
  have hrl : ∀ i, B * p i % T < T := fun i => Nat.mod_lt _ h0
  unfold f_X8_shareOf
  rw [if_neg (nI_ne0 h0 (by omega)), ojChk_nI ha (by decide), ojNz_nI h0 (by omega), nI_clamp (by omega), hrm a ha]
  simp only [ojLet_s]
  unfold f_X8_shareOf_27
  refine ojFix_inv (bot := fun _ _ _ => none) (fun (rr : Int32 → Int32 → Int32 → Option Int32) (q : Int32 × Int32 × Int32) => rr q.1 q.2.1 q.2.2) _ (fun t q => q = (nI (B - nsum (fun i => B * p i / T) t), nI (cnb (fun i => B * p i % T) a t), nI t)) (fun z => z = some (nI (B * p a / T + if ahd (fun i => B * p i % T) a < B - nsum (fun i => B * p i / T) 4 then 1 else 0))) 4 ?_ ?_ 600 0 (nI B, 0, 0) (by decide) (by decide) rfl
  · rintro r t q ht rfl
    dsimp only
    have hmo := nsum_mono (f := fun i => B * p i / T) (show t + 1 ≤ 4 by omega)
    have r1 := hrl a
    have r2 := hrl t
    rw [if_neg (ge_4 ht)]
    simp only [ojChk_nI ht (by decide), ojNz_nI h0 (show T < 2 ^ 31 by omega), nI_clamp (show t < 2 ^ 31 by omega), hdv t ht, hrm t ht, ojLet_s]
    rw [pk_sub (by rw [nsum] at hmo; omega), show B - nsum (fun i => B * p i / T) t - B * p t / T = B - nsum (fun i => B * p i / T) (t + 1) by rw [nsum]; omega]
    by_cases c1 : B * p a % T < B * p t % T
    · rw [if_pos ((nI_ltI (by omega) (by omega)).mpr c1), nI_1, nI_1]
      refine Or.inl ⟨(nI (B - nsum (fun i => B * p i / T) (t + 1)), nI (cnb (fun i => B * p i % T) a t + 1), nI (t + 1)), ?_, rfl⟩
      rw [cnb_1 (m := fun i => B * p i % T) (i := a) (t := t) (Or.inl c1)]
    · rw [if_neg (fun z => c1 ((nI_ltI (by omega) (by omega)).mp z))]
      by_cases c2 : B * p t % T = B * p a % T
      · rw [if_pos (congrArg nI c2)]
        by_cases c3 : a ≤ t
        · rw [if_pos (nI_le c3 (by omega)), nI_1]
          refine Or.inl ⟨(nI (B - nsum (fun i => B * p i / T) (t + 1)), nI (cnb (fun i => B * p i % T) a t), nI (t + 1)), ?_, rfl⟩
          rw [cnb_0 (m := fun i => B * p i % T) (i := a) (t := t) (by omega)]
        · rw [if_neg (nI_ge (by omega) (by omega)), nI_1, nI_1]
          refine Or.inl ⟨(nI (B - nsum (fun i => B * p i / T) (t + 1)), nI (cnb (fun i => B * p i % T) a t + 1), nI (t + 1)), ?_, rfl⟩
          rw [cnb_1 (m := fun i => B * p i % T) (i := a) (t := t) (Or.inr ⟨c2, by omega⟩)]
      · rw [if_neg (fun z => c2 (nI_inj (by omega) (by omega) z)), nI_1]
        refine Or.inl ⟨(nI (B - nsum (fun i => B * p i / T) (t + 1)), nI (cnb (fun i => B * p i % T) a t), nI (t + 1)), ?_, rfl⟩
        rw [cnb_0 (m := fun i => B * p i % T) (i := a) (t := t) (by omega)]
  · rintro r q rfl
    dsimp only
    rw [if_pos (show (4 : Int32) ≤ nI 4 by decide), ojChk_nI ha (by decide), ojNz_nI h0 (by omega), nI_clamp (by omega), hdv a ha]
    show _ = some (nI (B * p a / T + if cnb (fun i => B * p i % T) a 4 < B - nsum (fun i => B * p i / T) 4 then 1 else 0))
    have hle : cnb (fun i => B * p i % T) a 4 ≤ 4 * 1 := nsum_le_mul (fun j _ => by split <;> omega)
    generalize cnb (fun i => B * p i % T) a 4 = A at hle ⊢
    generalize B - nsum (fun i => B * p i / T) 4 = l at s2 ⊢
    by_cases c : A < l
    · rw [if_neg (nI_ge c (by omega)), if_pos c]; exact congrArg some (nI_1 _)
    · rw [if_pos (nI_le (by omega) (by omega)), if_neg c]; exact congrArg some (Int32.add_zero _)
theorem md_129 {τ : ojS} {rec : Int32 → ojS → Option (Int32 × ojS)} {a1 a3 : Int32} : ∃ b, b < 4 ∧ f_X9_bill_129 rec a1 a3 0 1 τ = rec (a3 + (-1)) (ojU (ojU τ 26 b (τ 26 b + 1)) 25 b (-1)) ∧ ∀ j, j < 4 → τ 25 j ≤ τ 25 b ∧ (j < b → τ 25 j < τ 25 b) := by
  unfold f_X9_bill_129
  refine ojFix_inv (bot := fun _ _ => none) (fun (rr : Int32 → Int32 → Option (Int32 × ojS)) (q : Int32 × Int32) => rr q.1 q.2) _ (fun t q => ∃ b, b < t + 1 ∧ q = (nI b, nI (t + 1)) ∧ ∀ j, j < t + 1 → τ 25 j ≤ τ 25 b ∧ (j < b → τ 25 j < τ 25 b)) (fun z => ∃ b, b < 4 ∧ z = rec (a3 + (-1)) (ojU (ojU τ 26 b (τ 26 b + 1)) 25 b (-1)) ∧ ∀ j, j < 4 → τ 25 j ≤ τ 25 b ∧ (j < b → τ 25 j < τ 25 b)) 3 ?_ ?_ 600 0 (0, 1) (by decide) (by decide) ⟨0, by decide, rfl, fun j hj => by rw [show j = 0 by omega]; exact ⟨Int32.le_refl _, fun z => by omega⟩⟩
  · rintro r t q ht ⟨b, hb, rfl, h⟩
    dsimp only
    rw [if_neg (ge_4 (show t + 1 < 4 by omega)), ojChk_nI (show t + 1 < 4 by omega) (by decide), ojChk_nI (show b < 4 by omega) (by decide), nI_clamp (show t + 1 < 2 ^ 31 by omega), nI_clamp (show b < 2 ^ 31 by omega)]
    simp only [ojLet_s]
    by_cases c : τ 25 (t + 1) ≤ τ 25 b
    · rw [if_pos c, nI_1]
      refine Or.inl ⟨(nI b, nI (t + 1 + 1)), ⟨b, by omega, rfl, fun j hj => ?_⟩, rfl⟩
      by_cases e : j = t + 1
      · rw [e]; exact ⟨c, fun z => by omega⟩
      · exact h j (by omega)
    · rw [if_neg c, nI_1]
      have c' : τ 25 b < τ 25 (t + 1) := Int32.not_le.mp c
      refine Or.inl ⟨(nI (t + 1), nI (t + 1 + 1)), ⟨t + 1, by omega, rfl, fun j hj => ?_⟩, rfl⟩
      by_cases e : j = t + 1
      · rw [e]; exact ⟨Int32.le_refl _, fun z => by omega⟩
      · have hlt : τ 25 j < τ 25 (t + 1) := Int32.lt_of_le_of_lt (h j (by omega)).1 c'
        exact ⟨Int32.le_of_lt hlt, fun _ => hlt⟩
  · rintro r q ⟨b, hb, rfl, h⟩
    dsimp only
    have hb : b < 4 := hb
    rw [if_pos (show (4 : Int32) ≤ nI (3 + 1) by decide)]
    simp only [ojChk_nI hb (by decide), nI_clamp (show b < 2 ^ 31 by omega), ojLet_s]
    exact ⟨b, hb, rfl, h⟩
theorem md_119 {τ : ojS} {l a : Nat} {m q : Nat → Nat} (hl : l ≤ 3) (ha : a < 4) (hm : ∀ i, i < 4 → m i < 2 ^ 31 ∧ τ 25 i = nI (m i) ∧ τ 26 i = nI (q i)) :
    ∃ τ', f_X9_bill_119 (nI a) (nI l) τ = some (nI (q a + if ahd m a < l then 1 else 0), τ') ∧ ∀ k, k ≠ 25 → k ≠ 26 → τ' k = τ k := by
  unfold f_X9_bill_119
  refine ojFix_inv (bot := fun _ _ => none) (fun (rr : Int32 → ojS → Option (Int32 × ojS)) (q : Int32 × ojS) => rr q.1 q.2) _ (fun t s => s.1 = nI (l - t) ∧ (∀ k, k ≠ 25 → k ≠ 26 → s.2 k = τ k) ∧ ∀ i, i < 4 → (ahd m i < t → s.2 25 i = -1) ∧ (¬ ahd m i < t → s.2 25 i = nI (m i)) ∧ s.2 26 i = nI (q i + if ahd m i < t then 1 else 0)) (fun z => ∃ τ', z = some (nI (q a + if ahd m a < l then 1 else 0), τ') ∧ ∀ k, k ≠ 25 → k ≠ 26 → τ' k = τ k) l ?_ ?_ 600 0 (nI l, τ) (by omega) (by omega) ⟨rfl, fun _ _ _ => rfl, fun i hi => ⟨fun z => by omega, fun _ => (hm i hi).2.1, by dsimp only; rw [(hm i hi).2.2, if_neg (Nat.not_lt_zero _)]; rfl⟩⟩
  · rintro r t ⟨v, s⟩ ht ⟨h1, h2, h3⟩
    dsimp only at h1 h2 h3 ⊢
    subst h1
    rw [if_neg (show ¬ nI (l - t) ≤ 0 from fun z => by have := (nI_leI (a := l - t) (b := 0) (by omega) (by decide)).mp z; omega)]
    obtain ⟨b, hb, e, hj⟩ := md_129 (τ := s) (rec := r) (a1 := nI a) (a3 := nI (l - t))
    rw [e]
    obtain ⟨i0, hi0, ge0⟩ := ahd_ex m (t := t) (by omega)
    have n1 : ∀ n : Nat, n < 2 ^ 31 → ¬ nI n ≤ -1 := fun n hn z => by
      rw [Int32.le_iff_toInt_le, nI_toInt hn] at z
      have : (-1 : Int32).toInt = -1 := by decide
      omega
    have hbt : ¬ ahd m b < t := fun z => by
      have q1 := (hj i0 hi0).1
      rw [(h3 i0 hi0).2.1 (by omega), (h3 b hb).1 z] at q1
      exact n1 _ (hm i0 hi0).1 q1
    have hbe : ahd m b = t := ahd_pick m (by omega) hb (by omega) (fun j hj4 q => by
      refine Decidable.byContradiction fun z => ?_
      have q1 := hj j hj4
      rw [(h3 j hj4).2.1 z, (h3 b hb).2.1 hbt, nI_leI (hm j hj4).1 (hm b hb).1, nI_ltI (hm j hj4).1 (hm b hb).1] at q1
      rcases q with q | ⟨q2, q3⟩
      · omega
      · have := q1.2 q3; omega)
    rw [show l - t = (l - (t + 1)) + 1 by omega, nI_dec]
    refine Or.inl ⟨(nI (l - (t + 1)), ojU (ojU s 26 b (s 26 b + 1)) 25 b (-1)), ⟨rfl, fun k k1 k2 => by dsimp only; rw [ojU_ne k1, ojU_ne k2, h2 k k1 k2], fun i hi => ?_⟩, rfl⟩
    dsimp only
    rw [ojU_eq, ojU_ne (show (25 : Nat) ≠ 26 by decide), ojU_ne (show (26 : Nat) ≠ 25 by decide), ojU_eq]
    by_cases ei : i = b
    · subst ei
      rw [upd_eq, upd_eq, (h3 i hi).2.2]
      exact ⟨fun _ => rfl, fun z => by omega, by rw [if_neg hbt, if_pos (by omega)]; exact nI_1 _⟩
    · rw [upd_ne ei, upd_ne ei]
      have hne : ahd m i ≠ t := fun z => ei (ahd_inj m hi hb (by omega))
      have hif : (ahd m i < t + 1) = (ahd m i < t) := propext ⟨fun z => by omega, fun z => by omega⟩
      rw [show (if ahd m i < t + 1 then 1 else 0 : Nat) = if ahd m i < t then 1 else 0 from ite_iff (by rw [hif]), hif]
      exact h3 i hi
  · rintro r ⟨v, s⟩ ⟨h1, h2, h3⟩
    dsimp only at h1 h2 h3 ⊢
    subst h1
    rw [if_pos (show nI (l - l) ≤ 0 by rw [Nat.sub_self]; decide), ojChk_nI ha (by decide), nI_clamp (by omega), (h3 a ha).2.2]
    exact ⟨s, rfl, h2⟩
theorem md_53 {τ : ojS} {B T a : Nat} {p : Nat → Nat} (hB : B ≤ 2190000) (hp : ∀ i, i < 4 → p i ≤ 100 ∧ τ 20 i = nI (p i)) (hT : T = nsum p 4) (h0 : 0 < T) (ha : a < 4) :
    ∃ τ', f_X9_bill_53 (nI a) (nI T) (nI B) (nI B).toInt64 0 τ = some (nI (B * p a / T + if ahd (fun i => B * p i % T) a < B - nsum (fun i => B * p i / T) 4 then 1 else 0), τ') ∧ ∀ k, k ≠ 25 → k ≠ 26 → τ' k = τ k := by
  obtain ⟨s1, s2⟩ := share_arith (B := B) hT h0
  have hT4 : T ≤ 4 * 100 := by rw [hT]; exact nsum_le_mul (fun i hi => (hp i hi).1)
  have hm : ∀ i, i < 4 → B * p i ≤ 2190000 * 100 := fun i hi => Nat.mul_le_mul hB (hp i hi).1
  have hnz : ∀ {α : Type} (x : Option α), ojNzL (nI T).toInt64 x = x := fun x => by
    unfold ojNzL
    rw [nI_l (by omega), if_neg (fun z => by have := (lN_eq (a := T) (b := 0) (by omega) (by decide)).mp z; omega)]
  have hdv : ∀ i, i < 4 → ((nI B).toInt64 * (nI (p i)).toInt64 / (nI T).toInt64).toInt32 = nI (B * p i / T) := fun i hi => by
    have := hm i hi
    have := (hp i hi).1
    rw [nI_l (by omega), nI_l (by omega), nI_l (by omega), lN_mul, pk_lDiv (by omega) h0 (by omega), lN_i]
  have hrm : ∀ i, i < 4 → (ojRemL ((nI B).toInt64 * (nI (p i)).toInt64) (nI T).toInt64).toInt32 = nI (B * p i % T) := fun i hi => by
    have := hm i hi
    have := (hp i hi).1
    unfold ojRemL
    rw [nI_l (by omega), nI_l (by omega), nI_l (by omega), lN_mul, pk_lRem (by omega) h0 (by omega), lN_i]
  unfold f_X9_bill_53
  refine ojFix_inv (bot := fun _ _ _ => none) (fun (rr : Int32 → Int32 → ojS → Option (Int32 × ojS)) (q : Int32 × Int32 × ojS) => rr q.1 q.2.1 q.2.2) _ (fun t s => s.1 = nI (B - nsum (fun i => B * p i / T) t) ∧ s.2.1 = nI t ∧ (∀ k, k ≠ 25 → k ≠ 26 → s.2.2 k = τ k) ∧ ∀ i, i < t → s.2.2 25 i = nI (B * p i % T) ∧ s.2.2 26 i = nI (B * p i / T)) (fun z => ∃ τ', z = some (nI (B * p a / T + if ahd (fun i => B * p i % T) a < B - nsum (fun i => B * p i / T) 4 then 1 else 0), τ') ∧ ∀ k, k ≠ 25 → k ≠ 26 → τ' k = τ k) 4 ?_ ?_ 600 0 (nI B, 0, τ) (by decide) (by decide) ⟨rfl, rfl, fun _ _ _ => rfl, fun i hi => by omega⟩
  · rintro r t ⟨v, w, s⟩ ht ⟨h1, h2, h3, h4⟩
    dsimp only at h1 h2 h3 h4 ⊢
    subst h1; subst h2
    have hmo := nsum_mono (f := fun i => B * p i / T) (show t + 1 ≤ 4 by omega)
    rw [if_neg (ge_4 ht)]
    have e20 : s 20 t = nI (p t) := by rw [h3 20 (by decide) (by decide)]; exact (hp t ht).2
    simp only [ojChk_nI ht (by decide), hnz, nI_clamp (show t < 2 ^ 31 by omega), ojLet_s, e20, hdv t ht]
    have e20' : ojU s 26 t (nI (B * p t / T)) 20 t = nI (p t) := by rw [ojU_ne (by decide)]; exact e20
    simp only [e20', hrm t ht]
    have e26 : ojU (ojU s 26 t (nI (B * p t / T))) 25 t (nI (B * p t % T)) 26 t = nI (B * p t / T) := by rw [ojU_ne (by decide), ojU_eq, upd_eq]
    rw [e26, pk_sub (by rw [nsum] at hmo; omega), show B - nsum (fun i => B * p i / T) t - B * p t / T = B - nsum (fun i => B * p i / T) (t + 1) by rw [nsum]; omega, nI_1]
    refine Or.inl ⟨(nI (B - nsum (fun i => B * p i / T) (t + 1)), nI (t + 1), ojU (ojU s 26 t (nI (B * p t / T))) 25 t (nI (B * p t % T))), ⟨rfl, rfl, fun k k1 k2 => by dsimp only; rw [ojU_ne k1, ojU_ne k2, h3 k k1 k2], fun i hi => ?_⟩, rfl⟩
    dsimp only
    rw [ojU_eq, ojU_ne (show (25 : Nat) ≠ 26 by decide), ojU_ne (show (26 : Nat) ≠ 25 by decide), ojU_eq]
    by_cases ei : i = t
    · subst ei; rw [upd_eq, upd_eq]; exact ⟨rfl, rfl⟩
    · rw [upd_ne ei, upd_ne ei]; exact h4 i (by omega)
  · rintro r ⟨v, w, s⟩ ⟨h1, h2, h3, h4⟩
    dsimp only at h1 h2 h3 h4 ⊢
    subst h1; subst h2
    rw [if_pos (show (4 : Int32) ≤ nI 4 by decide)]
    obtain ⟨τ', b1, b2⟩ := md_119 (τ := s) (l := B - nsum (fun i => B * p i / T) 4) (a := a) (m := fun i => B * p i % T) (q := fun i => B * p i / T) s2 ha (fun i hi => ⟨by have := Nat.mod_lt (B * p i) h0; show B * p i % T < _; omega, h4 i hi⟩)
    exact ⟨τ', b1, fun k k1 k2 => by rw [b2 k k1 k2, h3 k k1 k2]⟩
theorem st_bill {σ τ : ojS} (h : RRR σ τ) (a : Int32) : ∃ (r : Int32) (τ' : ojS), f_X8_bill a σ = some r ∧ f_X9_bill a τ = some (r, τ') ∧ RRR σ τ' := by
  obtain ⟨N, S, K, P, hR⟩ := id h
  obtain ⟨B, hB, b1, b2⟩ := bill_both hR
  obtain ⟨hN, hS, hK, hP, hnet, hsky, hfs, hlq, hlo, haw, hfl, hskd, hhr, hpt, hbm, hsh⟩ := id hR
  unfold f_X8_bill f_X9_bill
  rw [isWithin_eq]
  rcases in_cases a 0 3 (by decide) (by decide) with e | ⟨va, -, ha, rfl, e⟩
  · rw [show f_X9_in a 0 3 = some 0 from e]; exact ⟨_, τ, rfl, rfl, h⟩
  rw [show f_X9_in (nI va) 0 3 = some 1 from e]
  simp only [ojB1_s, if10, ifF]
  have hp : ∀ i, i < 4 → (τ 20 i).toNatClampNeg ≤ 100 ∧ σ 14 i = nI (τ 20 i).toNatClampNeg ∧ τ 20 i = nI (τ 20 i).toNatClampNeg := fun i hi => by
    obtain ⟨v, hv, e1, e2⟩ := hpt i hi
    rw [e1, e2, nI_clamp (by omega)]; exact ⟨hv, rfl, rfl⟩
  have hO : f_X8_bill_15 (nI va) 0 0 σ = ojB1 (f_X8_shareOf (nI va) (nI B) (nI (nsum (fun i => (τ 20 i).toNatClampNeg) 4)) σ) (fun r => some r) := by
    unfold f_X8_bill_15
    refine ojFix_inv (bot := fun _ _ => none) (fun (rr : Int32 → Int32 → Option Int32) (q : Int32 × Int32) => rr q.1 q.2) _ (fun t q => q = (nI (nsum (fun i => (τ 20 i).toNatClampNeg) t), nI t)) (fun z => z = ojB1 (f_X8_shareOf (nI va) (nI B) (nI (nsum (fun i => (τ 20 i).toNatClampNeg) 4)) σ) (fun r => some r)) 4 ?_ ?_ 600 0 (0, 0) (by decide) (by decide) rfl
    · rintro r t q ht rfl
      dsimp only
      rw [if_neg (ge_4 ht), ojChk_nI ht (by decide), nI_clamp (by omega), (hp t ht).2.1]
      simp only [ojLet_s]
      refine Or.inl ⟨(_, _), ?_, rfl⟩
      rw [nI_1, nI_add]; rfl
    · rintro r q rfl
      dsimp only
      rw [if_pos (show (4 : Int32) ≤ nI 4 by decide), b1]
      rfl
  have hM : f_X9_bill_15 (nI va) 0 0 τ = f_X9_bill_35 (nI va) (nI (nsum (fun i => (τ 20 i).toNatClampNeg) 4)) τ := by
    unfold f_X9_bill_15
    refine ojFix_inv (bot := fun _ _ => none) (fun (rr : Int32 → Int32 → Option (Int32 × ojS)) (q : Int32 × Int32) => rr q.1 q.2) _ (fun t q => q = (nI (nsum (fun i => (τ 20 i).toNatClampNeg) t), nI t)) (fun z => z = f_X9_bill_35 (nI va) (nI (nsum (fun i => (τ 20 i).toNatClampNeg) 4)) τ) 4 ?_ ?_ 600 0 (0, 0) (by decide) (by decide) rfl
    · rintro r t q ht rfl
      dsimp only
      rw [if_neg (ge_4 ht), ojChk_nI ht (by decide), nI_clamp (by omega)]
      simp only [ojLet_s]
      refine Or.inl ⟨(nI (nsum (fun i => (τ 20 i).toNatClampNeg) (t + 1)), nI (t + 1)), rfl, ?_⟩
      dsimp only
      rw [nI_1, show nI (nsum (fun i => (τ 20 i).toNatClampNeg) (t + 1)) = nI (nsum (fun i => (τ 20 i).toNatClampNeg) t) + nI (τ 20 t).toNatClampNeg from (nI_add _ _).symm, ← (hp t ht).2.2]
    · rintro r q rfl
      dsimp only
      rw [if_pos (show (4 : Int32) ≤ nI 4 by decide)]
  rw [hO, hM]
  have hT4 : nsum (fun i => (τ 20 i).toNatClampNeg) 4 ≤ 4 * 100 := nsum_le_mul (fun i hi => (hp i hi).1)
  unfold f_X9_bill_35
  by_cases h0 : nsum (fun i => (τ 20 i).toNatClampNeg) 4 = 0
  · refine ⟨0, τ, ?_, ?_, h⟩
    · unfold f_X8_shareOf
      rw [if_pos (by rw [h0]; rfl)]; rfl
    · rw [if_pos (by rw [h0]; rfl)]
  · rw [if_neg (nI_ne0 (by omega) (by omega)), b2, ow_share (p := fun i => (τ 20 i).toNatClampNeg) hB (fun i hi => ⟨(hp i hi).1, (hp i hi).2.1⟩) rfl (by omega) (show va < 4 by omega)]
    simp only [ojB1_s, ojLet_s]
    obtain ⟨τ', c1, c2⟩ := md_53 (τ := τ) (a := va) (p := fun i => (τ 20 i).toNatClampNeg) hB (fun i hi => ⟨(hp i hi).1, (hp i hi).2.2⟩) rfl (by omega) (by omega)
    exact ⟨_, τ', rfl, c1, N, S, K, P, RR_fr hR (fun _ _ _ => rfl) (fun k q1 q2 => c2 k (by omega) (by omega)) (fun j _ _ => by rw [c2 0 (by omega) (by omega)])⟩
