def fdl {β : Type} (g : Nat → β → β) : Nat → β → β
  | 0, b => b
  | n + 1, b => g n (fdl g n b)
theorem fdl_inv {β : Type} {g : Nat → β → β} {P : β → Prop} {b : β} (h0 : P b) : ∀ {n : Nat}, (∀ c, c < n → ∀ x, P x → P (g c x)) → P (fdl g n b)
  | 0, _ => h0
  | n + 1, h => h n (by omega) _ (fdl_inv h0 (fun c hc => h c (by omega)))
theorem fdl_rel {β : Type} {g g' : Nat → β → β} {P : β → β → Prop} {b b' : β} (h0 : P b b') : ∀ {n : Nat}, (∀ c, c < n → ∀ x y, P x y → P (g c x) (g' c y)) → P (fdl g n b) (fdl g' n b')
  | 0, _ => h0
  | n + 1, h => h n (by omega) _ _ (fdl_rel h0 (fun c hc => h c (by omega)))
theorem fdl_hit {β : Type} {g : Nat → β → β} {P : β → Prop} {b : β} {a : Nat} : ∀ {n : Nat}, a < n → (∀ x, P (g a x)) → (∀ c, c < n → ∀ x, P x → P (g c x)) → P (fdl g n b)
  | 0, h, _, _ => by omega
  | n + 1, ha, h1, h => by
    by_cases e : a = n
    · subst e; exact h1 _
    · exact h n (by omega) _ (fdl_hit (by omega) h1 (fun c hc => h c (by omega)))
noncomputable def srch (R : Nat → Nat → Prop) (nx : Nat → (Nat → Nat) × (Nat → Nat) → Nat → (Nat → Nat) × (Nat → Nat)) (s : Nat) : Nat → Nat → Nat → (Nat → Nat) × (Nat → Nat) → Nat → Int32 → Nat × Int32 → Nat × Int32
  | 0, _, _, _, t, fi, b => if b.1 < t + 1 then (t + 1, fi) else b
  | r + 1, a, k, p, t, fi, b => fdl (fun c x => @ite _ (R a c) (Classical.propDecidable _) (srch R nx s r c (k + 1) (nx k p c) (t + ((nx k p c).2 s - p.2 s)) (if k = 0 then nI c else fi) x) x) 96 b
theorem srch_0 {R : Nat → Nat → Prop} {nx : Nat → (Nat → Nat) × (Nat → Nat) → Nat → (Nat → Nat) × (Nat → Nat)} {s a k t : Nat} {p : (Nat → Nat) × (Nat → Nat)} {fi : Int32} {b : Nat × Int32} : srch R nx s 0 a k p t fi b = if b.1 < t + 1 then (t + 1, fi) else b := by
  rw [srch]
noncomputable def srg (R : Nat → Nat → Prop) (nx : Nat → (Nat → Nat) × (Nat → Nat) → Nat → (Nat → Nat) × (Nat → Nat)) (s r a k : Nat) (p : (Nat → Nat) × (Nat → Nat)) (t : Nat) (fi : Int32) (c : Nat) (x : Nat × Int32) : Nat × Int32 := @ite _ (R a c) (Classical.propDecidable _) (srch R nx s r c (k + 1) (nx k p c) (t + ((nx k p c).2 s - p.2 s)) (if k = 0 then nI c else fi) x) x
theorem srch_s {R : Nat → Nat → Prop} {nx : Nat → (Nat → Nat) × (Nat → Nat) → Nat → (Nat → Nat) × (Nat → Nat)} {s r a k t : Nat} {p : (Nat → Nat) × (Nat → Nat)} {fi : Int32} {b : Nat × Int32} : srch R nx s (r + 1) a k p t fi b = fdl (srg R nx s r a k p t fi) 96 b := by
  rw [srch]; rfl
theorem srg_y {R : Nat → Nat → Prop} {nx : Nat → (Nat → Nat) × (Nat → Nat) → Nat → (Nat → Nat) × (Nat → Nat)} {s r a k t c : Nat} {p : (Nat → Nat) × (Nat → Nat)} {fi : Int32} {x : Nat × Int32} (h : R a c) : srg R nx s r a k p t fi c x = srch R nx s r c (k + 1) (nx k p c) (t + ((nx k p c).2 s - p.2 s)) (if k = 0 then nI c else fi) x := by
  unfold srg; rw [if_pos h]
theorem srg_n {R : Nat → Nat → Prop} {nx : Nat → (Nat → Nat) × (Nat → Nat) → Nat → (Nat → Nat) × (Nat → Nat)} {s r a k t c : Nat} {p : (Nat → Nat) × (Nat → Nat)} {fi : Int32} {x : Nat × Int32} (h : ¬ R a c) : srg R nx s r a k p t fi c x = x := by
  unfold srg; rw [if_neg h]
theorem srch_skip {R : Nat → Nat → Prop} {nx : Nat → (Nat → Nat) × (Nat → Nat) → Nat → (Nat → Nat) × (Nat → Nat)} {s : Nat} {ok : (Nat → Nat) × (Nat → Nat) → Prop} {bd : Nat → (Nat → Nat) × (Nat → Nat) → Nat}
    (H : ∀ r k p a c, ok p → c < 96 → R a c → ok (nx k p c) ∧ (nx k p c).2 s - p.2 s + bd r (nx k p c) ≤ bd (r + 1) p) : ∀ r a k p t fi b, ok p → t + bd r p + 1 ≤ b.1 → srch R nx s r a k p t fi b = b := by
  intro r
  induction r with
  | zero =>
    intro a k p t fi b _ h
    rw [srch_0, if_neg (by omega)]
  | succ r ih =>
    intro a k p t fi b hok h
    rw [srch_s]
    refine fdl_inv (P := fun x => x = b) rfl (fun c hc x hx => ?_)
    subst hx
    by_cases q : R a c
    · rw [srg_y q]
      obtain ⟨h1, h2⟩ := H r k p a c hok hc q
      exact ih _ _ _ _ _ _ h1 (by omega)
    · rw [srg_n q]
theorem srch_rel {R : Nat → Nat → Prop} {nx : Nat → (Nat → Nat) × (Nat → Nat) → Nat → (Nat → Nat) × (Nat → Nat)} {s : Nat} : ∀ r a k p t fi (b b' : Nat × Int32), (b.1 = b'.1 ∧ (b.1 ≠ 0 → b.2 = b'.2)) → (srch R nx s r a k p t fi b).1 = (srch R nx s r a k p t fi b').1 ∧ ((srch R nx s r a k p t fi b).1 ≠ 0 → (srch R nx s r a k p t fi b).2 = (srch R nx s r a k p t fi b').2) := by
  intro r
  induction r with
  | zero =>
    intro a k p t fi b b' h
    rw [srch_0, srch_0]
    by_cases q : b.1 < t + 1
    · rw [if_pos q, if_pos (by omega)]; exact ⟨rfl, fun _ => rfl⟩
    · rw [if_neg q, if_neg (by omega)]; exact h
  | succ r ih =>
    intro a k p t fi b b' h
    rw [srch_s, srch_s]
    refine fdl_rel (P := fun (x y : Nat × Int32) => x.1 = y.1 ∧ (x.1 ≠ 0 → x.2 = y.2)) h (fun c hc x y hx => ?_)
    by_cases q : R a c
    · rw [srg_y q, srg_y q]; exact ih _ _ _ _ _ _ _ hx
    · rw [srg_n q, srg_n q]; exact hx
theorem srch_pos {R : Nat → Nat → Prop} {nx : Nat → (Nat → Nat) × (Nat → Nat) → Nat → (Nat → Nat) × (Nat → Nat)} {s : Nat} : (∀ r a k p t fi b, b.1 ≠ 0 → (srch R nx s r a k p t fi b).1 ≠ 0) := by
  intro r
  induction r with
  | zero =>
    intro a k p t fi b h
    rw [srch_0]
    by_cases q : b.1 < t + 1
    · rw [if_pos q]; exact Nat.succ_ne_zero _
    · rw [if_neg q]; exact h
  | succ r ih =>
    intro a k p t fi b h
    rw [srch_s]
    refine fdl_inv (P := fun (x : Nat × Int32) => x.1 ≠ 0) h (fun c hc x hx => ?_)
    by_cases q : R a c
    · rw [srg_y q]; exact ih _ _ _ _ _ _ hx
    · rw [srg_n q]; exact hx
theorem srch_any {R : Nat → Nat → Prop} {nx : Nat → (Nat → Nat) × (Nat → Nat) → Nat → (Nat → Nat) × (Nat → Nat)} {s : Nat} : ∀ r a k p t fi b, a < 96 → R a a → (srch R nx s r a k p t fi b).1 ≠ 0 := by
  intro r
  induction r with
  | zero =>
    intro a k p t fi b _ _
    rw [srch_0]
    by_cases q : b.1 < t + 1
    · rw [if_pos q]; exact Nat.succ_ne_zero _
    · rw [if_neg q]; omega
  | succ r ih =>
    intro a k p t fi b ha hR
    rw [srch_s]
    refine fdl_hit (P := fun (x : Nat × Int32) => x.1 ≠ 0) ha (fun x => ?_) (fun c hc x hx => ?_)
    · rw [srg_y hR]; exact ih _ _ _ _ _ _ ha hR
    · by_cases q : R a c
      · rw [srg_y q]; exact srch_pos _ _ _ _ _ _ _ hx
      · rw [srg_n q]; exact hx
theorem srch_bd {R : Nat → Nat → Prop} {nx : Nat → (Nat → Nat) × (Nat → Nat) → Nat → (Nat → Nat) × (Nat → Nat)} {s B : Nat} {ok : (Nat → Nat) × (Nat → Nat) → Prop}
    (H : ∀ k p c, ok p → c < 96 → ok (nx k p c) ∧ p.2 s ≤ (nx k p c).2 s) (hB : ∀ p, ok p → p.2 s < B) : ∀ r a k p t fi b, ok p → t ≤ p.2 s → b.1 ≤ B → (srch R nx s r a k p t fi b).1 ≤ B := by
  intro r
  induction r with
  | zero =>
    intro a k p t fi b h1 h2 h3
    rw [srch_0]
    by_cases q : b.1 < t + 1
    · rw [if_pos q]; have := hB p h1; show t + 1 ≤ B; omega
    · rw [if_neg q]; exact h3
  | succ r ih =>
    intro a k p t fi b h1 h2 h3
    rw [srch_s]
    refine fdl_inv (P := fun (x : Nat × Int32) => x.1 ≤ B) h3 (fun c hc x hx => ?_)
    by_cases q : R a c
    · rw [srg_y q]
      obtain ⟨g1, g2⟩ := H k p c h1 hc
      exact ih _ _ _ _ _ _ g1 (by omega) hx
    · rw [srg_n q]; exact hx
theorem skN_split {at_ rt rm : Nat → Nat} {m2 : Nat} : ∀ m1 i L ld, skN at_ rt rm (m1 + m2) i L ld = skN at_ rt rm m2 (i + m1) (skN at_ rt rm m1 i L ld).1 (skN at_ rt rm m1 i L ld).2 := by
  intro m1
  induction m1 with
  | zero => intro i L ld; rw [Nat.zero_add]; rfl
  | succ m1 ih =>
    intro i L ld
    rw [show m1 + 1 + m2 = (m1 + m2) + 1 by omega, skN, ih, skN, show i + 1 + m1 = i + (m1 + 1) by omega]
theorem skN_at {at_ at2 rt rm : Nat → Nat} : ∀ m i L ld, (∀ j, i ≤ j → j < i + m → at_ j = at2 j) → skN at_ rt rm m i L ld = skN at2 rt rm m i L ld := by
  intro m
  induction m with
  | zero => intro i L ld _; rfl
  | succ m ih =>
    intro i L ld h
    have e := h i (Nat.le_refl _) (by omega)
    rw [skN, skN, ih _ _ _ (fun j q1 q2 => h j (by omega) (by omega))]
    unfold skL skD
    rw [e]
def afl (rk : Nat → Int32) (L : Nat → Nat) : Nat := nsum (fun x => if rk x = 0 then L x else 0) 96
theorem afl_mono {rk : Nat → Int32} {L M : Nat → Nat} (h : ∀ x, x < 96 → L x ≤ M x) : afl rk L ≤ afl rk M := nsum_le (fun x hx => by
  by_cases q : rk x = 0
  · rw [if_pos q, if_pos q]; exact h x hx
  · rw [if_neg q, if_neg q]; exact Nat.le_refl _)
theorem afl_drf {rk : Nat → Int32} {hf : Nat → Nat} {w : Nat} {L : Nat → Nat} : afl rk (drf rk hf w L) ≤ afl rk L := by
  have h1 : afl rk (drf rk hf w L) ≤ nsum (fun x => (if rk x = 0 then L x - ddf rk hf w L x else 0) + nsum (fun y => if ah y w = x then ddf rk hf w L y else 0) 96) 96 := nsum_le (fun x hx => by
    by_cases q : rk x = 0
    · rw [if_pos q, if_pos q]; exact Nat.le_refl _
    · rw [if_neg q]; exact Nat.zero_le _)
  have h2 : nsum (fun x => nsum (fun y => if ah y w = x then ddf rk hf w L y else 0) 96) 96 ≤ nsum (ddf rk hf w L) 96 := by
    rw [nsum_swap]
    refine nsum_le (fun y _ => ?_)
    rw [nsum_one (f := L)]
    split <;> omega
  have h3 : nsum (fun x => if rk x = 0 then L x - ddf rk hf w L x else 0) 96 + nsum (ddf rk hf w L) 96 = afl rk L := by
    rw [← nsum_add]
    refine nsum_congr (fun x hx => ?_)
    by_cases q : rk x = 0
    · rw [if_pos q, if_pos q]; have := ddf_le (rk := rk) (hf := hf) (w := w) (L := L) x; omega
    · rw [if_neg q, if_neg q]; unfold ddf; rw [if_neg q]
  rw [nsum_add] at h1
  omega
theorem afl_hr {τ : ojS} {wd h p : Nat} {L : Nat → Nat} : afl (τ 1) (hrL τ wd h p L) ≤ afl (τ 1) L := by
  refine Nat.le_trans (afl_mono (fun x _ => lsf_le x)) ?_
  unfold dr0
  by_cases h0 : wyN τ wd h = 0
  · exact afl_mono (fun x _ => by rw [if_pos h0]; exact Nat.le_refl _)
  · rw [show (fun x => if wyN τ wd h = 0 then L x else drf (τ 1) (hfT τ (wyN τ wd h) (fcN τ wd h)) (wyN τ wd h) L x) = drf (τ 1) (hfT τ (wyN τ wd h) (fcN τ wd h)) (wyN τ wd h) L from funext (fun x => if_neg h0)]
    exact afl_drf
theorem afl_skL {rk : Nat → Int32} {at_ rt rm L ld : Nat → Nat} {i : Nat} (hc : at_ i < 96) (hs : rk (at_ i) = 0) : afl rk (skL at_ rt rm L ld i) + tkn rt rm ld L i (at_ i) = afl rk L := by
  have : nsum (fun x => if x = at_ i then (if rk x = 0 then skL at_ rt rm L ld i x else 0) + tkn rt rm ld L i (at_ i) else (if rk x = 0 then skL at_ rt rm L ld i x else 0)) 96 = nsum (fun x => if rk x = 0 then skL at_ rt rm L ld i x else 0) 96 + tkn rt rm ld L i (at_ i) := by
    rw [nsum_upd (L := fun x => if rk x = 0 then skL at_ rt rm L ld i x else 0), if_pos hc]
  unfold afl
  rw [← this]
  refine nsum_congr (fun x _ => ?_)
  unfold skL
  by_cases e : x = at_ i
  · rw [if_pos e, if_pos e, e, if_pos hs, if_pos hs]
    have : tkn rt rm ld L i (at_ i) ≤ L (at_ i) := by unfold tkn; omega
    omega
  · rw [if_neg e, if_neg e]
theorem afl_ge {rk : Nat → Int32} {L : Nat → Nat} {c : Nat} (hc : c < 96) (hs : rk c = 0) : L c ≤ afl rk L := by
  have := nsum_ge (f := fun x => if rk x = 0 then L x else 0) (n := 96) hc
  rw [if_pos hs] at this
  exact this
noncomputable def hrF (τ : ojS) (N : Nat) (fs : Int32) (k : Nat) (L : Nat → Nat) : Nat → Nat := hrL τ 0 (N + k) (page (nI (N + k) - fs)) L
noncomputable def nxt (τ : ojS) (N K s : Nat) (at_ rt rm : Nat → Nat) (fs : Int32) (k : Nat) (p : (Nat → Nat) × (Nat → Nat)) (c : Nat) : (Nat → Nat) × (Nat → Nat) := skN (fun j => if j = s then c else at_ j) rt rm K 0 (hrF τ N fs k p.1) p.2
noncomputable def prt (τ : ojS) (N s : Nat) (at_ rt rm : Nat → Nat) (fs : Int32) (k : Nat) (p : (Nat → Nat) × (Nat → Nat)) : (Nat → Nat) × (Nat → Nat) := skN at_ rt rm s 0 (hrF τ N fs k p.1) p.2
theorem nxt_prt {τ : ojS} {N K s : Nat} {at_ rt rm : Nat → Nat} {fs : Int32} {k : Nat} {p : (Nat → Nat) × (Nat → Nat)} {c : Nat} (hs : s < K) : nxt τ N K s at_ rt rm fs k p c = skN (fun j => if j = s then c else at_ j) rt rm (K - s - 1) (s + 1) (skL (fun j => if j = s then c else at_ j) rt rm (prt τ N s at_ rt rm fs k p).1 (prt τ N s at_ rt rm fs k p).2 s) (skD (fun j => if j = s then c else at_ j) rt rm (prt τ N s at_ rt rm fs k p).1 (prt τ N s at_ rt rm fs k p).2 s) := by
  unfold nxt prt
  rw [show K = s + ((K - s - 1) + 1) by omega, skN_split, Nat.zero_add, skN, skN_at s 0 _ _ (at2 := at_) (fun j _ q => if_neg (by omega))]
  rw [show s + ((K - s - 1) + 1) - s - 1 = K - s - 1 by omega]
theorem prt_s {τ : ojS} {N s : Nat} {at_ rt rm : Nat → Nat} {fs : Int32} {k : Nat} {p : (Nat → Nat) × (Nat → Nat)} : (prt τ N s at_ rt rm fs k p).2 s = p.2 s := skN_out _ _ _ _ _ (by omega)
theorem nxt_s {τ : ojS} {N K s : Nat} {at_ rt rm : Nat → Nat} {fs : Int32} {k : Nat} {p : (Nat → Nat) × (Nat → Nat)} {c : Nat} (hs : s < K) : (nxt τ N K s at_ rt rm fs k p c).2 s = p.2 s + tkn rt rm (prt τ N s at_ rt rm fs k p).2 (prt τ N s at_ rt rm fs k p).1 s c := by
  rw [nxt_prt hs, skN_out _ _ _ _ _ (by omega)]
  unfold skD
  rw [if_pos rfl]
  dsimp only
  rw [if_pos rfl, prt_s]
theorem nxt_afl {τ : ojS} {N K s : Nat} {at_ rt rm : Nat → Nat} {fs : Int32} {k : Nat} {p : (Nat → Nat) × (Nat → Nat)} {c : Nat} (hs : s < K) (hc : c < 96) (hsea : τ 1 c = 0) : afl (τ 1) (nxt τ N K s at_ rt rm fs k p c).1 + tkn rt rm (prt τ N s at_ rt rm fs k p).2 (prt τ N s at_ rt rm fs k p).1 s c ≤ afl (τ 1) (prt τ N s at_ rt rm fs k p).1 := by
  have h1 := afl_skL (rk := τ 1) (at_ := fun j => if j = s then c else at_ j) (rt := rt) (rm := rm) (L := (prt τ N s at_ rt rm fs k p).1) (ld := (prt τ N s at_ rt rm fs k p).2) (i := s) (by rw [if_pos rfl]; exact hc) (by rw [if_pos rfl]; exact hsea)
  rw [if_pos rfl] at h1
  have h2 : afl (τ 1) (nxt τ N K s at_ rt rm fs k p c).1 ≤ afl (τ 1) (skL (fun j => if j = s then c else at_ j) rt rm (prt τ N s at_ rt rm fs k p).1 (prt τ N s at_ rt rm fs k p).2 s) := afl_mono (fun x _ => by rw [nxt_prt hs]; exact skN_le _ _ _ _ _)
  omega
theorem prt_afl {τ : ojS} {N s : Nat} {at_ rt rm : Nat → Nat} {fs : Int32} {k : Nat} {p : (Nat → Nat) × (Nat → Nat)} : afl (τ 1) (prt τ N s at_ rt rm fs k p).1 ≤ afl (τ 1) p.1 := Nat.le_trans (afl_mono (fun x _ => skN_le _ _ _ _ _)) afl_hr
def okp (K : Nat) (rm : Nat → Nat) (p : (Nat → Nat) × (Nat → Nat)) : Prop := nsum p.1 96 ≤ 1000000 ∧ ∀ i, i < K → p.2 i ≤ rm i
theorem okp_nxt {τ : ojS} {N K s : Nat} {at_ rt rm : Nat → Nat} {fs : Int32} {k : Nat} {p : (Nat → Nat) × (Nat → Nat)} {c : Nat} (h : okp K rm p) : okp K rm (nxt τ N K s at_ rt rm fs k p c) := ⟨Nat.le_trans (nsum_le (fun x _ => skN_le _ _ _ _ _)) (Nat.le_trans hrL_sum h.1), fun i hi => skN_rm _ _ _ _ _ (h.2 i hi)⟩
theorem okp_prt {τ : ojS} {N K s : Nat} {at_ rt rm : Nat → Nat} {fs : Int32} {k : Nat} {p : (Nat → Nat) × (Nat → Nat)} (h : okp K rm p) : okp K rm (prt τ N s at_ rt rm fs k p) := ⟨Nat.le_trans (nsum_le (fun x _ => skN_le _ _ _ _ _)) (Nat.le_trans hrL_sum h.1), fun i hi => skN_rm _ _ _ _ _ (h.2 i hi)⟩
def bdp (τ : ojS) (s : Nat) (rt rm : Nat → Nat) (r : Nat) (p : (Nat → Nat) × (Nat → Nat)) : Nat := min (rt s * r) (min (rm s - p.2 s) (afl (τ 1) p.1))
theorem bdp_st {τ : ojS} {N K s : Nat} {at_ rt rm : Nat → Nat} {fs : Int32} {k r : Nat} {p : (Nat → Nat) × (Nat → Nat)} {c : Nat} (hs : s < K) (h : okp K rm p) (hc : c < 96) (hsea : τ 1 c = 0) : (nxt τ N K s at_ rt rm fs k p c).2 s - p.2 s + bdp τ s rt rm r (nxt τ N K s at_ rt rm fs k p c) ≤ min (tkn rt rm (prt τ N s at_ rt rm fs k p).2 (prt τ N s at_ rt rm fs k p).1 s c + rt s * r) (min (afl (τ 1) (prt τ N s at_ rt rm fs k p).1) (rm s - (prt τ N s at_ rt rm fs k p).2 s)) := by
  have h1 := nxt_s (τ := τ) (N := N) (at_ := at_) (rt := rt) (rm := rm) (fs := fs) (k := k) (p := p) (c := c) hs
  have h2 := nxt_afl (τ := τ) (N := N) (at_ := at_) (rt := rt) (rm := rm) (fs := fs) (k := k) (p := p) hs hc hsea
  have h3 := (okp_nxt (τ := τ) (N := N) (s := s) (at_ := at_) (rt := rt) (fs := fs) (k := k) (c := c) h).2 s hs
  have h4 : (prt τ N s at_ rt rm fs k p).2 s = p.2 s := prt_s
  unfold bdp
  omega
theorem bdp_H {τ : ojS} {N K s : Nat} {at_ rt rm : Nat → Nat} {fs : Int32} (hs : s < K) {R : Nat → Nat → Prop} (hR : ∀ a c, R a c → τ 1 c = 0) : ∀ r k p a c, okp K rm p → c < 96 → R a c → okp K rm (nxt τ N K s at_ rt rm fs k p c) ∧ (nxt τ N K s at_ rt rm fs k p c).2 s - p.2 s + bdp τ s rt rm r (nxt τ N K s at_ rt rm fs k p c) ≤ bdp τ s rt rm (r + 1) p := by
  intro r k p a c hok hc hr
  refine ⟨okp_nxt hok, ?_⟩
  have h1 := bdp_st (τ := τ) (N := N) (at_ := at_) (rt := rt) (rm := rm) (fs := fs) (k := k) (r := r) hs hok hc (hR a c hr)
  have h2 : afl (τ 1) (prt τ N s at_ rt rm fs k p).1 ≤ afl (τ 1) p.1 := prt_afl
  have h4 : (prt τ N s at_ rt rm fs k p).2 s = p.2 s := prt_s
  have h5 : tkn rt rm (prt τ N s at_ rt rm fs k p).2 (prt τ N s at_ rt rm fs k p).1 s c ≤ rt s := by unfold tkn; omega
  refine Nat.le_trans h1 ?_
  unfold bdp
  rw [Nat.mul_succ]
  omega
theorem nxt_ge {τ : ojS} {N K s : Nat} {at_ rt rm : Nat → Nat} {fs : Int32} {k : Nat} {p : (Nat → Nat) × (Nat → Nat)} {c : Nat} : p.2 s ≤ (nxt τ N K s at_ rt rm fs k p c).2 s := skN_ge _ _ _ _ _
def mI (M : Nat) : Int32 := nI M - 1
theorem mI_s (x : Nat) : mI (x + 1) = nI x := by unfold mI; rw [show (1 : Int32) = nI 1 from rfl, pk_sub (by omega)]; rfl
theorem mI_le {x M : Nat} (hx : x < 2 ^ 30) (hM : M < 2 ^ 30) : nI x ≤ mI M ↔ x + 1 ≤ M := by
  unfold mI
  rw [Int32.le_iff_toInt_le, nI_toInt (by omega), show (1 : Int32) = nI 1 from rfl, pk_sub_toInt hM (by decide)]
  omega
theorem mI_lt {x M : Nat} (hx : x < 2 ^ 30) (hM : M < 2 ^ 30) : mI M < nI x ↔ M < x + 1 := by
  unfold mI
  rw [Int32.lt_iff_toInt_lt, nI_toInt (by omega), show (1 : Int32) = nI 1 from rfl, pk_sub_toInt hM (by decide)]
  omega
def Rr (τ : ojS) (d a c : Nat) : Prop := τ 1 c = 0 ∧ pth (fun x => τ 1 x = 0) d a c
