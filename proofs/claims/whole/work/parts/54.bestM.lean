def CX (σ τ : ojS) (N K s d : Nat) (at_ rt rm : Nat → Nat) : Prop := EV K σ τ ∧ FM K at_ rt rm τ ∧ N ≤ 500 ∧ s < K ∧ 1 ≤ d ∧ d ≤ 3 ∧ τ 12 s = nI d
def Mst (τ : ojS) (N K s k : Nat) (at_ : Nat → Nat) (x5 : Int32) (p : ((Nat → Nat) × (Nat → Nat))) (a t : Nat) (u : ojS) : Prop :=
  (∀ j, j ≠ 0 → j ≠ 2 → j ≠ 9 → j ≠ 13 → j ≠ 14 → j ≠ 21 → j ≠ 22 → u j = τ j) ∧ (∀ j, j ≠ 0 → j ≠ 11 → j ≠ 12 → j ≠ 13 → j ≠ 30 → j ≠ 31 → u 0 j = τ 0 j) ∧ u 0 0 = nI (N + k) ∧ (∀ c, c < 96 → u 2 c = nI (p.1 c)) ∧ (∀ i, i < 4 → u 13 i = nI (p.2 i)) ∧ (∀ i, i < K → u 9 i = nI (if i = s then a else at_ i)) ∧ u 14 s = x5 + nI t
def Bq (k : Nat) (u v : ojS) : Prop := (∀ j, j ≠ 0 → j ≠ 2 → j ≠ 9 → j ≠ 13 → j ≠ 14 → j ≠ 21 → j ≠ 22 → v j = u j) ∧ (∀ c, c < 96 → v 2 c = u 2 c) ∧ (∀ i, i < 4 → v 9 i = u 9 i ∧ v 13 i = u 13 i ∧ v 14 i = u 14 i) ∧ (∀ j, j ≠ 30 → j ≠ 31 → v 0 j = u 0 j) ∧ ∀ j, j < 112 * (k + 1) → v 22 j = u 22 j
theorem Bq_rf {k : Nat} {u : ojS} : Bq k u u := ⟨fun _ _ _ _ _ _ _ _ => rfl, fun _ _ => rfl, fun _ _ => ⟨rfl, rfl, rfl⟩, fun _ _ _ => rfl, fun _ _ => rfl⟩
theorem Bq_tr {k : Nat} {a b c : ojS} (h1 : Bq k a b) (h2 : Bq k b c) : Bq k a c := ⟨fun j q1 q2 q3 q4 q5 q6 q7 => (h2.1 j q1 q2 q3 q4 q5 q6 q7).trans (h1.1 j q1 q2 q3 q4 q5 q6 q7), fun x hx => (h2.2.1 x hx).trans (h1.2.1 x hx), fun i hi => ⟨(h2.2.2.1 i hi).1.trans (h1.2.2.1 i hi).1, (h2.2.2.1 i hi).2.1.trans (h1.2.2.1 i hi).2.1, (h2.2.2.1 i hi).2.2.trans (h1.2.2.1 i hi).2.2⟩, fun j q1 q2 => (h2.2.2.2.1 j q1 q2).trans (h1.2.2.2.1 j q1 q2), fun j q => (h2.2.2.2.2 j q).trans (h1.2.2.2.2 j q)⟩
theorem Mst_Bq {τ : ojS} {N K s k k2 : Nat} {at_ : Nat → Nat} {x5 : Int32} {p : ((Nat → Nat) × (Nat → Nat))} {a t : Nat} {u v : ojS} (hK : K ≤ 4) (hs : s < K) (h : Mst τ N K s k at_ x5 p a t u) (hq : Bq k2 u v) : Mst τ N K s k at_ x5 p a t v := by
  obtain ⟨m1, m2, m3, m4, m5, m6, m7⟩ := h
  obtain ⟨b1, b2, b3, b4, -⟩ := hq
  refine ⟨fun j q1 q2 q3 q4 q5 q6 q7 => by rw [b1 j q1 q2 q3 q4 q5 q6 q7, m1 j q1 q2 q3 q4 q5 q6 q7], fun j q1 q2 q3 q4 q5 q6 => by rw [b4 j q5 q6, m2 j q1 q2 q3 q4 q5 q6], by rw [b4 0 (by decide) (by decide), m3], fun c hc => by rw [b2 c hc, m4 c hc], fun i hi => by rw [(b3 i hi).2.1, m5 i hi], fun i hi => by rw [(b3 i (by omega)).1, m6 i hi], by rw [(b3 s (by omega)).2.2, m7]⟩
def Bs (b : Nat × Int32) (u : ojS) : Prop := u 0 30 = mI b.1 ∧ u 0 31 = b.2
theorem md_tries {σ τ : ojS} {N K s d : Nat} {at_ rt rm : Nat → Nat} (hX : CX σ τ N K s d at_ rt rm) {k a c t : Nat} {x5 : Int32} {p : ((Nat → Nat) × (Nat → Nat))} {u : ojS} (hk : k < 3) (ha : a < 96) (hc : c < 96) (hok : okp K rm p) (hM : Mst τ N K s k at_ x5 p a t u) :
    (¬ Rr τ d a c ∧ f_X9_tries (nI s) (nI c) (nI (k + 1)) u = some (0, u)) ∨ (Rr τ d a c ∧ ∃ u', f_X9_tries (nI s) (nI c) (nI (k + 1)) u = some (1, u') ∧ Mst τ N K s (k + 1) at_ x5 ((nxt τ N K s at_ rt rm (τ 0 10)) k p c) c (t + (((nxt τ N K s at_ rt rm (τ 0 10)) k p c).2 s - p.2 s)) u' ∧ Kp (k + 1) u u' ∧ (∀ j, j < 112 * (k + 1) → u' 22 j = u 22 j) ∧ u' 0 30 = u 0 30 ∧ u' 0 31 = u 0 31) := by
  obtain ⟨hE, hF, hN, hs, hd1, hd, h12⟩ := hX
  have hK4 : K ≤ 4 := hE.2.2.2.1
  obtain ⟨m1, m2, m3, m4, m5, m6, m7⟩ := hM
  have n1 : u 1 = τ 1 := m1 1 (by decide) (by decide) (by decide) (by decide) (by decide) (by decide) (by decide)
  have hnet : Rnet (σ 2) (u 1) := by rw [n1]; exact hE.1
  unfold f_X9_tries
  rcases isSea_at hnet hc with ⟨e0, -, e1⟩ | ⟨e0, -, e1⟩
  · rw [e1]
    simp only [ojB1_s, if10, ifF, ojChk_nI (show s < 4 by omega) (by decide), nI_clamp (show s < 2 ^ 31 by omega)]
    rw [m6 s hs, if_pos rfl, m1 12 (by decide) (by decide) (by decide) (by decide) (by decide) (by decide) (by decide), h12]
    rcases canGo_eq hnet hc e0 (n := d) (a := a) hd1 hd ha with ⟨q1, q2⟩ | ⟨q1, q2⟩
    · rw [q2]
      simp only [ojB1_s, if10, ifF]
      refine Or.inr ⟨⟨by rw [← n1]; exact e0, by rw [← n1]; exact q1⟩, ?_⟩
      obtain ⟨τ4, a1, a2, a3, a4⟩ := md_keeps (τ := u) (d := k + 1) (by omega)
      rw [a1]
      simp only [ojBv_s, ojLet_s]
      have st : ∀ j, j ≠ 0 → j ≠ 2 → j ≠ 9 → j ≠ 13 → j ≠ 14 → j ≠ 21 → j ≠ 22 → ojU τ4 9 s (nI c) j = τ j := fun j q1 q2 q3 q4 q5 q6 q7 => by rw [ojU_ne q3, a2 j q7, m1 j q1 q2 q3 q4 q5 q6 q7]
      have s0 : ojU τ4 9 s (nI c) 0 = u 0 := by rw [ojU_ne (by decide), a2 0 (by decide)]
      have s22 : ojU τ4 9 s (nI c) 22 = τ4 22 := by rw [ojU_ne (by decide)]
      have s2 : ojU τ4 9 s (nI c) 2 = u 2 := by rw [ojU_ne (by decide), a2 2 (by decide)]
      have s13 : ojU τ4 9 s (nI c) 13 = u 13 := by rw [ojU_ne (by decide), a2 13 (by decide)]
      have s14 : ojU τ4 9 s (nI c) 14 = u 14 := by rw [ojU_ne (by decide), a2 14 (by decide)]
      have s9 : ojU τ4 9 s (nI c) 9 = upd (u 9) s (nI c) := by rw [ojU_eq, a2 9 (by decide)]
      generalize ojU τ4 9 s (nI c) = σ5 at st s0 s22 s2 s13 s14 s9 ⊢
      have x1 := st 1 (by decide) (by decide) (by decide) (by decide) (by decide) (by decide) (by decide)
      have x3 := st 3 (by decide) (by decide) (by decide) (by decide) (by decide) (by decide) (by decide)
      have x4 := st 4 (by decide) (by decide) (by decide) (by decide) (by decide) (by decide) (by decide)
      have x5' := st 5 (by decide) (by decide) (by decide) (by decide) (by decide) (by decide) (by decide)
      have x6 := st 6 (by decide) (by decide) (by decide) (by decide) (by decide) (by decide) (by decide)
      have x7 := st 7 (by decide) (by decide) (by decide) (by decide) (by decide) (by decide) (by decide)
      have x8 := st 8 (by decide) (by decide) (by decide) (by decide) (by decide) (by decide) (by decide)
      have x10 := st 10 (by decide) (by decide) (by decide) (by decide) (by decide) (by decide) (by decide)
      have x11 := st 11 (by decide) (by decide) (by decide) (by decide) (by decide) (by decide) (by decide)
      have f9 : ∀ i, i < K → σ5 9 i = nI (if i = s then c else at_ i) := fun i hi => by
        rw [s9]
        by_cases q : i = s
        · rw [q, upd_eq, if_pos rfl]
        · rw [upd_ne q, m6 i hi, if_neg q, if_neg q]
      have hE5 : EV K σ σ5 := EV_fr hE rfl rfl rfl rfl rfl rfl rfl x1 x3 x4 x5' x6 x7 x8 (by rw [s0, m2 14 (by decide) (by decide) (by decide) (by decide) (by decide) (by decide)])
      obtain ⟨τ', b1, b2, b3, b4, -, -, -, b8, b9, b10⟩ := md_hour hE5 (wd := 0) (h := N + k) (by omega) (by omega) (by rw [s0]; exact m3) (at_ := fun j => if j = s then c else at_ j) (rt := rt) (rm := rm) (fun i hi => by
        obtain ⟨g1, g2, g3, g4, g5, g6⟩ := hF i hi
        refine ⟨f9 i hi, by rw [x10]; exact g2, by rw [x11]; exact g3, ?_, g5, g6⟩
        dsimp only
        by_cases q : i = s
        · rw [if_pos q]; exact hc
        · rw [if_neg q]; exact g4) (L := p.1) (ld := p.2) (fun x hx => by rw [s2]; exact m4 x hx) (fun i hi => by rw [s13]; exact m5 i hi) hok.1 hok.2
      rw [show f_X9_hour 0 σ5 = some τ' from b1]
      simp only [ojBv_s]
      rw [s0, m2 10 (by decide) (by decide) (by decide) (by decide) (by decide) (by decide), hrL_congr x1 x3 x4 x5' x6 x7 x8] at b8 b9 b10
      refine ⟨τ', by simp only [ojChk_nI (show s < 4 by omega) (by decide)], ⟨fun j q1 q2 q3 q4 q5 q6 q7 => by rw [b2 j q1 q2 q4 q5 q6, st j q1 q2 q3 q4 q5 q6 q7], fun j q1 q2 q3 q4 q5 q6 => by rw [b3 j q1 q2 q3 q4, s0, m2 j q1 q2 q3 q4 q5 q6], b4, b8, b9, fun i hi => by rw [b2 9 (by decide) (by decide) (by decide) (by decide) (by decide)]; exact f9 i hi, ?_⟩, Kp_fr a3 (fun j _ _ => by rw [b2 22 (by decide) (by decide) (by decide) (by decide) (by decide), s22]), fun j hj => by rw [b2 22 (by decide) (by decide) (by decide) (by decide) (by decide), s22]; exact a4 j (Or.inl hj), by rw [b3 30 (by decide) (by decide) (by decide) (by decide), s0], by rw [b3 31 (by decide) (by decide) (by decide) (by decide), s0]⟩
      rw [b10 s (by omega), s14, m7, Int32.add_assoc, nI_add]
      rfl
    · rw [q2]
      exact Or.inl ⟨fun z => q1 (by rw [n1]; exact z.2), rfl⟩
  · rw [e1]
    exact Or.inl ⟨fun z => e0 (by rw [n1]; exact z.1), rfl⟩
theorem md_close {τ : ojS} {N K s k : Nat} {at_ : Nat → Nat} {x5 : Int32} {p p2 : ((Nat → Nat) × (Nat → Nat))} {a a2 t t2 : Nat} {u u' v : ojS} (hk : k < 3) (hM : Mst τ N K s k at_ x5 p a t u) (hM2 : Mst τ N K s (k + 1) at_ x5 p2 a2 t2 u') (hKp : Kp (k + 1) u u') (h22 : ∀ j, j < 112 * (k + 1) → u' 22 j = u 22 j) (hq : Bq (k + 1) u' v) :
    ∃ w, f_X9_back (nI (k + 1)) v = some w ∧ Bq k u w ∧ w 0 30 = v 0 30 ∧ w 0 31 = v 0 31 := by
  obtain ⟨b1, b2, b3, b4, b5⟩ := hq
  obtain ⟨w, c1, c2, c3, c4, c5, c6, c7, c8, c9⟩ := md_back (τ0 := u) (τ := v) (d := k + 1) (by omega) (Kp_fr hKp (fun j q1 q2 => b5 j (by omega)))
  refine ⟨w, c1, ⟨fun j q1 q2 q3 q4 q5 q6 q7 => by rw [c2 j q1 q2 q3 q4 q5, b1 j q1 q2 q3 q4 q5 q6 q7, hM2.1 j q1 q2 q3 q4 q5 q6 q7, hM.1 j q1 q2 q3 q4 q5 q6 q7], c4, c5, fun j q1 q2 => ?_, fun j hj => by rw [c2 22 (by decide) (by decide) (by decide) (by decide) (by decide), b5 j (by omega), h22 j hj]⟩, c3 30 (by decide) (by decide) (by decide) (by decide), c3 31 (by decide) (by decide) (by decide) (by decide)⟩
  by_cases j0 : j = 0
  · rw [j0]; exact c6
  by_cases j1 : j = 11
  · rw [j1]; exact c7
  by_cases j2 : j = 12
  · rw [j2]; exact c8
  by_cases j3 : j = 13
  · rw [j3]; exact c9
  rw [c3 j j0 j1 j2 j3, b4 j q1 q2, hM2.2.1 j j0 j1 j2 j3 q1 q2, hM.2.1 j j0 j1 j2 j3 q1 q2]
theorem md_meets {R : Nat → Nat → Prop} {nx : Nat → ((Nat → Nat) × (Nat → Nat)) → Nat → ((Nat → Nat) × (Nat → Nat))} {a0 k0 : Nat} {p0 : ((Nat → Nat) × (Nat → Nat))} {s t k2 : Nat} {x5 c1 : Int32} {b : Nat × Int32} {u : ojS} (h14 : u 14 s = x5 + nI t) (ht : t ≤ 100000) (hb : b.1 ≤ 100001) (hB : Bs b u) :
    ∃ v, f_X9_meets (u 14 s - x5) c1 u = some v ∧ Bq k2 u v ∧ Bs (srch R nx s 0 a0 k0 p0 t c1 b) v := by
  obtain ⟨b1, b2⟩ := hB
  have e : u 14 s - x5 = nI t := by rw [h14, Int32.add_comm, Int32.add_sub_cancel]
  unfold f_X9_meets
  rw [e, srch_0]
  by_cases q : b.1 < t + 1
  · rw [if_pos (show u 0 30 < nI t by rw [b1]; exact (mI_lt (by omega) (by omega)).mpr q), if_pos q]
    simp only [ojLet_s]
    refine ⟨_, rfl, ⟨fun j q1 _ _ _ _ _ _ => by rw [ojU_ne q1, ojU_ne q1], fun c _ => by rw [ojU_ne (by decide), ojU_ne (by decide)], fun i _ => by rw [ojU_ne (by decide), ojU_ne (by decide), ojU_ne (by decide), ojU_ne (by decide), ojU_ne (by decide), ojU_ne (by decide)]; exact ⟨rfl, rfl, rfl⟩, fun j q1 q2 => by rw [ojU_eq, upd_ne q2, ojU_eq, upd_ne q1], fun j _ => by rw [ojU_ne (by decide), ojU_ne (by decide)]⟩, ?_, ?_⟩
    · rw [ojU_eq, upd_ne (by decide), ojU_eq, upd_eq, mI_s]
    · rw [ojU_eq, upd_eq]
  · rw [if_neg (show ¬ u 0 30 < nI t by rw [b1]; exact fun z => q ((mI_lt (by omega) (by omega)).mp z)), if_neg q]
    exact ⟨u, rfl, Bq_rf, b1, b2⟩
