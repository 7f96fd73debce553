theorem law_loop {p : Program} {l : Launch} {e : Env} {s : State} {m : MethodId} {below : List Frame} {meth : Method} {c : Code} {b L : Nat} {xs : Nat → Int32} (hL : L ≤ 2560) (C0 : lw_At p s m meth c b L xs) {D : va_G} {E : ojE} {ad ad2 : Nat → Nat} (N0 : lwN s D E ad ad2) : ∀ (n i : Nat), L + 1 ≤ i + n → i ≤ L + 5 → ∀ (σ τ : ojS) (H : Heap) (locs : List Loc) (ls : Array Slot), lwG s b D E ad ad2 i σ τ H locs ls → W p l e room_1 s m #[Value.ref b] below meth c H locs 600000 7302250 (lw_Z below #[Value.ref b] s) (F0 m 18 ls []) := by
  obtain ⟨hx, hb, hr, hml, hown, hts, hX, hbl, hlocks, hgv⟩ := id C0
  have hbA : ¬ (fun q : Nat => s.heap.size ≤ q) b := Nat.not_le.mpr hbl
  intro n
  induction n with
  | zero =>
    intro i h1 h2 σ τ H locs ls G
    obtain ⟨hR, hPO, hPM, hDO, hDM, hS, hl⟩ := G
    refine lv_iload_n hx hb dL_law_18 rfl (lv_at hl 3 rfl) ?_
    refine lv_aload_n hx hb dL_law_19 rfl (lv_at hl 0 rfl) ?_
    refine va_slen hx hb hX hbl hbA hS dL_law_20 ?_
    refine lv_iconst (v := nI 5) hx hb dL_law_21 (by decide) ?_
    refine lv_isub hx hb dL_law_22 ?_
    refine lv_icmp_gt (tgt := 794) hx hb dL_law_23 (by decide) (fun _ => ?_) (fun q => absurd (show nI L - nI 5 < nI i from by
      rw [Int32.lt_iff_toInt_lt, pk_sub_toInt (by omega) (by decide), nI_toInt (by omega)]; omega) q)
    refine lv_iconst (v := 1) hx hb dL_law_794 (by decide) ?_
    refine va_forget (fun q hq => hS.2.2 q hq) ?_
    exact lw_ret hx hb hr hlocks dL_law_795
  | succ n ih =>
    intro i h1 h2 σ τ H locs ls G
    obtain ⟨hR, hPO, hPM, hDO, hDM, hS, hl⟩ := id G
    refine lv_iload_n hx hb dL_law_18 rfl (lv_at hl 3 rfl) ?_
    refine lv_aload_n hx hb dL_law_19 rfl (lv_at hl 0 rfl) ?_
    refine va_slen hx hb hX hbl hbA hS dL_law_20 ?_
    refine lv_iconst (v := nI 5) hx hb dL_law_21 (by decide) ?_
    refine lv_isub hx hb dL_law_22 ?_
    refine lv_icmp_gt (tgt := 794) hx hb dL_law_23 (by decide) (fun _ => ?_) (fun q => ?_)
    · refine lv_iconst (v := 1) hx hb dL_law_794 (by decide) ?_
      refine va_forget (fun q hq => hS.2.2 q hq) ?_
      exact lw_ret hx hb hr hlocks dL_law_795
    · have hi : i + 5 ≤ L := by
        refine Nat.not_lt.mp fun z => q ?_
        show nI L - nI 5 < nI i
        rw [Int32.lt_iff_toInt_lt, pk_sub_toInt (by omega) (by decide), nI_toInt (by omega)]; omega
      refine lv_aload_n hx hb dL_law_26 rfl (lv_at hl 0 rfl) ?_
      refine lv_iload_n hx hb dL_law_27 rfl (lv_at hl 3 rfl) ?_
      refine va_sld hx hb hX hbl hbA hS (vp_in_nI (by omega) (by omega)) dL_law_28 ?_
      refine lv_bipush (v := 31) hx hb dL_law_29 (by decide) ?_
      refine lv_iand hx hb dL_law_31 ?_
      have back : ∀ (σ τ : ojS) (H : Heap) (locs : List Loc) (ls : Array Slot), lwG s b D E ad ad2 i σ τ H locs ls → W p l e room_1 s m #[Value.ref b] below meth c H locs 600000 7302250 (lw_Z below #[Value.ref b] s) (F0 m 788 ls []) := by
        intro σ τ H locs ls G
        obtain ⟨hR, hPO, hPM, hDO, hDM, hS, hl⟩ := G
        refine lv_iinc (v := nI (i + 5)) (lv' := [(3, .int (nI (i + 5))), (0, .ref b), (1, .ref (ad 0)), (2, .ref (ad2 0))]) hx hb dL_law_788 hl (k := 3) rfl (nI_add i 5) (by decide) rfl (fun ls hl => ?_)
        refine lv_goto (tgt := 18) hx hb dL_law_791 (by decide) ?_
        exact ih (i + 5) (by omega) (by omega) σ τ H locs ls ⟨hR, hPO, hPM, hDO, hDM, hS, lv_sub hl [1, 2, 3, 0] rfl⟩
      generalize xs (nI i).toNatClampNeg &&& 31 = v
      by_cases hv : v.toInt < 0 ∨ 19 < v.toInt
      · exact lv_tableOut (tgt := 788) hx hb dL_law_32 hv (by decide) (back σ τ H locs ls G)
      · have h0 : ¬ v.toInt < 0 := fun z => hv (Or.inl z)
        have h19 : ¬ 19 < v.toInt := fun z => hv (Or.inr z)
        obtain ⟨k, hk, ek⟩ : ∃ k : Nat, k < 20 ∧ v.toInt = (k : Int) := ⟨v.toInt.toNat, by omega, by omega⟩
        have hsub : (v.toInt - 0).toNat = k := by rw [ek]; omega
        rcases (show k = 0 ∨ k = 1 ∨ k = 2 ∨ k = 3 ∨ k = 4 ∨ k = 5 ∨ k = 6 ∨ k = 7 ∨ k = 8 ∨ k = 9 ∨ k = 10 ∨ k = 11 ∨ k = 12 ∨ k = 13 ∨ k = 14 ∨ k = 15 ∨ k = 16 ∨ k = 17 ∨ k = 18 ∨ k = 19 by omega) with rfl | rfl | rfl | rfl | rfl | rfl | rfl | rfl | rfl | rfl | rfl | rfl | rfl | rfl | rfl | rfl | rfl | rfl | rfl | rfl
        · exact lv_tableIn (off := 96) (tgt := 128) hx hb dL_law_32 h0 h19 (by rw [hsub]; rfl) (by decide) (law_op_shore hL C0 N0 hi back σ τ H locs ls G)
        · exact lv_tableIn (off := 129) (tgt := 161) hx hb dL_law_32 h0 h19 (by rw [hsub]; rfl) (by decide) (law_op_weather hL C0 N0 hi back σ τ H locs ls G)
        · exact lv_tableIn (off := 182) (tgt := 214) hx hb dL_law_32 h0 h19 (by rw [hsub]; rfl) (by decide) (law_op_boom hL C0 N0 hi back σ τ H locs ls G)
        · exact lv_tableIn (off := 225) (tgt := 257) hx hb dL_law_32 h0 h19 (by rw [hsub]; rfl) (by decide) (law_op_lift hL C0 N0 hi back σ τ H locs ls G)
        · exact lv_tableIn (off := 248) (tgt := 280) hx hb dL_law_32 h0 h19 (by rw [hsub]; rfl) (by decide) (law_op_spill hL C0 N0 hi back σ τ H locs ls G)
        · exact lv_tableIn (off := 281) (tgt := 313) hx hb dL_law_32 h0 h19 (by rw [hsub]; rfl) (by decide) (law_op_skimmer hL C0 N0 hi back σ τ H locs ls G)
        · exact lv_tableIn (off := 334) (tgt := 366) hx hb dL_law_32 h0 h19 (by rw [hsub]; rfl) (by decide) (law_op_sail hL C0 N0 hi back σ τ H locs ls G)
        · exact lv_tableIn (off := 367) (tgt := 399) hx hb dL_law_32 h0 h19 (by rw [hsub]; rfl) (by decide) (law_op_empty hL C0 N0 hi back σ τ H locs ls G)
        · exact lv_tableIn (off := 390) (tgt := 422) hx hb dL_law_32 h0 h19 (by rw [hsub]; rfl) (by decide) (law_op_go hL C0 N0 hi back σ τ H locs ls G)
        · exact lv_tableIn (off := 413) (tgt := 445) hx hb dL_law_32 h0 h19 (by rw [hsub]; rfl) (by decide) (law_op_oil hL C0 N0 hi back σ τ H locs ls G)
        · exact lv_tableIn (off := 436) (tgt := 468) hx hb dL_law_32 h0 h19 (by rw [hsub]; rfl) (by decide) (law_op_foretold hL C0 N0 hi back σ τ H locs ls G)
        · exact lv_tableIn (off := 469) (tgt := 501) hx hb dL_law_32 h0 h19 (by rw [hsub]; rfl) (by decide) (law_op_worst hL C0 N0 hi back σ τ H locs ls G)
        · exact lv_tableIn (off := 492) (tgt := 524) hx hb dL_law_32 h0 h19 (by rw [hsub]; rfl) (by decide) (law_op_best hL C0 N0 hi back σ τ H locs ls G)
        · exact lv_tableIn (off := 535) (tgt := 567) hx hb dL_law_32 h0 h19 (by rw [hsub]; rfl) (by decide) (law_op_ship hL C0 N0 hi back σ τ H locs ls G)
        · exact lv_tableIn (off := 578) (tgt := 610) hx hb dL_law_32 h0 h19 (by rw [hsub]; rfl) (by decide) (law_op_could hL C0 N0 hi back σ τ H locs ls G)
        · exact lv_tableIn (off := 611) (tgt := 643) hx hb dL_law_32 h0 h19 (by rw [hsub]; rfl) (by decide) (law_op_sample hL C0 N0 hi back σ τ H locs ls G)
        · exact lv_tableIn (off := 644) (tgt := 676) hx hb dL_law_32 h0 h19 (by rw [hsub]; rfl) (by decide) (law_op_part hL C0 N0 hi back σ τ H locs ls G)
        · exact lv_tableIn (off := 677) (tgt := 709) hx hb dL_law_32 h0 h19 (by rw [hsub]; rfl) (by decide) (law_op_bill hL C0 N0 hi back σ τ H locs ls G)
        · exact lv_tableIn (off := 700) (tgt := 732) hx hb dL_law_32 h0 h19 (by rw [hsub]; rfl) (by decide) (law_op_told hL C0 N0 hi back σ τ H locs ls G)
        · exact lv_tableIn (off := 733) (tgt := 765) hx hb dL_law_32 h0 h19 (by rw [hsub]; rfl) (by decide) (law_op_count hL C0 N0 hi back σ τ H locs ls G)
