def f_X9_in (a0 : Int32) (a1 : Int32) (a2 : Int32) : Option (Int32) :=
  if a0 < a1 then
    some 0
  else
    if a2 < a0 then
      some 0
    else
      some 1
set_option maxRecDepth 100000 in
set_option maxHeartbeats 4000000 in
theorem wk_X9_in {l : Launch} {D : va_G} {E : ojE} {ad : Nat → Nat} {X : ojX} {Q : Int32 → State → Prop} (hc : ojC X (vM_ l D E ad) RX9 cX9_in 3 1) (σ : ojS) (hret : ojRr X (vM_ l D E ad) Q cX9_in .boolean σ) (a0 : Int32) (a1 : Int32) (a2 : Int32) : ojJ X (vM_ l D E ad) Q (f_X9_in a0 a1 a2) σ 0 [(0, .int a0), (1, .int a1), (2, .int a2)] [] := by
  unfold f_X9_in
  refine oj_iload_n hc dX9_in_0 rfl 0 rfl ?_
  refine oj_iload_n hc dX9_in_1 rfl 1 rfl ?_
  refine oj_icmp_lt hc 14 dX9_in_2 (by decide) (fun _ => ?_) ?_
  · refine oj_iconst hc 0 dX9_in_14 kc_0 ?_
    exact hret _ _ _ rfl dX9_in_15
  · refine oj_iload_n hc dX9_in_5 rfl 0 rfl ?_
    refine oj_iload_n hc dX9_in_6 rfl 2 rfl ?_
    refine oj_icmp_gt hc 14 dX9_in_7 (by decide) (fun _ => ?_) ?_
    · refine oj_iconst hc 0 dX9_in_14 kc_0 ?_
      exact hret _ _ _ rfl dX9_in_15
    · refine oj_iconst hc 1 dX9_in_10 kc_1 ?_
      refine oj_goto hc 15 dX9_in_11 (by decide) ?_
      exact hret _ _ _ rfl dX9_in_15
set_option maxRecDepth 100000 in
theorem c_X9_in {l : Launch} {D : va_G} {E : ojE} {ad : Nat → Nat} (a0 : Int32) (a1 : Int32) (a2 : Int32) (σ : ojS) : ∀ (r : Int32), f_X9_in a0 a1 a2 = some r → ojMi (vM_ l D E ad) yX9_in cX9_in 3 (some .boolean) 1 [.int a0, .int a1, .int a2] σ r σ :=
  ojMi_R (by decide +kernel) rfl .boolean rfl (Nat.le_of_ble_eq_true rfl) rfl (fun X Q hc hret => wk_X9_in hc σ hret a0 a1 a2)

def f_X9_isCell (a0 : Int32) : Option (Int32) :=
  ojB1 (f_X9_in a0 0 95) (fun (r1 : Int32) =>
    ojBl r1 (some r1))
set_option maxRecDepth 100000 in
set_option maxHeartbeats 4000000 in
theorem wk_X9_isCell {l : Launch} {D : va_G} {E : ojE} {ad : Nat → Nat} {X : ojX} {Q : Int32 → State → Prop} (hc : ojC X (vM_ l D E ad) RX9 cX9_isCell 1 2) (σ : ojS) (hret : ojRr X (vM_ l D E ad) Q cX9_isCell .boolean σ) (a0 : Int32) : ojJ X (vM_ l D E ad) Q (f_X9_isCell a0) σ 0 [(0, .int a0)] [] := by
  unfold f_X9_isCell
  refine oj_iload_n hc dX9_isCell_0 rfl 0 rfl ?_
  refine oj_iconst hc 0 dX9_isCell_1 kc_0 ?_
  refine oj_bipush hc 95 dX9_isCell_2 kb_95 ?_
  refine oj_cS1 hc cs_X9_93 (by omega) [.int a0, .int 0, .int 95] [] rfl rfl (Nat.le_of_ble_eq_true rfl) dX9_isCell_4 (c_X9_in a0 0 95 σ) (fun r1 => ?_)
  refine oj_bl (fun hz2 => ?_)
  exact hret _ _ _ (oj_nbl hz2) dX9_isCell_7
set_option maxRecDepth 100000 in
theorem c_X9_isCell {l : Launch} {D : va_G} {E : ojE} {ad : Nat → Nat} (a0 : Int32) (σ : ojS) : ∀ (r : Int32), f_X9_isCell a0 = some r → ojMi (vM_ l D E ad) yX9_isCell cX9_isCell 1 (some .boolean) 2 [.int a0] σ r σ :=
  ojMi_R (by decide +kernel) rfl .boolean rfl (Nat.le_of_ble_eq_true rfl) rfl (fun X Q hc hret => wk_X9_isCell hc σ hret a0)

def f_X9_isSea (a1 : Int32) (σ : ojS) : Option (Int32) :=
  ojB1 (f_X9_isCell a1) (fun (r1 : Int32) =>
    if r1 = 0 then
      some 0
    else
      ojChk a1 96 (
        if (σ 1 a1.toNatClampNeg) = 0 then
          some 1
        else
          some 0))
set_option maxRecDepth 100000 in
set_option maxHeartbeats 4000000 in
theorem wk_X9_isSea {l : Launch} {D : va_G} {E : ojE} {ad : Nat → Nat} {X : ojX} {Q : Int32 → State → Prop} (hc : ojC X (vM_ l D E ad) RX9 cX9_isSea 2 3) (σ : ojS) (hret : ojRr X (vM_ l D E ad) Q cX9_isSea .boolean σ) (a1 : Int32) : ojJ X (vM_ l D E ad) Q (f_X9_isSea a1 σ) σ 0 [(0, .ref (ad 0)), (1, .int a1)] [] := by
  unfold f_X9_isSea
  refine oj_iload_n hc dX9_isSea_0 rfl 1 rfl ?_
  refine oj_cS1 hc cs_X9_97 (by omega) [.int a1] [] rfl rfl (Nat.le_of_ble_eq_true rfl) dX9_isSea_1 (c_X9_isCell a1 σ) (fun r1 => ?_)
  refine oj_if_eq hc 20 dX9_isSea_4 (by decide) (fun _ => ?_) ?_
  · refine oj_iconst hc 0 dX9_isSea_20 kc_0 ?_
    exact hret _ _ _ rfl dX9_isSea_21
  · refine oj_aload_n hc dX9_isSea_7 rfl 0 rfl ?_
    refine oj_getf hc ff_X9_9 mC_Model rfl dX9_isSea_8 ?_
    refine oj_iload_n hc dX9_isSea_11 rfl 1 rfl ?_
    refine oj_iald hc 0 mC_m_rank rfl dX9_isSea_12 ?_
    refine oj_if_ne hc 20 dX9_isSea_13 (by decide) ?_ (fun _ => ?_)
    · refine oj_iconst hc 0 dX9_isSea_20 kc_0 ?_
      exact hret _ _ _ rfl dX9_isSea_21
    · refine oj_iconst hc 1 dX9_isSea_16 kc_1 ?_
      refine oj_goto hc 21 dX9_isSea_17 (by decide) ?_
      exact hret _ _ _ rfl dX9_isSea_21
set_option maxRecDepth 100000 in
theorem c_X9_isSea {l : Launch} {D : va_G} {E : ojE} {ad : Nat → Nat} (a1 : Int32) (σ : ojS) : ∀ (r : Int32), f_X9_isSea a1 σ = some r → ojMi (vM_ l D E ad) yX9_isSea cX9_isSea 2 (some .boolean) 3 [.ref (ad 0), .int a1] σ r σ :=
  ojMi_R (by decide +kernel) rfl .boolean rfl (Nat.le_of_ble_eq_true rfl) rfl (fun X Q hc hret => wk_X9_isSea hc σ hret a1)

def f_X9_isSkimmer (a1 : Int32) (σ : ojS) : Option (Int32) :=
  ojB1 (f_X9_in a1 0 ((σ 0 14) - 1)) (fun (r1 : Int32) =>
    ojBl r1 (some r1))
set_option maxRecDepth 100000 in
set_option maxHeartbeats 4000000 in
theorem wk_X9_isSkimmer {l : Launch} {D : va_G} {E : ojE} {ad : Nat → Nat} {X : ojX} {Q : Int32 → State → Prop} (hc : ojC X (vM_ l D E ad) RX9 cX9_isSkimmer 2 2) (σ : ojS) (hret : ojRr X (vM_ l D E ad) Q cX9_isSkimmer .boolean σ) (a1 : Int32) : ojJ X (vM_ l D E ad) Q (f_X9_isSkimmer a1 σ) σ 0 [(0, .ref (ad 0)), (1, .int a1)] [] := by
  unfold f_X9_isSkimmer
  refine oj_iload_n hc dX9_isSkimmer_0 rfl 1 rfl ?_
  refine oj_iconst hc 0 dX9_isSkimmer_1 kc_0 ?_
  refine oj_aload_n hc dX9_isSkimmer_2 rfl 0 rfl ?_
  refine oj_getf hc ff_X9_101 mC_Model rfl dX9_isSkimmer_3 ?_
  refine oj_iconst hc 1 dX9_isSkimmer_6 kc_1 ?_
  refine oj_isub hc dX9_isSkimmer_7 ?_
  refine oj_cS1 hc cs_X9_93 (by omega) [.int a1, .int 0, .int ((σ 0 14) - 1)] [] rfl rfl (Nat.le_of_ble_eq_true rfl) dX9_isSkimmer_8 (c_X9_in a1 0 ((σ 0 14) - 1) σ) (fun r1 => ?_)
  refine oj_bl (fun hz2 => ?_)
  exact hret _ _ _ (oj_nbl hz2) dX9_isSkimmer_11
set_option maxRecDepth 100000 in
theorem c_X9_isSkimmer {l : Launch} {D : va_G} {E : ojE} {ad : Nat → Nat} (a1 : Int32) (σ : ojS) : ∀ (r : Int32), f_X9_isSkimmer a1 σ = some r → ojMi (vM_ l D E ad) yX9_isSkimmer cX9_isSkimmer 2 (some .boolean) 2 [.ref (ad 0), .int a1] σ r σ :=
  ojMi_R (by decide +kernel) rfl .boolean rfl (Nat.le_of_ble_eq_true rfl) rfl (fun X Q hc hret => wk_X9_isSkimmer hc σ hret a1)

def f_X9_shore_93 (a1 : Int32) (a2 : Int32) (a3 : Int32) (σ : ojS) : Option (Int32 × ojS) :=
  ojFix (fun _ => none) 600 (fun (rec_93 : Int32 → Option (Int32 × ojS)) (v3_93 : Int32) =>
    if 20 ≤ v3_93 then
      ojChk a1 96 (ojLet (ojU σ 1 a1.toNatClampNeg a2) (fun (σ3 : ojS) =>
        some (1, σ3)))
    else
      ojChk v3_93 20 (
        if (σ 5 v3_93.toNatClampNeg) = 0 then
          ojLet (v3_93 + 1) (fun (x4 : Int32) =>
            rec_93 x4)
        else
          ojChk v3_93 20 (
            if (σ 6 v3_93.toNatClampNeg) = a1 then
              some (0, σ)
            else
              ojChk v3_93 20 (
                if (σ 7 v3_93.toNatClampNeg) = a1 then
                  some (0, σ)
                else
                  ojLet (v3_93 + 1) (fun (x5 : Int32) =>
                    rec_93 x5))))) a3
set_option maxRecDepth 100000 in
set_option maxHeartbeats 4000000 in
theorem wk_X9_shore_93 {l : Launch} {D : va_G} {E : ojE} {ad : Nat → Nat} {X : ojX} {Q : Int32 × ojS → State → Prop} (hc : ojC X (vM_ l D E ad) RX9 cX9_shore 4 3) (hret : ojRi X (vM_ l D E ad) Q cX9_shore .boolean) (a1 : Int32) (a2 : Int32) (a3 : Int32) (σ : ojS) : ojJ X (vM_ l D E ad) Q (f_X9_shore_93 a1 a2 a3 σ) σ 93 [(0, .ref (ad 0)), (1, .int a1), (2, .int a2), (3, .int a3)] [] := by
  unfold f_X9_shore_93
  refine oj_fix (fun (r : Int32 → Option (Int32 × ojS)) => ∀ (v3_93 : Int32), ojJ X (vM_ l D E ad) Q (r v3_93) σ 93 [(0, .ref (ad 0)), (1, .int a1), (2, .int a2), (3, .int v3_93)] []) _ (fun _ => oj_none) (fun rec_93 hrec_93 v3_93 => ?_) 600 a3
  refine oj_iload_n hc dX9_shore_93 rfl 3 rfl ?_
  refine oj_bipush hc 20 dX9_shore_94 kb_20 ?_
  refine oj_icmp_ge hc 136 dX9_shore_96 (by decide) (fun _ => ?_) ?_
  · refine oj_aload_n hc dX9_shore_136 rfl 0 rfl ?_
    refine oj_getf hc ff_X9_9 mC_Model rfl dX9_shore_137 ?_
    refine oj_iload_n hc dX9_shore_140 rfl 1 rfl ?_
    refine oj_iload_n hc dX9_shore_141 rfl 2 rfl ?_
    refine oj_iast hc 0 mC_m_rank mC_m_rank_s rfl rfl dX9_shore_142 (fun σ3 => ?_)
    refine oj_iconst hc 1 dX9_shore_143 kc_1 ?_
    exact hret _ _ _ _ rfl dX9_shore_144
  · refine oj_aload_n hc dX9_shore_99 rfl 0 rfl ?_
    refine oj_getf hc ff_X9_22 mC_Model rfl dX9_shore_100 ?_
    refine oj_iload_n hc dX9_shore_103 rfl 3 rfl ?_
    refine oj_zald hc 1 mC_m_isBoom rfl dX9_shore_104 ?_
    refine oj_if_eq hc 130 dX9_shore_105 (by decide) (fun _ => ?_) ?_
    · refine oj_iinc hc 1 (fun u => [(0, .ref (ad 0)), (1, .int a1), (2, .int a2), (3, .int u)]) 3 rfl kc_1 (fun _ => rfl) (by decide) dX9_shore_130 (fun x4 => ?_)
      refine oj_goto hc 93 dX9_shore_133 (by decide) ?_
      exact hrec_93 x4
    · refine oj_aload_n hc dX9_shore_108 rfl 0 rfl ?_
      refine oj_getf hc ff_X9_26 mC_Model rfl dX9_shore_109 ?_
      refine oj_iload_n hc dX9_shore_112 rfl 3 rfl ?_
      refine oj_iald hc 0 mC_m_boomA rfl dX9_shore_113 ?_
      refine oj_iload_n hc dX9_shore_114 rfl 1 rfl ?_
      refine oj_icmp_eq hc 128 dX9_shore_115 (by decide) (fun _ => ?_) ?_
      · refine oj_iconst hc 0 dX9_shore_128 kc_0 ?_
        exact hret _ _ _ _ rfl dX9_shore_129
      · refine oj_aload_n hc dX9_shore_118 rfl 0 rfl ?_
        refine oj_getf hc ff_X9_29 mC_Model rfl dX9_shore_119 ?_
        refine oj_iload_n hc dX9_shore_122 rfl 3 rfl ?_
        refine oj_iald hc 0 mC_m_boomB rfl dX9_shore_123 ?_
        refine oj_iload_n hc dX9_shore_124 rfl 1 rfl ?_
        refine oj_icmp_ne hc 130 dX9_shore_125 (by decide) ?_ (fun _ => ?_)
        · refine oj_iinc hc 1 (fun u => [(0, .ref (ad 0)), (1, .int a1), (2, .int a2), (3, .int u)]) 3 rfl kc_1 (fun _ => rfl) (by decide) dX9_shore_130 (fun x5 => ?_)
          refine oj_goto hc 93 dX9_shore_133 (by decide) ?_
          exact hrec_93 x5
        · refine oj_iconst hc 0 dX9_shore_128 kc_0 ?_
          exact hret _ _ _ _ rfl dX9_shore_129
def f_X9_shore_91 (a1 : Int32) (a2 : Int32) (σ : ojS) : Option (Int32 × ojS) :=
  f_X9_shore_93 a1 a2 0 σ
set_option maxRecDepth 100000 in
set_option maxHeartbeats 4000000 in
theorem wk_X9_shore_91 {l : Launch} {D : va_G} {E : ojE} {ad : Nat → Nat} {X : ojX} {Q : Int32 × ojS → State → Prop} (hc : ojC X (vM_ l D E ad) RX9 cX9_shore 4 3) (hret : ojRi X (vM_ l D E ad) Q cX9_shore .boolean) (a1 : Int32) (a2 : Int32) (σ : ojS) : ojJ X (vM_ l D E ad) Q (f_X9_shore_91 a1 a2 σ) σ 91 [(0, .ref (ad 0)), (1, .int a1), (2, .int a2)] [] := by
  unfold f_X9_shore_91
  refine oj_iconst hc 0 dX9_shore_91 kc_0 ?_
  refine oj_istore_n hc [(0, .ref (ad 0)), (1, .int a1), (2, .int a2), (3, .int 0)] rfl (by decide) dX9_shore_92 rfl ?_
  exact wk_X9_shore_93 hc hret a1 a2 0 σ
def f_X9_shore_65 (a1 : Int32) (a2 : Int32) (a3 : Int32) (σ : ojS) : Option (Int32 × ojS) :=
  ojFix (fun _ => none) 600 (fun (rec_65 : Int32 → Option (Int32 × ojS)) (v3_65 : Int32) =>
    if (σ 0 23) ≤ v3_65 then
      f_X9_shore_91 a1 a2 σ
    else
      ojChk v3_65 8 (
        if (σ 18 v3_65.toNatClampNeg) = a1 then
          some (0, σ)
        else
          ojLet (v3_65 + 1) (fun (x6 : Int32) =>
            rec_65 x6))) a3
set_option maxRecDepth 100000 in
set_option maxHeartbeats 4000000 in
theorem wk_X9_shore_65 {l : Launch} {D : va_G} {E : ojE} {ad : Nat → Nat} {X : ojX} {Q : Int32 × ojS → State → Prop} (hc : ojC X (vM_ l D E ad) RX9 cX9_shore 4 3) (hret : ojRi X (vM_ l D E ad) Q cX9_shore .boolean) (a1 : Int32) (a2 : Int32) (a3 : Int32) (σ : ojS) : ojJ X (vM_ l D E ad) Q (f_X9_shore_65 a1 a2 a3 σ) σ 65 [(0, .ref (ad 0)), (1, .int a1), (2, .int a2), (3, .int a3)] [] := by
  unfold f_X9_shore_65
  refine oj_fix (fun (r : Int32 → Option (Int32 × ojS)) => ∀ (v3_65 : Int32), ojJ X (vM_ l D E ad) Q (r v3_65) σ 65 [(0, .ref (ad 0)), (1, .int a1), (2, .int a2), (3, .int v3_65)] []) _ (fun _ => oj_none) (fun rec_65 hrec_65 v3_65 => ?_) 600 a3
  refine oj_iload_n hc dX9_shore_65 rfl 3 rfl ?_
  refine oj_aload_n hc dX9_shore_66 rfl 0 rfl ?_
  refine oj_getf hc ff_X9_107 mC_Model rfl dX9_shore_67 ?_
  refine oj_icmp_ge hc 91 dX9_shore_70 (by decide) (fun _ => ?_) ?_
  · refine oj_sub [0, 1, 2] rfl ?_
    exact wk_X9_shore_91 hc hret a1 a2 σ
  · refine oj_aload_n hc dX9_shore_73 rfl 0 rfl ?_
    refine oj_getf hc ff_X9_66 mC_Model rfl dX9_shore_74 ?_
    refine oj_iload_n hc dX9_shore_77 rfl 3 rfl ?_
    refine oj_iald hc 0 mC_m_shipCell rfl dX9_shore_78 ?_
    refine oj_iload_n hc dX9_shore_79 rfl 1 rfl ?_
    refine oj_icmp_ne hc 85 dX9_shore_80 (by decide) ?_ (fun _ => ?_)
    · refine oj_iinc hc 1 (fun u => [(0, .ref (ad 0)), (1, .int a1), (2, .int a2), (3, .int u)]) 3 rfl kc_1 (fun _ => rfl) (by decide) dX9_shore_85 (fun x6 => ?_)
      refine oj_goto hc 65 dX9_shore_88 (by decide) ?_
      exact hrec_65 x6
    · refine oj_iconst hc 0 dX9_shore_83 kc_0 ?_
      exact hret _ _ _ _ rfl dX9_shore_84
def f_X9_shore_63 (a1 : Int32) (a2 : Int32) (σ : ojS) : Option (Int32 × ojS) :=
  f_X9_shore_65 a1 a2 0 σ
set_option maxRecDepth 100000 in
set_option maxHeartbeats 4000000 in
theorem wk_X9_shore_63 {l : Launch} {D : va_G} {E : ojE} {ad : Nat → Nat} {X : ojX} {Q : Int32 × ojS → State → Prop} (hc : ojC X (vM_ l D E ad) RX9 cX9_shore 4 3) (hret : ojRi X (vM_ l D E ad) Q cX9_shore .boolean) (a1 : Int32) (a2 : Int32) (σ : ojS) : ojJ X (vM_ l D E ad) Q (f_X9_shore_63 a1 a2 σ) σ 63 [(0, .ref (ad 0)), (1, .int a1), (2, .int a2)] [] := by
  unfold f_X9_shore_63
  refine oj_iconst hc 0 dX9_shore_63 kc_0 ?_
  refine oj_istore_n hc [(0, .ref (ad 0)), (1, .int a1), (2, .int a2), (3, .int 0)] rfl (by decide) dX9_shore_64 rfl ?_
  exact wk_X9_shore_65 hc hret a1 a2 0 σ
def f_X9_shore_37 (a1 : Int32) (a2 : Int32) (a3 : Int32) (σ : ojS) : Option (Int32 × ojS) :=
  ojFix (fun _ => none) 600 (fun (rec_37 : Int32 → Option (Int32 × ojS)) (v3_37 : Int32) =>
    if (σ 0 14) ≤ v3_37 then
      f_X9_shore_63 a1 a2 σ
    else
      ojChk v3_37 4 (
        if (σ 9 v3_37.toNatClampNeg) = a1 then
          some (0, σ)
        else
          ojLet (v3_37 + 1) (fun (x7 : Int32) =>
            rec_37 x7))) a3
set_option maxRecDepth 100000 in
set_option maxHeartbeats 4000000 in
theorem wk_X9_shore_37 {l : Launch} {D : va_G} {E : ojE} {ad : Nat → Nat} {X : ojX} {Q : Int32 × ojS → State → Prop} (hc : ojC X (vM_ l D E ad) RX9 cX9_shore 4 3) (hret : ojRi X (vM_ l D E ad) Q cX9_shore .boolean) (a1 : Int32) (a2 : Int32) (a3 : Int32) (σ : ojS) : ojJ X (vM_ l D E ad) Q (f_X9_shore_37 a1 a2 a3 σ) σ 37 [(0, .ref (ad 0)), (1, .int a1), (2, .int a2), (3, .int a3)] [] := by
  unfold f_X9_shore_37
  refine oj_fix (fun (r : Int32 → Option (Int32 × ojS)) => ∀ (v3_37 : Int32), ojJ X (vM_ l D E ad) Q (r v3_37) σ 37 [(0, .ref (ad 0)), (1, .int a1), (2, .int a2), (3, .int v3_37)] []) _ (fun _ => oj_none) (fun rec_37 hrec_37 v3_37 => ?_) 600 a3
  refine oj_iload_n hc dX9_shore_37 rfl 3 rfl ?_
  refine oj_aload_n hc dX9_shore_38 rfl 0 rfl ?_
  refine oj_getf hc ff_X9_101 mC_Model rfl dX9_shore_39 ?_
  refine oj_icmp_ge hc 63 dX9_shore_42 (by decide) (fun _ => ?_) ?_
  · refine oj_sub [0, 1, 2] rfl ?_
    exact wk_X9_shore_63 hc hret a1 a2 σ
  · refine oj_aload_n hc dX9_shore_45 rfl 0 rfl ?_
    refine oj_getf hc ff_X9_39 mC_Model rfl dX9_shore_46 ?_
    refine oj_iload_n hc dX9_shore_49 rfl 3 rfl ?_
    refine oj_iald hc 0 mC_m_at rfl dX9_shore_50 ?_
    refine oj_iload_n hc dX9_shore_51 rfl 1 rfl ?_
    refine oj_icmp_ne hc 57 dX9_shore_52 (by decide) ?_ (fun _ => ?_)
    · refine oj_iinc hc 1 (fun u => [(0, .ref (ad 0)), (1, .int a1), (2, .int a2), (3, .int u)]) 3 rfl kc_1 (fun _ => rfl) (by decide) dX9_shore_57 (fun x7 => ?_)
      refine oj_goto hc 37 dX9_shore_60 (by decide) ?_
      exact hrec_37 x7
    · refine oj_iconst hc 0 dX9_shore_55 kc_0 ?_
      exact hret _ _ _ _ rfl dX9_shore_56
def f_X9_shore (a1 : Int32) (a2 : Int32) (σ : ojS) : Option (Int32 × ojS) :=
  ojB1 (f_X9_isCell a1) (fun (r1 : Int32) =>
    if r1 = 0 then
      some (0, σ)
    else
      ojB1 (f_X9_in a2 0 9) (fun (r2 : Int32) =>
        if r2 = 0 then
          some (0, σ)
        else
          if 0 < (σ 0 0) then
            some (0, σ)
          else
            ojChk a1 96 (
              if (σ 2 a1.toNatClampNeg) ≤ 0 then
                f_X9_shore_37 a1 a2 0 σ
              else
                some (0, σ))))
set_option maxRecDepth 100000 in
set_option maxHeartbeats 4000000 in
theorem wk_X9_shore {l : Launch} {D : va_G} {E : ojE} {ad : Nat → Nat} {X : ojX} {Q : Int32 × ojS → State → Prop} (hc : ojC X (vM_ l D E ad) RX9 cX9_shore 4 3) (hret : ojRi X (vM_ l D E ad) Q cX9_shore .boolean) (a1 : Int32) (a2 : Int32) (σ : ojS) : ojJ X (vM_ l D E ad) Q (f_X9_shore a1 a2 σ) σ 0 [(0, .ref (ad 0)), (1, .int a1), (2, .int a2)] [] := by
  unfold f_X9_shore
  refine oj_iload_n hc dX9_shore_0 rfl 1 rfl ?_
  refine oj_cS1 hc cs_X9_97 (by omega) [.int a1] [] rfl rfl (Nat.le_of_ble_eq_true rfl) dX9_shore_1 (c_X9_isCell a1 σ) (fun r1 => ?_)
  refine oj_if_eq hc 33 dX9_shore_4 (by decide) (fun _ => ?_) ?_
  · refine oj_iconst hc 0 dX9_shore_33 kc_0 ?_
    exact hret _ _ _ _ rfl dX9_shore_34
  · refine oj_iload_n hc dX9_shore_7 rfl 2 rfl ?_
    refine oj_iconst hc 0 dX9_shore_8 kc_0 ?_
    refine oj_bipush hc 9 dX9_shore_9 kb_9 ?_
    refine oj_cS1 hc cs_X9_93 (by omega) [.int a2, .int 0, .int 9] [] rfl rfl (Nat.le_of_ble_eq_true rfl) dX9_shore_11 (c_X9_in a2 0 9 σ) (fun r2 => ?_)
    refine oj_if_eq hc 33 dX9_shore_14 (by decide) (fun _ => ?_) ?_
    · refine oj_iconst hc 0 dX9_shore_33 kc_0 ?_
      exact hret _ _ _ _ rfl dX9_shore_34
    · refine oj_aload_n hc dX9_shore_17 rfl 0 rfl ?_
      refine oj_getf hc ff_X9_104 mC_Model rfl dX9_shore_18 ?_
      refine oj_if_gt hc 33 dX9_shore_21 (by decide) (fun _ => ?_) ?_
      · refine oj_iconst hc 0 dX9_shore_33 kc_0 ?_
        exact hret _ _ _ _ rfl dX9_shore_34
      · refine oj_aload_n hc dX9_shore_24 rfl 0 rfl ?_
        refine oj_getf hc ff_X9_13 mC_Model rfl dX9_shore_25 ?_
        refine oj_iload_n hc dX9_shore_28 rfl 1 rfl ?_
        refine oj_iald hc 0 mC_m_oil rfl dX9_shore_29 ?_
        refine oj_if_le hc 35 dX9_shore_30 (by decide) (fun _ => ?_) ?_
        · refine oj_iconst hc 0 dX9_shore_35 kc_0 ?_
          refine oj_istore_n hc [(0, .ref (ad 0)), (1, .int a1), (2, .int a2), (3, .int 0)] rfl (by decide) dX9_shore_36 rfl ?_
          exact wk_X9_shore_37 hc hret a1 a2 0 σ
        · refine oj_iconst hc 0 dX9_shore_33 kc_0 ?_
          exact hret _ _ _ _ rfl dX9_shore_34
set_option maxRecDepth 100000 in
theorem c_X9_shore {l : Launch} {D : va_G} {E : ojE} {ad : Nat → Nat} (a1 : Int32) (a2 : Int32) (σ : ojS) : ∀ (r : Int32) (σ1 : ojS), f_X9_shore a1 a2 σ = some (r, σ1) → ojMi (vM_ l D E ad) yX9_shore cX9_shore 4 (some .boolean) 3 [.ref (ad 0), .int a1, .int a2] σ r σ1 :=
  ojMi_W (by decide +kernel) rfl .boolean rfl (Nat.le_of_ble_eq_true rfl) rfl (fun X Q hc hret => wk_X9_shore hc hret a1 a2 σ)

def f_X9_weather (a1 : Int32) (a2 : Int32) (a3 : Int32) (a4 : Int32) (σ : ojS) : Option (Int32 × ojS) :=
  ojB1 (f_X9_in a1 0 2) (fun (r1 : Int32) =>
    if r1 = 0 then
      some (0, σ)
    else
      ojB1 (f_X9_in a2 (σ 0 0) 500) (fun (r2 : Int32) =>
        if r2 = 0 then
          some (0, σ)
        else
          ojB1 (f_X9_in a3 0 4) (fun (r3 : Int32) =>
            if r3 = 0 then
              some (0, σ)
            else
              ojB1 (f_X9_in a4 0 9) (fun (r4 : Int32) =>
                if r4 = 0 then
                  some (0, σ)
                else
                  ojChk ((501 * a1) + a2) 1503 (ojLet (ojU σ 3 ((501 * a1) + a2).toNatClampNeg a3) (fun (σ5 : ojS) =>
                    ojChk ((501 * a1) + a2) 1503 (ojLet (ojU σ5 4 ((501 * a1) + a2).toNatClampNeg a4) (fun (σ6 : ojS) =>
                      some (1, σ6)))))))))
set_option maxRecDepth 100000 in
set_option maxHeartbeats 4000000 in
theorem wk_X9_weather {l : Launch} {D : va_G} {E : ojE} {ad : Nat → Nat} {X : ojX} {Q : Int32 × ojS → State → Prop} (hc : ojC X (vM_ l D E ad) RX9 cX9_weather 5 2) (hret : ojRi X (vM_ l D E ad) Q cX9_weather .boolean) (a1 : Int32) (a2 : Int32) (a3 : Int32) (a4 : Int32) (σ : ojS) : ojJ X (vM_ l D E ad) Q (f_X9_weather a1 a2 a3 a4 σ) σ 0 [(0, .ref (ad 0)), (1, .int a1), (2, .int a2), (3, .int a3), (4, .int a4)] [] := by
  unfold f_X9_weather
  refine oj_iload_n hc dX9_weather_0 rfl 1 rfl ?_
  refine oj_iconst hc 0 dX9_weather_1 kc_0 ?_
  refine oj_iconst hc 2 dX9_weather_2 kc_2 ?_
  refine oj_cS1 hc cs_X9_93 (by omega) [.int a1, .int 0, .int 2] [] rfl rfl (Nat.le_of_ble_eq_true rfl) dX9_weather_3 (c_X9_in a1 0 2 σ) (fun r1 => ?_)
  refine oj_if_eq hc 43 dX9_weather_6 (by decide) (fun _ => ?_) ?_
  · refine oj_iconst hc 0 dX9_weather_43 kc_0 ?_
    exact hret _ _ _ _ rfl dX9_weather_44
  · refine oj_iload_n hc dX9_weather_9 rfl 2 rfl ?_
    refine oj_aload_n hc dX9_weather_10 rfl 0 rfl ?_
    refine oj_getf hc ff_X9_104 mC_Model rfl dX9_weather_11 ?_
    refine oj_sipush hc 500 dX9_weather_14 ks_500 ?_
    refine oj_cS1 hc cs_X9_93 (by omega) [.int a2, .int (σ 0 0), .int 500] [] rfl rfl (Nat.le_of_ble_eq_true rfl) dX9_weather_17 (c_X9_in a2 (σ 0 0) 500 σ) (fun r2 => ?_)
    refine oj_if_eq hc 43 dX9_weather_20 (by decide) (fun _ => ?_) ?_
    · refine oj_iconst hc 0 dX9_weather_43 kc_0 ?_
      exact hret _ _ _ _ rfl dX9_weather_44
    · refine oj_iload_n hc dX9_weather_23 rfl 3 rfl ?_
      refine oj_iconst hc 0 dX9_weather_24 kc_0 ?_
      refine oj_iconst hc 4 dX9_weather_25 kc_4 ?_
      refine oj_cS1 hc cs_X9_93 (by omega) [.int a3, .int 0, .int 4] [] rfl rfl (Nat.le_of_ble_eq_true rfl) dX9_weather_26 (c_X9_in a3 0 4 σ) (fun r3 => ?_)
      refine oj_if_eq hc 43 dX9_weather_29 (by decide) (fun _ => ?_) ?_
      · refine oj_iconst hc 0 dX9_weather_43 kc_0 ?_
        exact hret _ _ _ _ rfl dX9_weather_44
      · refine oj_iload hc dX9_weather_32 4 rfl ?_
        refine oj_iconst hc 0 dX9_weather_34 kc_0 ?_
        refine oj_bipush hc 9 dX9_weather_35 kb_9 ?_
        refine oj_cS1 hc cs_X9_93 (by omega) [.int a4, .int 0, .int 9] [] rfl rfl (Nat.le_of_ble_eq_true rfl) dX9_weather_37 (c_X9_in a4 0 9 σ) (fun r4 => ?_)
        refine oj_if_ne hc 45 dX9_weather_40 (by decide) ?_ (fun _ => ?_)
        · refine oj_aload_n hc dX9_weather_45 rfl 0 rfl ?_
          refine oj_getf hc ff_X9_16 mC_Model rfl dX9_weather_46 ?_
          refine oj_sipush hc 501 dX9_weather_49 ks_501 ?_
          refine oj_iload_n hc dX9_weather_52 rfl 1 rfl ?_
          refine oj_imul hc dX9_weather_53 ?_
          refine oj_iload_n hc dX9_weather_54 rfl 2 rfl ?_
          refine oj_iadd hc dX9_weather_55 ?_
          refine oj_iload_n hc dX9_weather_56 rfl 3 rfl ?_
          refine oj_iast hc 0 mC_m_way mC_m_way_s rfl rfl dX9_weather_57 (fun σ5 => ?_)
          refine oj_aload_n hc dX9_weather_58 rfl 0 rfl ?_
          refine oj_getf hc ff_X9_19 mC_Model rfl dX9_weather_59 ?_
          refine oj_sipush hc 501 dX9_weather_62 ks_501 ?_
          refine oj_iload_n hc dX9_weather_65 rfl 1 rfl ?_
          refine oj_imul hc dX9_weather_66 ?_
          refine oj_iload_n hc dX9_weather_67 rfl 2 rfl ?_
          refine oj_iadd hc dX9_weather_68 ?_
          refine oj_iload hc dX9_weather_69 4 rfl ?_
          refine oj_iast hc 0 mC_m_force mC_m_force_s rfl rfl dX9_weather_71 (fun σ6 => ?_)
          refine oj_iconst hc 1 dX9_weather_72 kc_1 ?_
          exact hret _ _ _ _ rfl dX9_weather_73
        · refine oj_iconst hc 0 dX9_weather_43 kc_0 ?_
          exact hret _ _ _ _ rfl dX9_weather_44
set_option maxRecDepth 100000 in
theorem c_X9_weather {l : Launch} {D : va_G} {E : ojE} {ad : Nat → Nat} (a1 : Int32) (a2 : Int32) (a3 : Int32) (a4 : Int32) (σ : ojS) : ∀ (r : Int32) (σ1 : ojS), f_X9_weather a1 a2 a3 a4 σ = some (r, σ1) → ojMi (vM_ l D E ad) yX9_weather cX9_weather 5 (some .boolean) 2 [.ref (ad 0), .int a1, .int a2, .int a3, .int a4] σ r σ1 :=
  ojMi_W (by decide +kernel) rfl .boolean rfl (Nat.le_of_ble_eq_true rfl) rfl (fun X Q hc hret => wk_X9_weather hc hret a1 a2 a3 a4 σ)

def f_X9_areSide (a0 : Int32) (a1 : Int32) : Option (Int32) :=
  ojLet ((a0 / 12) - (a1 / 12)) (fun (x1 : Int32) =>
    ojLet ((ojRem a0 12) - (ojRem a1 12)) (fun (x2 : Int32) =>
      if ((x1 * x1) + (x2 * x2)) = 1 then
        some 1
      else
        some 0))
set_option maxRecDepth 100000 in
set_option maxHeartbeats 4000000 in
theorem wk_X9_areSide {l : Launch} {D : va_G} {E : ojE} {ad : Nat → Nat} {X : ojX} {Q : Int32 → State → Prop} (hc : ojC X (vM_ l D E ad) RX9 cX9_areSide 4 1) (σ : ojS) (hret : ojRr X (vM_ l D E ad) Q cX9_areSide .boolean σ) (a0 : Int32) (a1 : Int32) : ojJ X (vM_ l D E ad) Q (f_X9_areSide a0 a1) σ 0 [(0, .int a0), (1, .int a1)] [] := by
  unfold f_X9_areSide
  refine oj_iload_n hc dX9_areSide_0 rfl 0 rfl ?_
  refine oj_bipush hc 12 dX9_areSide_1 kb_12 ?_
  refine oj_idiv hc dX9_areSide_3 (by decide) ?_
  refine oj_iload_n hc dX9_areSide_4 rfl 1 rfl ?_
  refine oj_bipush hc 12 dX9_areSide_5 kb_12 ?_
  refine oj_idiv hc dX9_areSide_7 (by decide) ?_
  refine oj_isub hc dX9_areSide_8 ?_
  refine oj_nm (fun x1 => ?_)
  refine oj_istore_n hc [(0, .int a0), (1, .int a1), (2, .int x1)] rfl (by decide) dX9_areSide_9 rfl ?_
  refine oj_iload_n hc dX9_areSide_10 rfl 0 rfl ?_
  refine oj_bipush hc 12 dX9_areSide_11 kb_12 ?_
  refine oj_irem hc dX9_areSide_13 (by decide) ?_
  refine oj_iload_n hc dX9_areSide_14 rfl 1 rfl ?_
  refine oj_bipush hc 12 dX9_areSide_15 kb_12 ?_
  refine oj_irem hc dX9_areSide_17 (by decide) ?_
  refine oj_isub hc dX9_areSide_18 ?_
  refine oj_nm (fun x2 => ?_)
  refine oj_istore_n hc [(0, .int a0), (1, .int a1), (2, .int x1), (3, .int x2)] rfl (by decide) dX9_areSide_19 rfl ?_
  refine oj_iload_n hc dX9_areSide_20 rfl 2 rfl ?_
  refine oj_iload_n hc dX9_areSide_21 rfl 2 rfl ?_
  refine oj_imul hc dX9_areSide_22 ?_
  refine oj_iload_n hc dX9_areSide_23 rfl 3 rfl ?_
  refine oj_iload_n hc dX9_areSide_24 rfl 3 rfl ?_
  refine oj_imul hc dX9_areSide_25 ?_
  refine oj_iadd hc dX9_areSide_26 ?_
  refine oj_iconst hc 1 dX9_areSide_27 kc_1 ?_
  refine oj_icmp_ne hc 35 dX9_areSide_28 (by decide) ?_ (fun _ => ?_)
  · refine oj_iconst hc 0 dX9_areSide_35 kc_0 ?_
    exact hret _ _ _ rfl dX9_areSide_36
  · refine oj_iconst hc 1 dX9_areSide_31 kc_1 ?_
    refine oj_goto hc 36 dX9_areSide_32 (by decide) ?_
    exact hret _ _ _ rfl dX9_areSide_36
set_option maxRecDepth 100000 in
theorem c_X9_areSide {l : Launch} {D : va_G} {E : ojE} {ad : Nat → Nat} (a0 : Int32) (a1 : Int32) (σ : ojS) : ∀ (r : Int32), f_X9_areSide a0 a1 = some r → ojMi (vM_ l D E ad) yX9_areSide cX9_areSide 4 (some .boolean) 1 [.int a0, .int a1] σ r σ :=
  ojMi_R (by decide +kernel) rfl .boolean rfl (Nat.le_of_ble_eq_true rfl) rfl (fun X Q hc hret => wk_X9_areSide hc σ hret a0 a1)

def f_X9_boomAt_37 (rec_2 : Int32 → Option (Int32)) (a1 : Int32) (a2 : Int32) (a3 : Int32) (σ : ojS) : Option (Int32) :=
  ojChk a3 20 (
    if (σ 6 a3.toNatClampNeg) = a2 then
      ojChk a3 20 (
        if (σ 7 a3.toNatClampNeg) = a1 then
          some a3
        else
          ojLet (a3 + 1) (fun (x3 : Int32) =>
            rec_2 x3))
    else
      ojLet (a3 + 1) (fun (x2 : Int32) =>
        rec_2 x2))
set_option maxRecDepth 100000 in
set_option maxHeartbeats 4000000 in
theorem wk_X9_boomAt_37 {l : Launch} {D : va_G} {E : ojE} {ad : Nat → Nat} {X : ojX} {Q : Int32 → State → Prop} (hc : ojC X (vM_ l D E ad) RX9 cX9_boomAt 4 1) (σ : ojS) (hret : ojRr X (vM_ l D E ad) Q cX9_boomAt .int σ) (rec_2 : Int32 → Option (Int32)) (a1 : Int32) (a2 : Int32) (a3 : Int32) (hrec_2 : ∀ (v3_2 : Int32), ojJ X (vM_ l D E ad) Q (rec_2 v3_2) σ 2 [(0, .ref (ad 0)), (1, .int a1), (2, .int a2), (3, .int v3_2)] []) : ojJ X (vM_ l D E ad) Q (f_X9_boomAt_37 rec_2 a1 a2 a3 σ) σ 37 [(0, .ref (ad 0)), (1, .int a1), (2, .int a2), (3, .int a3)] [] := by
  unfold f_X9_boomAt_37
  refine oj_aload_n hc dX9_boomAt_37 rfl 0 rfl ?_
  refine oj_getf hc ff_X9_26 mC_Model rfl dX9_boomAt_38 ?_
  refine oj_iload_n hc dX9_boomAt_41 rfl 3 rfl ?_
  refine oj_iald hc 0 mC_m_boomA rfl dX9_boomAt_42 ?_
  refine oj_iload_n hc dX9_boomAt_43 rfl 2 rfl ?_
  refine oj_icmp_ne hc 59 dX9_boomAt_44 (by decide) ?_ (fun _ => ?_)
  · refine oj_iinc hc 1 (fun u => [(0, .ref (ad 0)), (1, .int a1), (2, .int a2), (3, .int u)]) 3 rfl kc_1 (fun _ => rfl) (by decide) dX9_boomAt_59 (fun x2 => ?_)
    refine oj_goto hc 2 dX9_boomAt_62 (by decide) ?_
    exact hrec_2 x2
  · refine oj_aload_n hc dX9_boomAt_47 rfl 0 rfl ?_
    refine oj_getf hc ff_X9_29 mC_Model rfl dX9_boomAt_48 ?_
    refine oj_iload_n hc dX9_boomAt_51 rfl 3 rfl ?_
    refine oj_iald hc 0 mC_m_boomB rfl dX9_boomAt_52 ?_
    refine oj_iload_n hc dX9_boomAt_53 rfl 1 rfl ?_
    refine oj_icmp_ne hc 59 dX9_boomAt_54 (by decide) ?_ (fun _ => ?_)
    · refine oj_iinc hc 1 (fun u => [(0, .ref (ad 0)), (1, .int a1), (2, .int a2), (3, .int u)]) 3 rfl kc_1 (fun _ => rfl) (by decide) dX9_boomAt_59 (fun x3 => ?_)
      refine oj_goto hc 2 dX9_boomAt_62 (by decide) ?_
      exact hrec_2 x3
    · refine oj_iload_n hc dX9_boomAt_57 rfl 3 rfl ?_
      exact hret _ _ _ rfl dX9_boomAt_58
def f_X9_boomAt_2 (a1 : Int32) (a2 : Int32) (a3 : Int32) (σ : ojS) : Option (Int32) :=
  ojFix (fun _ => none) 600 (fun (rec_2 : Int32 → Option (Int32)) (v3_2 : Int32) =>
    if 20 ≤ v3_2 then
      some (-1)
    else
      ojChk v3_2 20 (
        if (σ 5 v3_2.toNatClampNeg) = 0 then
          ojLet (v3_2 + 1) (fun (x1 : Int32) =>
            rec_2 x1)
        else
          ojChk v3_2 20 (
            if (σ 6 v3_2.toNatClampNeg) = a1 then
              ojChk v3_2 20 (
                if (σ 7 v3_2.toNatClampNeg) = a2 then
                  some v3_2
                else
                  f_X9_boomAt_37 rec_2 a1 a2 v3_2 σ)
            else
              f_X9_boomAt_37 rec_2 a1 a2 v3_2 σ))) a3
set_option maxRecDepth 100000 in
set_option maxHeartbeats 4000000 in
theorem wk_X9_boomAt_2 {l : Launch} {D : va_G} {E : ojE} {ad : Nat → Nat} {X : ojX} {Q : Int32 → State → Prop} (hc : ojC X (vM_ l D E ad) RX9 cX9_boomAt 4 1) (σ : ojS) (hret : ojRr X (vM_ l D E ad) Q cX9_boomAt .int σ) (a1 : Int32) (a2 : Int32) (a3 : Int32) : ojJ X (vM_ l D E ad) Q (f_X9_boomAt_2 a1 a2 a3 σ) σ 2 [(0, .ref (ad 0)), (1, .int a1), (2, .int a2), (3, .int a3)] [] := by
  unfold f_X9_boomAt_2
  refine oj_fix (fun (r : Int32 → Option (Int32)) => ∀ (v3_2 : Int32), ojJ X (vM_ l D E ad) Q (r v3_2) σ 2 [(0, .ref (ad 0)), (1, .int a1), (2, .int a2), (3, .int v3_2)] []) _ (fun _ => oj_none) (fun rec_2 hrec_2 v3_2 => ?_) 600 a3
  refine oj_iload_n hc dX9_boomAt_2 rfl 3 rfl ?_
  refine oj_bipush hc 20 dX9_boomAt_3 kb_20 ?_
  refine oj_icmp_ge hc 65 dX9_boomAt_5 (by decide) (fun _ => ?_) ?_
  · refine oj_iconst hc (-1) dX9_boomAt_65 kc_m1 ?_
    exact hret _ _ _ rfl dX9_boomAt_66
  · refine oj_aload_n hc dX9_boomAt_8 rfl 0 rfl ?_
    refine oj_getf hc ff_X9_22 mC_Model rfl dX9_boomAt_9 ?_
    refine oj_iload_n hc dX9_boomAt_12 rfl 3 rfl ?_
    refine oj_zald hc 1 mC_m_isBoom rfl dX9_boomAt_13 ?_
    refine oj_if_eq hc 59 dX9_boomAt_14 (by decide) (fun _ => ?_) ?_
    · refine oj_iinc hc 1 (fun u => [(0, .ref (ad 0)), (1, .int a1), (2, .int a2), (3, .int u)]) 3 rfl kc_1 (fun _ => rfl) (by decide) dX9_boomAt_59 (fun x1 => ?_)
      refine oj_goto hc 2 dX9_boomAt_62 (by decide) ?_
      exact hrec_2 x1
    · refine oj_aload_n hc dX9_boomAt_17 rfl 0 rfl ?_
      refine oj_getf hc ff_X9_26 mC_Model rfl dX9_boomAt_18 ?_
      refine oj_iload_n hc dX9_boomAt_21 rfl 3 rfl ?_
      refine oj_iald hc 0 mC_m_boomA rfl dX9_boomAt_22 ?_
      refine oj_iload_n hc dX9_boomAt_23 rfl 1 rfl ?_
      refine oj_icmp_ne hc 37 dX9_boomAt_24 (by decide) ?_ (fun _ => ?_)
      · exact wk_X9_boomAt_37 hc _ hret rec_2 a1 a2 v3_2 hrec_2
      · refine oj_aload_n hc dX9_boomAt_27 rfl 0 rfl ?_
        refine oj_getf hc ff_X9_29 mC_Model rfl dX9_boomAt_28 ?_
        refine oj_iload_n hc dX9_boomAt_31 rfl 3 rfl ?_
        refine oj_iald hc 0 mC_m_boomB rfl dX9_boomAt_32 ?_
        refine oj_iload_n hc dX9_boomAt_33 rfl 2 rfl ?_
        refine oj_icmp_eq hc 57 dX9_boomAt_34 (by decide) (fun _ => ?_) ?_
        · refine oj_iload_n hc dX9_boomAt_57 rfl 3 rfl ?_
          exact hret _ _ _ rfl dX9_boomAt_58
        · exact wk_X9_boomAt_37 hc _ hret rec_2 a1 a2 v3_2 hrec_2
def f_X9_boomAt (a1 : Int32) (a2 : Int32) (σ : ojS) : Option (Int32) :=
  f_X9_boomAt_2 a1 a2 0 σ
set_option maxRecDepth 100000 in
set_option maxHeartbeats 4000000 in
theorem wk_X9_boomAt {l : Launch} {D : va_G} {E : ojE} {ad : Nat → Nat} {X : ojX} {Q : Int32 → State → Prop} (hc : ojC X (vM_ l D E ad) RX9 cX9_boomAt 4 1) (σ : ojS) (hret : ojRr X (vM_ l D E ad) Q cX9_boomAt .int σ) (a1 : Int32) (a2 : Int32) : ojJ X (vM_ l D E ad) Q (f_X9_boomAt a1 a2 σ) σ 0 [(0, .ref (ad 0)), (1, .int a1), (2, .int a2)] [] := by
  unfold f_X9_boomAt
  refine oj_iconst hc 0 dX9_boomAt_0 kc_0 ?_
  refine oj_istore_n hc [(0, .ref (ad 0)), (1, .int a1), (2, .int a2), (3, .int 0)] rfl (by decide) dX9_boomAt_1 rfl ?_
  exact wk_X9_boomAt_2 hc _ hret a1 a2 0
set_option maxRecDepth 100000 in
theorem c_X9_boomAt {l : Launch} {D : va_G} {E : ojE} {ad : Nat → Nat} (a1 : Int32) (a2 : Int32) (σ : ojS) : ∀ (r : Int32), f_X9_boomAt a1 a2 σ = some r → ojMi (vM_ l D E ad) yX9_boomAt cX9_boomAt 4 (some .int) 1 [.ref (ad 0), .int a1, .int a2] σ r σ :=
  ojMi_R (by decide +kernel) rfl .int rfl (Nat.le_of_ble_eq_true rfl) rfl (fun X Q hc hret => wk_X9_boomAt hc σ hret a1 a2)

def f_X9_boom_49 (a1 : Int32) (a2 : Int32) (a3 : Int32) (a4 : Int32) (σ : ojS) : Option (Int32 × ojS) :=
  ojFix (fun _ => none) 600 (fun (rec_49 : Int32 → Option (Int32 × ojS)) (v4_49 : Int32) =>
    if 20 ≤ v4_49 then
      some ((-1), σ)
    else
      ojChk v4_49 20 (
        if (σ 5 v4_49.toNatClampNeg) = 0 then
          ojChk v4_49 20 (ojLet (ojU σ 5 v4_49.toNatClampNeg (vp_nar .boolean 1)) (fun (σ6 : ojS) =>
            ojChk v4_49 20 (ojLet (ojU σ6 6 v4_49.toNatClampNeg a1) (fun (σ7 : ojS) =>
              ojChk v4_49 20 (ojLet (ojU σ7 7 v4_49.toNatClampNeg a2) (fun (σ8 : ojS) =>
                ojChk v4_49 20 (ojLet (ojU σ8 8 v4_49.toNatClampNeg a3) (fun (σ9 : ojS) =>
                  some (v4_49, σ9)))))))))
        else
          ojLet (v4_49 + 1) (fun (x10 : Int32) =>
            rec_49 x10))) a4
set_option maxRecDepth 100000 in
set_option maxHeartbeats 4000000 in
theorem wk_X9_boom_49 {l : Launch} {D : va_G} {E : ojE} {ad : Nat → Nat} {X : ojX} {Q : Int32 × ojS → State → Prop} (hc : ojC X (vM_ l D E ad) RX9 cX9_boom 5 4) (hret : ojRi X (vM_ l D E ad) Q cX9_boom .int) (a1 : Int32) (a2 : Int32) (a3 : Int32) (a4 : Int32) (σ : ojS) : ojJ X (vM_ l D E ad) Q (f_X9_boom_49 a1 a2 a3 a4 σ) σ 49 [(0, .ref (ad 0)), (1, .int a1), (2, .int a2), (3, .int a3), (4, .int a4)] [] := by
  unfold f_X9_boom_49
  refine oj_fix (fun (r : Int32 → Option (Int32 × ojS)) => ∀ (v4_49 : Int32), ojJ X (vM_ l D E ad) Q (r v4_49) σ 49 [(0, .ref (ad 0)), (1, .int a1), (2, .int a2), (3, .int a3), (4, .int v4_49)] []) _ (fun _ => oj_none) (fun rec_49 hrec_49 v4_49 => ?_) 600 a4
  refine oj_iload hc dX9_boom_49 4 rfl ?_
  refine oj_bipush hc 20 dX9_boom_51 kb_20 ?_
  refine oj_icmp_ge hc 110 dX9_boom_53 (by decide) (fun _ => ?_) ?_
  · refine oj_iconst hc (-1) dX9_boom_110 kc_m1 ?_
    exact hret _ _ _ _ rfl dX9_boom_111
  · refine oj_aload_n hc dX9_boom_56 rfl 0 rfl ?_
    refine oj_getf hc ff_X9_22 mC_Model rfl dX9_boom_57 ?_
    refine oj_iload hc dX9_boom_60 4 rfl ?_
    refine oj_zald hc 1 mC_m_isBoom rfl dX9_boom_62 ?_
    refine oj_if_eq hc 69 dX9_boom_63 (by decide) (fun _ => ?_) ?_
    · refine oj_aload_n hc dX9_boom_69 rfl 0 rfl ?_
      refine oj_getf hc ff_X9_22 mC_Model rfl dX9_boom_70 ?_
      refine oj_iload hc dX9_boom_73 4 rfl ?_
      refine oj_iconst hc 1 dX9_boom_75 kc_1 ?_
      refine oj_zast hc 1 mC_m_isBoom mC_m_isBoom_s rfl rfl dX9_boom_76 (fun σ6 => ?_)
      refine oj_aload_n hc dX9_boom_77 rfl 0 rfl ?_
      refine oj_getf hc ff_X9_26 mC_Model rfl dX9_boom_78 ?_
      refine oj_iload hc dX9_boom_81 4 rfl ?_
      refine oj_iload_n hc dX9_boom_83 rfl 1 rfl ?_
      refine oj_iast hc 0 mC_m_boomA mC_m_boomA_s rfl rfl dX9_boom_84 (fun σ7 => ?_)
      refine oj_aload_n hc dX9_boom_85 rfl 0 rfl ?_
      refine oj_getf hc ff_X9_29 mC_Model rfl dX9_boom_86 ?_
      refine oj_iload hc dX9_boom_89 4 rfl ?_
      refine oj_iload_n hc dX9_boom_91 rfl 2 rfl ?_
      refine oj_iast hc 0 mC_m_boomB mC_m_boomB_s rfl rfl dX9_boom_92 (fun σ8 => ?_)
      refine oj_aload_n hc dX9_boom_93 rfl 0 rfl ?_
      refine oj_getf hc ff_X9_32 mC_Model rfl dX9_boom_94 ?_
      refine oj_iload hc dX9_boom_97 4 rfl ?_
      refine oj_iload_n hc dX9_boom_99 rfl 3 rfl ?_
      refine oj_iast hc 0 mC_m_boomLimit mC_m_boomLimit_s rfl rfl dX9_boom_100 (fun σ9 => ?_)
      refine oj_iload hc dX9_boom_101 4 rfl ?_
      exact hret _ _ _ _ rfl dX9_boom_103
    · refine oj_goto hc 104 dX9_boom_66 (by decide) ?_
      refine oj_iinc hc 1 (fun u => [(0, .ref (ad 0)), (1, .int a1), (2, .int a2), (3, .int a3), (4, .int u)]) 4 rfl kc_1 (fun _ => rfl) (by decide) dX9_boom_104 (fun x10 => ?_)
      refine oj_goto hc 49 dX9_boom_107 (by decide) ?_
      exact hrec_49 x10
def f_X9_boom (a1 : Int32) (a2 : Int32) (a3 : Int32) (σ : ojS) : Option (Int32 × ojS) :=
  ojB1 (f_X9_isSea a1 σ) (fun (r1 : Int32) =>
    if r1 = 0 then
      some ((-1), σ)
    else
      ojB1 (f_X9_isSea a2 σ) (fun (r2 : Int32) =>
        if r2 = 0 then
          some ((-1), σ)
        else
          ojB1 (f_X9_areSide a1 a2) (fun (r3 : Int32) =>
            if r3 = 0 then
              some ((-1), σ)
            else
              ojB1 (f_X9_boomAt a1 a2 σ) (fun (r4 : Int32) =>
                if r4 = (-1) then
                  ojB1 (f_X9_in a3 0 9) (fun (r5 : Int32) =>
                    if r5 = 0 then
                      some ((-1), σ)
                    else
                      f_X9_boom_49 a1 a2 a3 0 σ)
                else
                  some ((-1), σ)))))
set_option maxRecDepth 100000 in
set_option maxHeartbeats 4000000 in
theorem wk_X9_boom {l : Launch} {D : va_G} {E : ojE} {ad : Nat → Nat} {X : ojX} {Q : Int32 × ojS → State → Prop} (hc : ojC X (vM_ l D E ad) RX9 cX9_boom 5 4) (hret : ojRi X (vM_ l D E ad) Q cX9_boom .int) (a1 : Int32) (a2 : Int32) (a3 : Int32) (σ : ojS) : ojJ X (vM_ l D E ad) Q (f_X9_boom a1 a2 a3 σ) σ 0 [(0, .ref (ad 0)), (1, .int a1), (2, .int a2), (3, .int a3)] [] := by
  unfold f_X9_boom
  refine oj_aload_n hc dX9_boom_0 rfl 0 rfl ?_
  refine oj_iload_n hc dX9_boom_1 rfl 1 rfl ?_
  refine oj_cV1 hc cv_X9_110 (by omega) mC_Model [.int a1] [] rfl rfl (Nat.le_of_ble_eq_true rfl) dX9_boom_2 (c_X9_isSea a1 σ) (fun r1 => ?_)
  refine oj_if_eq hc 44 dX9_boom_5 (by decide) (fun _ => ?_) ?_
  · refine oj_iconst hc (-1) dX9_boom_44 kc_m1 ?_
    exact hret _ _ _ _ rfl dX9_boom_45
  · refine oj_aload_n hc dX9_boom_8 rfl 0 rfl ?_
    refine oj_iload_n hc dX9_boom_9 rfl 2 rfl ?_
    refine oj_cV1 hc cv_X9_110 (by omega) mC_Model [.int a2] [] rfl rfl (Nat.le_of_ble_eq_true rfl) dX9_boom_10 (c_X9_isSea a2 σ) (fun r2 => ?_)
    refine oj_if_eq hc 44 dX9_boom_13 (by decide) (fun _ => ?_) ?_
    · refine oj_iconst hc (-1) dX9_boom_44 kc_m1 ?_
      exact hret _ _ _ _ rfl dX9_boom_45
    · refine oj_iload_n hc dX9_boom_16 rfl 1 rfl ?_
      refine oj_iload_n hc dX9_boom_17 rfl 2 rfl ?_
      refine oj_cS1 hc cs_X9_113 (by omega) [.int a1, .int a2] [] rfl rfl (Nat.le_of_ble_eq_true rfl) dX9_boom_18 (c_X9_areSide a1 a2 σ) (fun r3 => ?_)
      refine oj_if_eq hc 44 dX9_boom_21 (by decide) (fun _ => ?_) ?_
      · refine oj_iconst hc (-1) dX9_boom_44 kc_m1 ?_
        exact hret _ _ _ _ rfl dX9_boom_45
      · refine oj_aload_n hc dX9_boom_24 rfl 0 rfl ?_
        refine oj_iload_n hc dX9_boom_25 rfl 1 rfl ?_
        refine oj_iload_n hc dX9_boom_26 rfl 2 rfl ?_
        refine oj_cV1 hc cv_X9_117 (by omega) mC_Model [.int a1, .int a2] [] rfl rfl (Nat.le_of_ble_eq_true rfl) dX9_boom_27 (c_X9_boomAt a1 a2 σ) (fun r4 => ?_)
        refine oj_iconst hc (-1) dX9_boom_30 kc_m1 ?_
        refine oj_icmp_ne hc 44 dX9_boom_31 (by decide) ?_ (fun _ => ?_)
        · refine oj_iconst hc (-1) dX9_boom_44 kc_m1 ?_
          exact hret _ _ _ _ rfl dX9_boom_45
        · refine oj_iload_n hc dX9_boom_34 rfl 3 rfl ?_
          refine oj_iconst hc 0 dX9_boom_35 kc_0 ?_
          refine oj_bipush hc 9 dX9_boom_36 kb_9 ?_
          refine oj_cS1 hc cs_X9_93 (by omega) [.int a3, .int 0, .int 9] [] rfl rfl (Nat.le_of_ble_eq_true rfl) dX9_boom_38 (c_X9_in a3 0 9 σ) (fun r5 => ?_)
          refine oj_if_ne hc 46 dX9_boom_41 (by decide) ?_ (fun _ => ?_)
          · refine oj_iconst hc 0 dX9_boom_46 kc_0 ?_
            refine oj_istore hc [(0, .ref (ad 0)), (1, .int a1), (2, .int a2), (3, .int a3), (4, .int 0)] rfl (by decide) dX9_boom_47 ?_
            exact wk_X9_boom_49 hc hret a1 a2 a3 0 σ
          · refine oj_iconst hc (-1) dX9_boom_44 kc_m1 ?_
            exact hret _ _ _ _ rfl dX9_boom_45
set_option maxRecDepth 100000 in
theorem c_X9_boom {l : Launch} {D : va_G} {E : ojE} {ad : Nat → Nat} (a1 : Int32) (a2 : Int32) (a3 : Int32) (σ : ojS) : ∀ (r : Int32) (σ1 : ojS), f_X9_boom a1 a2 a3 σ = some (r, σ1) → ojMi (vM_ l D E ad) yX9_boom cX9_boom 5 (some .int) 4 [.ref (ad 0), .int a1, .int a2, .int a3] σ r σ1 :=
  ojMi_W (by decide +kernel) rfl .int rfl (Nat.le_of_ble_eq_true rfl) rfl (fun X Q hc hret => wk_X9_boom hc hret a1 a2 a3 σ)

def f_X9_lift (a1 : Int32) (σ : ojS) : Option (Int32 × ojS) :=
  ojB1 (f_X9_in a1 0 19) (fun (r1 : Int32) =>
    if r1 = 0 then
      some (0, σ)
    else
      ojChk a1 20 (
        if (σ 5 a1.toNatClampNeg) = 0 then
          some (0, σ)
        else
          ojChk a1 20 (ojLet (ojU σ 5 a1.toNatClampNeg (vp_nar .boolean 0)) (fun (σ2 : ojS) =>
            some (1, σ2)))))
set_option maxRecDepth 100000 in
set_option maxHeartbeats 4000000 in
theorem wk_X9_lift {l : Launch} {D : va_G} {E : ojE} {ad : Nat → Nat} {X : ojX} {Q : Int32 × ojS → State → Prop} (hc : ojC X (vM_ l D E ad) RX9 cX9_lift 2 2) (hret : ojRi X (vM_ l D E ad) Q cX9_lift .boolean) (a1 : Int32) (σ : ojS) : ojJ X (vM_ l D E ad) Q (f_X9_lift a1 σ) σ 0 [(0, .ref (ad 0)), (1, .int a1)] [] := by
  unfold f_X9_lift
  refine oj_iload_n hc dX9_lift_0 rfl 1 rfl ?_
  refine oj_iconst hc 0 dX9_lift_1 kc_0 ?_
  refine oj_bipush hc 19 dX9_lift_2 kb_19 ?_
  refine oj_cS1 hc cs_X9_93 (by omega) [.int a1, .int 0, .int 19] [] rfl rfl (Nat.le_of_ble_eq_true rfl) dX9_lift_4 (c_X9_in a1 0 19 σ) (fun r1 => ?_)
  refine oj_if_eq hc 19 dX9_lift_7 (by decide) (fun _ => ?_) ?_
  · refine oj_iconst hc 0 dX9_lift_19 kc_0 ?_
    exact hret _ _ _ _ rfl dX9_lift_20
  · refine oj_aload_n hc dX9_lift_10 rfl 0 rfl ?_
    refine oj_getf hc ff_X9_22 mC_Model rfl dX9_lift_11 ?_
    refine oj_iload_n hc dX9_lift_14 rfl 1 rfl ?_
    refine oj_zald hc 1 mC_m_isBoom rfl dX9_lift_15 ?_
    refine oj_if_ne hc 21 dX9_lift_16 (by decide) ?_ (fun _ => ?_)
    · refine oj_aload_n hc dX9_lift_21 rfl 0 rfl ?_
      refine oj_getf hc ff_X9_22 mC_Model rfl dX9_lift_22 ?_
      refine oj_iload_n hc dX9_lift_25 rfl 1 rfl ?_
      refine oj_iconst hc 0 dX9_lift_26 kc_0 ?_
      refine oj_zast hc 1 mC_m_isBoom mC_m_isBoom_s rfl rfl dX9_lift_27 (fun σ2 => ?_)
      refine oj_iconst hc 1 dX9_lift_28 kc_1 ?_
      exact hret _ _ _ _ rfl dX9_lift_29
    · refine oj_iconst hc 0 dX9_lift_19 kc_0 ?_
      exact hret _ _ _ _ rfl dX9_lift_20
set_option maxRecDepth 100000 in
theorem c_X9_lift {l : Launch} {D : va_G} {E : ojE} {ad : Nat → Nat} (a1 : Int32) (σ : ojS) : ∀ (r : Int32) (σ1 : ojS), f_X9_lift a1 σ = some (r, σ1) → ojMi (vM_ l D E ad) yX9_lift cX9_lift 2 (some .boolean) 2 [.ref (ad 0), .int a1] σ r σ1 :=
  ojMi_W (by decide +kernel) rfl .boolean rfl (Nat.le_of_ble_eq_true rfl) rfl (fun X Q hc hret => wk_X9_lift hc hret a1 σ)

def f_X9_spill_47 (a1 : Int32) (a2 : Int32) (σ : ojS) : Option (Int32 × ojS) :=
  ojLet (ojU σ 0 9 ((σ 0 9) + a2)) (fun (σ3 : ojS) =>
    ojChk a1 96 (
      ojChk a1 96 (ojLet (ojU σ3 2 a1.toNatClampNeg ((σ3 2 a1.toNatClampNeg) + a2)) (fun (σ4 : ojS) =>
        ojChk a1 96 (
          some (σ4 2 a1.toNatClampNeg, σ4))))))
set_option maxRecDepth 100000 in
set_option maxHeartbeats 4000000 in
theorem wk_X9_spill_47 {l : Launch} {D : va_G} {E : ojE} {ad : Nat → Nat} {X : ojX} {Q : Int32 × ojS → State → Prop} (hc : ojC X (vM_ l D E ad) RX9 cX9_spill 3 4) (hret : ojRi X (vM_ l D E ad) Q cX9_spill .int) (a1 : Int32) (a2 : Int32) (σ : ojS) : ojJ X (vM_ l D E ad) Q (f_X9_spill_47 a1 a2 σ) σ 47 [(0, .ref (ad 0)), (1, .int a1), (2, .int a2)] [] := by
  unfold f_X9_spill_47
  refine oj_aload_n hc dX9_spill_47 rfl 0 rfl ?_
  refine oj_dup hc dX9_spill_48 rfl ?_
  refine oj_getf hc ff_X9_122 mC_Model rfl dX9_spill_49 ?_
  refine oj_iload_n hc dX9_spill_52 rfl 2 rfl ?_
  refine oj_iadd hc dX9_spill_53 ?_
  refine oj_putf hc fp_X9_122 mC_Model mC_Model_s9 rfl rfl (Nat.le_of_ble_eq_true rfl) dX9_spill_54 (fun σ3 => ?_)
  refine oj_aload_n hc dX9_spill_57 rfl 0 rfl ?_
  refine oj_getf hc ff_X9_13 mC_Model rfl dX9_spill_58 ?_
  refine oj_iload_n hc dX9_spill_61 rfl 1 rfl ?_
  refine oj_dup2 hc dX9_spill_62 rfl rfl ?_
  refine oj_iald hc 0 mC_m_oil rfl dX9_spill_63 ?_
  refine oj_iload_n hc dX9_spill_64 rfl 2 rfl ?_
  refine oj_iadd hc dX9_spill_65 ?_
  refine oj_iast hc 0 mC_m_oil mC_m_oil_s rfl rfl dX9_spill_66 (fun σ4 => ?_)
  refine oj_aload_n hc dX9_spill_67 rfl 0 rfl ?_
  refine oj_getf hc ff_X9_13 mC_Model rfl dX9_spill_68 ?_
  refine oj_iload_n hc dX9_spill_71 rfl 1 rfl ?_
  refine oj_iald hc 0 mC_m_oil rfl dX9_spill_72 ?_
  exact hret _ _ _ _ rfl dX9_spill_73
def f_X9_spill (a1 : Int32) (a2 : Int32) (σ : ojS) : Option (Int32 × ojS) :=
  ojB1 (f_X9_isSea a1 σ) (fun (r1 : Int32) =>
    if r1 = 0 then
      some ((-1), σ)
    else
      ojB1 (f_X9_in a2 1 100000) (fun (r2 : Int32) =>
        if r2 = 0 then
          some ((-1), σ)
        else
          if ((σ 0 9) + a2) ≤ 1000000 then
            if (σ 0 10) = (-1) then
              ojLet (ojU σ 0 10 (σ 0 0)) (fun (σ5 : ojS) =>
                f_X9_spill_47 a1 a2 σ5)
            else
              f_X9_spill_47 a1 a2 σ
          else
            some ((-1), σ)))
set_option maxRecDepth 100000 in
set_option maxHeartbeats 4000000 in
theorem wk_X9_spill {l : Launch} {D : va_G} {E : ojE} {ad : Nat → Nat} {X : ojX} {Q : Int32 × ojS → State → Prop} (hc : ojC X (vM_ l D E ad) RX9 cX9_spill 3 4) (hret : ojRi X (vM_ l D E ad) Q cX9_spill .int) (a1 : Int32) (a2 : Int32) (σ : ojS) : ojJ X (vM_ l D E ad) Q (f_X9_spill a1 a2 σ) σ 0 [(0, .ref (ad 0)), (1, .int a1), (2, .int a2)] [] := by
  unfold f_X9_spill
  refine oj_aload_n hc dX9_spill_0 rfl 0 rfl ?_
  refine oj_iload_n hc dX9_spill_1 rfl 1 rfl ?_
  refine oj_cV1 hc cv_X9_110 (by omega) mC_Model [.int a1] [] rfl rfl (Nat.le_of_ble_eq_true rfl) dX9_spill_2 (c_X9_isSea a1 σ) (fun r1 => ?_)
  refine oj_if_eq hc 29 dX9_spill_5 (by decide) (fun _ => ?_) ?_
  · refine oj_iconst hc (-1) dX9_spill_29 kc_m1 ?_
    exact hret _ _ _ _ rfl dX9_spill_30
  · refine oj_iload_n hc dX9_spill_8 rfl 2 rfl ?_
    refine oj_iconst hc 1 dX9_spill_9 kc_1 ?_
    refine oj_ldc hc kd_X9_121 dX9_spill_10 ?_
    refine oj_cS1 hc cs_X9_93 (by omega) [.int a2, .int 1, .int 100000] [] rfl rfl (Nat.le_of_ble_eq_true rfl) dX9_spill_12 (c_X9_in a2 1 100000 σ) (fun r2 => ?_)
    refine oj_if_eq hc 29 dX9_spill_15 (by decide) (fun _ => ?_) ?_
    · refine oj_iconst hc (-1) dX9_spill_29 kc_m1 ?_
      exact hret _ _ _ _ rfl dX9_spill_30
    · refine oj_aload_n hc dX9_spill_18 rfl 0 rfl ?_
      refine oj_getf hc ff_X9_122 mC_Model rfl dX9_spill_19 ?_
      refine oj_iload_n hc dX9_spill_22 rfl 2 rfl ?_
      refine oj_iadd hc dX9_spill_23 ?_
      refine oj_ldc hc kd_X9_125 dX9_spill_24 ?_
      refine oj_icmp_le hc 31 dX9_spill_26 (by decide) (fun _ => ?_) ?_
      · refine oj_aload_n hc dX9_spill_31 rfl 0 rfl ?_
        refine oj_getf hc ff_X9_35 mC_Model rfl dX9_spill_32 ?_
        refine oj_iconst hc (-1) dX9_spill_35 kc_m1 ?_
        refine oj_icmp_ne hc 47 dX9_spill_36 (by decide) ?_ (fun _ => ?_)
        · exact wk_X9_spill_47 hc hret a1 a2 σ
        · refine oj_aload_n hc dX9_spill_39 rfl 0 rfl ?_
          refine oj_aload_n hc dX9_spill_40 rfl 0 rfl ?_
          refine oj_getf hc ff_X9_104 mC_Model rfl dX9_spill_41 ?_
          refine oj_putf hc fp_X9_35 mC_Model mC_Model_s10 rfl rfl (Nat.le_of_ble_eq_true rfl) dX9_spill_44 (fun σ5 => ?_)
          exact wk_X9_spill_47 hc hret a1 a2 σ5
      · refine oj_iconst hc (-1) dX9_spill_29 kc_m1 ?_
        exact hret _ _ _ _ rfl dX9_spill_30
set_option maxRecDepth 100000 in
theorem c_X9_spill {l : Launch} {D : va_G} {E : ojE} {ad : Nat → Nat} (a1 : Int32) (a2 : Int32) (σ : ojS) : ∀ (r : Int32) (σ1 : ojS), f_X9_spill a1 a2 σ = some (r, σ1) → ojMi (vM_ l D E ad) yX9_spill cX9_spill 3 (some .int) 4 [.ref (ad 0), .int a1, .int a2] σ r σ1 :=
  ojMi_W (by decide +kernel) rfl .int rfl (Nat.le_of_ble_eq_true rfl) rfl (fun X Q hc hret => wk_X9_spill hc hret a1 a2 σ)

def f_X9_skimmer (a1 : Int32) (a2 : Int32) (a3 : Int32) (a4 : Int32) (σ : ojS) : Option (Int32 × ojS) :=
  ojB1 (f_X9_isSea a1 σ) (fun (r1 : Int32) =>
    if r1 = 0 then
      some ((-1), σ)
    else
      ojB1 (f_X9_in a2 1 5000) (fun (r2 : Int32) =>
        if r2 = 0 then
          some ((-1), σ)
        else
          ojB1 (f_X9_in a3 0 100000) (fun (r3 : Int32) =>
            if r3 = 0 then
              some ((-1), σ)
            else
              ojB1 (f_X9_in a4 1 3) (fun (r4 : Int32) =>
                if r4 = 0 then
                  some ((-1), σ)
                else
                  if (σ 0 14) = 4 then
                    some ((-1), σ)
                  else
                    ojChk (σ 0 14) 4 (ojLet (ojU σ 9 (σ 0 14).toNatClampNeg a1) (fun (σ5 : ojS) =>
                      ojChk (σ5 0 14) 4 (ojLet (ojU σ5 10 (σ5 0 14).toNatClampNeg a2) (fun (σ6 : ojS) =>
                        ojChk (σ6 0 14) 4 (ojLet (ojU σ6 11 (σ6 0 14).toNatClampNeg a3) (fun (σ7 : ojS) =>
                          ojChk (σ7 0 14) 4 (ojLet (ojU σ7 12 (σ7 0 14).toNatClampNeg a4) (fun (σ8 : ojS) =>
                            ojChk (σ8 0 14) 4 (ojLet (ojU σ8 15 (σ8 0 14).toNatClampNeg (σ8 0 0)) (fun (σ9 : ojS) =>
                              ojLet (ojU σ9 0 14 ((σ9 0 14) + 1)) (fun (σ10 : ojS) =>
                                some ((σ10 0 14) - 1, σ10))))))))))))))))
set_option maxRecDepth 100000 in
set_option maxHeartbeats 4000000 in
theorem wk_X9_skimmer {l : Launch} {D : va_G} {E : ojE} {ad : Nat → Nat} {X : ojX} {Q : Int32 × ojS → State → Prop} (hc : ojC X (vM_ l D E ad) RX9 cX9_skimmer 5 4) (hret : ojRi X (vM_ l D E ad) Q cX9_skimmer .int) (a1 : Int32) (a2 : Int32) (a3 : Int32) (a4 : Int32) (σ : ojS) : ojJ X (vM_ l D E ad) Q (f_X9_skimmer a1 a2 a3 a4 σ) σ 0 [(0, .ref (ad 0)), (1, .int a1), (2, .int a2), (3, .int a3), (4, .int a4)] [] := by
  unfold f_X9_skimmer
  refine oj_aload_n hc dX9_skimmer_0 rfl 0 rfl ?_
  refine oj_iload_n hc dX9_skimmer_1 rfl 1 rfl ?_
  refine oj_cV1 hc cv_X9_110 (by omega) mC_Model [.int a1] [] rfl rfl (Nat.le_of_ble_eq_true rfl) dX9_skimmer_2 (c_X9_isSea a1 σ) (fun r1 => ?_)
  refine oj_if_eq hc 47 dX9_skimmer_5 (by decide) (fun _ => ?_) ?_
  · refine oj_iconst hc (-1) dX9_skimmer_47 kc_m1 ?_
    exact hret _ _ _ _ rfl dX9_skimmer_48
  · refine oj_iload_n hc dX9_skimmer_8 rfl 2 rfl ?_
    refine oj_iconst hc 1 dX9_skimmer_9 kc_1 ?_
    refine oj_sipush hc 5000 dX9_skimmer_10 ks_5000 ?_
    refine oj_cS1 hc cs_X9_93 (by omega) [.int a2, .int 1, .int 5000] [] rfl rfl (Nat.le_of_ble_eq_true rfl) dX9_skimmer_13 (c_X9_in a2 1 5000 σ) (fun r2 => ?_)
    refine oj_if_eq hc 47 dX9_skimmer_16 (by decide) (fun _ => ?_) ?_
    · refine oj_iconst hc (-1) dX9_skimmer_47 kc_m1 ?_
      exact hret _ _ _ _ rfl dX9_skimmer_48
    · refine oj_iload_n hc dX9_skimmer_19 rfl 3 rfl ?_
      refine oj_iconst hc 0 dX9_skimmer_20 kc_0 ?_
      refine oj_ldc hc kd_X9_121 dX9_skimmer_21 ?_
      refine oj_cS1 hc cs_X9_93 (by omega) [.int a3, .int 0, .int 100000] [] rfl rfl (Nat.le_of_ble_eq_true rfl) dX9_skimmer_23 (c_X9_in a3 0 100000 σ) (fun r3 => ?_)
      refine oj_if_eq hc 47 dX9_skimmer_26 (by decide) (fun _ => ?_) ?_
      · refine oj_iconst hc (-1) dX9_skimmer_47 kc_m1 ?_
        exact hret _ _ _ _ rfl dX9_skimmer_48
      · refine oj_iload hc dX9_skimmer_29 4 rfl ?_
        refine oj_iconst hc 1 dX9_skimmer_31 kc_1 ?_
        refine oj_iconst hc 3 dX9_skimmer_32 kc_3 ?_
        refine oj_cS1 hc cs_X9_93 (by omega) [.int a4, .int 1, .int 3] [] rfl rfl (Nat.le_of_ble_eq_true rfl) dX9_skimmer_33 (c_X9_in a4 1 3 σ) (fun r4 => ?_)
        refine oj_if_eq hc 47 dX9_skimmer_36 (by decide) (fun _ => ?_) ?_
        · refine oj_iconst hc (-1) dX9_skimmer_47 kc_m1 ?_
          exact hret _ _ _ _ rfl dX9_skimmer_48
        · refine oj_aload_n hc dX9_skimmer_39 rfl 0 rfl ?_
          refine oj_getf hc ff_X9_101 mC_Model rfl dX9_skimmer_40 ?_
          refine oj_iconst hc 4 dX9_skimmer_43 kc_4 ?_
          refine oj_icmp_ne hc 49 dX9_skimmer_44 (by decide) ?_ (fun _ => ?_)
          · refine oj_aload_n hc dX9_skimmer_49 rfl 0 rfl ?_
            refine oj_getf hc ff_X9_39 mC_Model rfl dX9_skimmer_50 ?_
            refine oj_aload_n hc dX9_skimmer_53 rfl 0 rfl ?_
            refine oj_getf hc ff_X9_101 mC_Model rfl dX9_skimmer_54 ?_
            refine oj_iload_n hc dX9_skimmer_57 rfl 1 rfl ?_
            refine oj_iast hc 0 mC_m_at mC_m_at_s rfl rfl dX9_skimmer_58 (fun σ5 => ?_)
            refine oj_aload_n hc dX9_skimmer_59 rfl 0 rfl ?_
            refine oj_getf hc ff_X9_42 mC_Model rfl dX9_skimmer_60 ?_
            refine oj_aload_n hc dX9_skimmer_63 rfl 0 rfl ?_
            refine oj_getf hc ff_X9_101 mC_Model rfl dX9_skimmer_64 ?_
            refine oj_iload_n hc dX9_skimmer_67 rfl 2 rfl ?_
            refine oj_iast hc 0 mC_m_rate mC_m_rate_s rfl rfl dX9_skimmer_68 (fun σ6 => ?_)
            refine oj_aload_n hc dX9_skimmer_69 rfl 0 rfl ?_
            refine oj_getf hc ff_X9_45 mC_Model rfl dX9_skimmer_70 ?_
            refine oj_aload_n hc dX9_skimmer_73 rfl 0 rfl ?_
            refine oj_getf hc ff_X9_101 mC_Model rfl dX9_skimmer_74 ?_
            refine oj_iload_n hc dX9_skimmer_77 rfl 3 rfl ?_
            refine oj_iast hc 0 mC_m_room mC_m_room_s rfl rfl dX9_skimmer_78 (fun σ7 => ?_)
            refine oj_aload_n hc dX9_skimmer_79 rfl 0 rfl ?_
            refine oj_getf hc ff_X9_48 mC_Model rfl dX9_skimmer_80 ?_
            refine oj_aload_n hc dX9_skimmer_83 rfl 0 rfl ?_
            refine oj_getf hc ff_X9_101 mC_Model rfl dX9_skimmer_84 ?_
            refine oj_iload hc dX9_skimmer_87 4 rfl ?_
            refine oj_iast hc 0 mC_m_speed mC_m_speed_s rfl rfl dX9_skimmer_89 (fun σ8 => ?_)
            refine oj_aload_n hc dX9_skimmer_90 rfl 0 rfl ?_
            refine oj_getf hc ff_X9_57 mC_Model rfl dX9_skimmer_91 ?_
            refine oj_aload_n hc dX9_skimmer_94 rfl 0 rfl ?_
            refine oj_getf hc ff_X9_101 mC_Model rfl dX9_skimmer_95 ?_
            refine oj_aload_n hc dX9_skimmer_98 rfl 0 rfl ?_
            refine oj_getf hc ff_X9_104 mC_Model rfl dX9_skimmer_99 ?_
            refine oj_iast hc 0 mC_m_cameIn mC_m_cameIn_s rfl rfl dX9_skimmer_102 (fun σ9 => ?_)
            refine oj_aload_n hc dX9_skimmer_103 rfl 0 rfl ?_
            refine oj_dup hc dX9_skimmer_104 rfl ?_
            refine oj_getf hc ff_X9_101 mC_Model rfl dX9_skimmer_105 ?_
            refine oj_iconst hc 1 dX9_skimmer_108 kc_1 ?_
            refine oj_iadd hc dX9_skimmer_109 ?_
            refine oj_putf hc fp_X9_101 mC_Model mC_Model_s14 rfl rfl (Nat.le_of_ble_eq_true rfl) dX9_skimmer_110 (fun σ10 => ?_)
            refine oj_aload_n hc dX9_skimmer_113 rfl 0 rfl ?_
            refine oj_getf hc ff_X9_101 mC_Model rfl dX9_skimmer_114 ?_
            refine oj_iconst hc 1 dX9_skimmer_117 kc_1 ?_
            refine oj_isub hc dX9_skimmer_118 ?_
            exact hret _ _ _ _ rfl dX9_skimmer_119
          · refine oj_iconst hc (-1) dX9_skimmer_47 kc_m1 ?_
            exact hret _ _ _ _ rfl dX9_skimmer_48
set_option maxRecDepth 100000 in
theorem c_X9_skimmer {l : Launch} {D : va_G} {E : ojE} {ad : Nat → Nat} (a1 : Int32) (a2 : Int32) (a3 : Int32) (a4 : Int32) (σ : ojS) : ∀ (r : Int32) (σ1 : ojS), f_X9_skimmer a1 a2 a3 a4 σ = some (r, σ1) → ojMi (vM_ l D E ad) yX9_skimmer cX9_skimmer 5 (some .int) 4 [.ref (ad 0), .int a1, .int a2, .int a3, .int a4] σ r σ1 :=
  ojMi_W (by decide +kernel) rfl .int rfl (Nat.le_of_ble_eq_true rfl) rfl (fun X Q hc hret => wk_X9_skimmer hc hret a1 a2 a3 a4 σ)

def f_X9_step_48 (a2 : Int32) (s0 : Int32) (s1 : Int32) : Option (Int32) :=
  ojLet (s0 + s1) (fun (x2 : Int32) =>
    ojB1 (f_X9_in a2 0 7) (fun (r3 : Int32) =>
      if r3 = 0 then
        some (-1)
      else
        ojB1 (f_X9_in x2 0 11) (fun (r4 : Int32) =>
          if r4 = 0 then
            some (-1)
          else
            some ((12 * a2) + x2))))
set_option maxRecDepth 100000 in
set_option maxHeartbeats 4000000 in
theorem wk_X9_step_48 {l : Launch} {D : va_G} {E : ojE} {ad : Nat → Nat} {X : ojX} {Q : Int32 → State → Prop} (hc : ojC X (vM_ l D E ad) RX9 cX9_step 4 2) (σ : ojS) (hret : ojRr X (vM_ l D E ad) Q cX9_step .int σ) (a2 : Int32) (s0 : Int32) (s1 : Int32) : ojJ X (vM_ l D E ad) Q (f_X9_step_48 a2 s0 s1) σ 48 [(2, .int a2)] [.int s1, .int s0] := by
  unfold f_X9_step_48
  refine oj_iadd hc dX9_step_48 ?_
  refine oj_nm (fun x2 => ?_)
  refine oj_istore_n hc [(2, .int a2), (3, .int x2)] rfl (by decide) dX9_step_49 rfl ?_
  refine oj_iload_n hc dX9_step_50 rfl 0 rfl ?_
  refine oj_iconst hc 0 dX9_step_51 kc_0 ?_
  refine oj_bipush hc 7 dX9_step_52 kb_7 ?_
  refine oj_cS1 hc cs_X9_93 (by omega) [.int a2, .int 0, .int 7] [] rfl rfl (Nat.le_of_ble_eq_true rfl) dX9_step_54 (c_X9_in a2 0 7 σ) (fun r3 => ?_)
  refine oj_if_eq hc 79 dX9_step_57 (by decide) (fun _ => ?_) ?_
  · refine oj_iconst hc (-1) dX9_step_79 kc_m1 ?_
    exact hret _ _ _ rfl dX9_step_80
  · refine oj_iload_n hc dX9_step_60 rfl 1 rfl ?_
    refine oj_iconst hc 0 dX9_step_61 kc_0 ?_
    refine oj_bipush hc 11 dX9_step_62 kb_11 ?_
    refine oj_cS1 hc cs_X9_93 (by omega) [.int x2, .int 0, .int 11] [] rfl rfl (Nat.le_of_ble_eq_true rfl) dX9_step_64 (c_X9_in x2 0 11 σ) (fun r4 => ?_)
    refine oj_if_eq hc 79 dX9_step_67 (by decide) (fun _ => ?_) ?_
    · refine oj_iconst hc (-1) dX9_step_79 kc_m1 ?_
      exact hret _ _ _ rfl dX9_step_80
    · refine oj_bipush hc 12 dX9_step_70 kb_12 ?_
      refine oj_iload_n hc dX9_step_72 rfl 0 rfl ?_
      refine oj_imul hc dX9_step_73 ?_
      refine oj_iload_n hc dX9_step_74 rfl 1 rfl ?_
      refine oj_iadd hc dX9_step_75 ?_
      refine oj_goto hc 80 dX9_step_76 (by decide) ?_
      exact hret _ _ _ rfl dX9_step_80
def f_X9_step_23 (a0 : Int32) (a1 : Int32) (s0 : Int32) (s1 : Int32) : Option (Int32) :=
  ojLet (s0 + s1) (fun (x1 : Int32) =>
    if a1 = 2 then
      f_X9_step_48 x1 (ojRem a0 12) 1
    else
      if a1 = 4 then
        f_X9_step_48 x1 (ojRem a0 12) (-1)
      else
        f_X9_step_48 x1 (ojRem a0 12) 0)
set_option maxRecDepth 100000 in
set_option maxHeartbeats 4000000 in
theorem wk_X9_step_23 {l : Launch} {D : va_G} {E : ojE} {ad : Nat → Nat} {X : ojX} {Q : Int32 → State → Prop} (hc : ojC X (vM_ l D E ad) RX9 cX9_step 4 2) (σ : ojS) (hret : ojRr X (vM_ l D E ad) Q cX9_step .int σ) (a0 : Int32) (a1 : Int32) (s0 : Int32) (s1 : Int32) : ojJ X (vM_ l D E ad) Q (f_X9_step_23 a0 a1 s0 s1) σ 23 [(0, .int a0), (1, .int a1)] [.int s1, .int s0] := by
  unfold f_X9_step_23
  refine oj_iadd hc dX9_step_23 ?_
  refine oj_nm (fun x1 => ?_)
  refine oj_istore_n hc [(0, .int a0), (1, .int a1), (2, .int x1)] rfl (by decide) dX9_step_24 rfl ?_
  refine oj_iload_n hc dX9_step_25 rfl 0 rfl ?_
  refine oj_bipush hc 12 dX9_step_26 kb_12 ?_
  refine oj_irem hc dX9_step_28 (by decide) ?_
  refine oj_iload_n hc dX9_step_29 rfl 1 rfl ?_
  refine oj_iconst hc 2 dX9_step_30 kc_2 ?_
  refine oj_icmp_ne hc 38 dX9_step_31 (by decide) ?_ (fun _ => ?_)
  · refine oj_iload_n hc dX9_step_38 rfl 1 rfl ?_
    refine oj_iconst hc 4 dX9_step_39 kc_4 ?_
    refine oj_icmp_ne hc 47 dX9_step_40 (by decide) ?_ (fun _ => ?_)
    · refine oj_iconst hc 0 dX9_step_47 kc_0 ?_
      refine oj_sub [2] rfl ?_
      exact wk_X9_step_48 hc _ hret x1 (ojRem a0 12) 0
    · refine oj_iconst hc (-1) dX9_step_43 kc_m1 ?_
      refine oj_goto hc 48 dX9_step_44 (by decide) ?_
      refine oj_sub [2] rfl ?_
      exact wk_X9_step_48 hc _ hret x1 (ojRem a0 12) (-1)
  · refine oj_iconst hc 1 dX9_step_34 kc_1 ?_
    refine oj_goto hc 48 dX9_step_35 (by decide) ?_
    refine oj_sub [2] rfl ?_
    exact wk_X9_step_48 hc _ hret x1 (ojRem a0 12) 1
def f_X9_step (a0 : Int32) (a1 : Int32) : Option (Int32) :=
  if a1 = 1 then
    f_X9_step_23 a0 a1 (a0 / 12) (-1)
  else
    if a1 = 3 then
      f_X9_step_23 a0 a1 (a0 / 12) 1
    else
      f_X9_step_23 a0 a1 (a0 / 12) 0
set_option maxRecDepth 100000 in
set_option maxHeartbeats 4000000 in
theorem wk_X9_step {l : Launch} {D : va_G} {E : ojE} {ad : Nat → Nat} {X : ojX} {Q : Int32 → State → Prop} (hc : ojC X (vM_ l D E ad) RX9 cX9_step 4 2) (σ : ojS) (hret : ojRr X (vM_ l D E ad) Q cX9_step .int σ) (a0 : Int32) (a1 : Int32) : ojJ X (vM_ l D E ad) Q (f_X9_step a0 a1) σ 0 [(0, .int a0), (1, .int a1)] [] := by
  unfold f_X9_step
  refine oj_iload_n hc dX9_step_0 rfl 0 rfl ?_
  refine oj_bipush hc 12 dX9_step_1 kb_12 ?_
  refine oj_idiv hc dX9_step_3 (by decide) ?_
  refine oj_iload_n hc dX9_step_4 rfl 1 rfl ?_
  refine oj_iconst hc 1 dX9_step_5 kc_1 ?_
  refine oj_icmp_ne hc 13 dX9_step_6 (by decide) ?_ (fun _ => ?_)
  · refine oj_iload_n hc dX9_step_13 rfl 1 rfl ?_
    refine oj_iconst hc 3 dX9_step_14 kc_3 ?_
    refine oj_icmp_ne hc 22 dX9_step_15 (by decide) ?_ (fun _ => ?_)
    · refine oj_iconst hc 0 dX9_step_22 kc_0 ?_
      exact wk_X9_step_23 hc _ hret a0 a1 (a0 / 12) 0
    · refine oj_iconst hc 1 dX9_step_18 kc_1 ?_
      refine oj_goto hc 23 dX9_step_19 (by decide) ?_
      exact wk_X9_step_23 hc _ hret a0 a1 (a0 / 12) 1
  · refine oj_iconst hc (-1) dX9_step_9 kc_m1 ?_
    refine oj_goto hc 23 dX9_step_10 (by decide) ?_
    exact wk_X9_step_23 hc _ hret a0 a1 (a0 / 12) (-1)
set_option maxRecDepth 100000 in
theorem c_X9_step {l : Launch} {D : va_G} {E : ojE} {ad : Nat → Nat} (a0 : Int32) (a1 : Int32) (σ : ojS) : ∀ (r : Int32), f_X9_step a0 a1 = some r → ojMi (vM_ l D E ad) yX9_step cX9_step 4 (some .int) 2 [.int a0, .int a1] σ r σ :=
  ojMi_R (by decide +kernel) rfl .int rfl (Nat.le_of_ble_eq_true rfl) rfl (fun X Q hc hret => wk_X9_step hc σ hret a0 a1)
