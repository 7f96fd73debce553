def f_X9_oil (a1 : Int32) (σ : ojS) : Option (Int32) :=
  ojB1 (f_X9_isCell a1) (fun (r1 : Int32) =>
    if r1 = 0 then
      some (-1)
    else
      ojChk a1 96 (
        some (σ 2 a1.toNatClampNeg)))
set_option maxRecDepth 100000 in
set_option maxHeartbeats 4000000 in
theorem wk_X9_oil {l : Launch} {D : va_G} {E : ojE} {ad : Nat → Nat} {X : ojX} {Q : Int32 → State → Prop} (hc : ojC X (vM_ l D E ad) RX9 cX9_oil 2 3) (σ : ojS) (hret : ojRr X (vM_ l D E ad) Q cX9_oil .int σ) (a1 : Int32) : ojJ X (vM_ l D E ad) Q (f_X9_oil a1 σ) σ 0 [(0, .ref (ad 0)), (1, .int a1)] [] := by
  unfold f_X9_oil
  refine oj_iload_n hc dX9_oil_0 rfl 1 rfl ?_
  refine oj_cS1 hc cs_X9_97 (by omega) [.int a1] [] rfl rfl (Nat.le_of_ble_eq_true rfl) dX9_oil_1 (c_X9_isCell a1 σ) (fun r1 => ?_)
  refine oj_if_eq hc 16 dX9_oil_4 (by decide) (fun _ => ?_) ?_
  · refine oj_iconst hc (-1) dX9_oil_16 kc_m1 ?_
    exact hret _ _ _ rfl dX9_oil_17
  · refine oj_aload_n hc dX9_oil_7 rfl 0 rfl ?_
    refine oj_getf hc ff_X9_13 mC_Model rfl dX9_oil_8 ?_
    refine oj_iload_n hc dX9_oil_11 rfl 1 rfl ?_
    refine oj_iald hc 0 mC_m_oil rfl dX9_oil_12 ?_
    refine oj_goto hc 17 dX9_oil_13 (by decide) ?_
    exact hret _ _ _ rfl dX9_oil_17
set_option maxRecDepth 100000 in
theorem c_X9_oil {l : Launch} {D : va_G} {E : ojE} {ad : Nat → Nat} (a1 : Int32) (σ : ojS) : ∀ (r : Int32), f_X9_oil a1 σ = some r → ojMi (vM_ l D E ad) yX9_oil cX9_oil 2 (some .int) 3 [.ref (ad 0), .int a1] σ r σ :=
  ojMi_R (by decide +kernel) rfl .int rfl (Nat.le_of_ble_eq_true rfl) rfl (fun X Q hc hret => wk_X9_oil hc σ hret a1)

def f_X9_told (a1 : Int32) (a2 : Int32) (σ : ojS) : Option (Int32) :=
  ojB1 (f_X9_isSkimmer a1 σ) (fun (r1 : Int32) =>
    if r1 = 0 then
      some (-1)
    else
      if a2 = 0 then
        ojChk a1 4 (
          some (σ 9 a1.toNatClampNeg))
      else
        if a2 = 1 then
          ojChk a1 4 (
            some (σ 13 a1.toNatClampNeg))
        else
          if a2 = 2 then
            ojChk a1 4 (
              some (σ 14 a1.toNatClampNeg))
          else
            if a2 = 3 then
              ojChk a1 4 (
                if (σ 16 a1.toNatClampNeg) = 0 then
                  some 0
                else
                  some 1)
            else
              some (-1))
set_option maxRecDepth 100000 in
set_option maxHeartbeats 4000000 in
theorem wk_X9_told {l : Launch} {D : va_G} {E : ojE} {ad : Nat → Nat} {X : ojX} {Q : Int32 → State → Prop} (hc : ojC X (vM_ l D E ad) RX9 cX9_told 3 3) (σ : ojS) (hret : ojRr X (vM_ l D E ad) Q cX9_told .int σ) (a1 : Int32) (a2 : Int32) : ojJ X (vM_ l D E ad) Q (f_X9_told a1 a2 σ) σ 0 [(0, .ref (ad 0)), (1, .int a1), (2, .int a2)] [] := by
  unfold f_X9_told
  refine oj_aload_n hc dX9_told_0 rfl 0 rfl ?_
  refine oj_iload_n hc dX9_told_1 rfl 1 rfl ?_
  refine oj_cV1 hc cv_X9_132 (by omega) mC_Model [.int a1] [] rfl rfl (Nat.le_of_ble_eq_true rfl) dX9_told_2 (c_X9_isSkimmer a1 σ) (fun r1 => ?_)
  refine oj_if_ne hc 10 dX9_told_5 (by decide) ?_ (fun _ => ?_)
  · refine oj_iload_n hc dX9_told_10 rfl 2 rfl ?_
    refine oj_ite (fun hw2 => ?_) (fun hw2 => ?_)
    · refine oj_tableIn hc 40 dX9_told_11 (by rw [hw2]; decide) (by rw [hw2]; decide) (by rw [hw2]; rfl) (by decide) ?_
      refine oj_aload_n hc dX9_told_40 rfl 0 rfl ?_
      refine oj_getf hc ff_X9_39 mC_Model rfl dX9_told_41 ?_
      refine oj_iload_n hc dX9_told_44 rfl 1 rfl ?_
      refine oj_iald hc 0 mC_m_at rfl dX9_told_45 ?_
      exact hret _ _ _ rfl dX9_told_46
    refine oj_ite (fun hw3 => ?_) (fun hw3 => ?_)
    · refine oj_tableIn hc 47 dX9_told_11 (by rw [hw3]; decide) (by rw [hw3]; decide) (by rw [hw3]; rfl) (by decide) ?_
      refine oj_aload_n hc dX9_told_47 rfl 0 rfl ?_
      refine oj_getf hc ff_X9_51 mC_Model rfl dX9_told_48 ?_
      refine oj_iload_n hc dX9_told_51 rfl 1 rfl ?_
      refine oj_iald hc 0 mC_m_has rfl dX9_told_52 ?_
      exact hret _ _ _ rfl dX9_told_53
    refine oj_ite (fun hw4 => ?_) (fun hw4 => ?_)
    · refine oj_tableIn hc 54 dX9_told_11 (by rw [hw4]; decide) (by rw [hw4]; decide) (by rw [hw4]; rfl) (by decide) ?_
      refine oj_aload_n hc dX9_told_54 rfl 0 rfl ?_
      refine oj_getf hc ff_X9_54 mC_Model rfl dX9_told_55 ?_
      refine oj_iload_n hc dX9_told_58 rfl 1 rfl ?_
      refine oj_iald hc 0 mC_m_took rfl dX9_told_59 ?_
      exact hret _ _ _ rfl dX9_told_60
    refine oj_ite (fun hw5 => ?_) (fun hw5 => ?_)
    · refine oj_tableIn hc 61 dX9_told_11 (by rw [hw5]; decide) (by rw [hw5]; decide) (by rw [hw5]; rfl) (by decide) ?_
      refine oj_aload_n hc dX9_told_61 rfl 0 rfl ?_
      refine oj_getf hc ff_X9_60 mC_Model rfl dX9_told_62 ?_
      refine oj_iload_n hc dX9_told_65 rfl 1 rfl ?_
      refine oj_zald hc 1 mC_m_wentNow rfl dX9_told_66 ?_
      refine oj_if_eq hc 74 dX9_told_67 (by decide) (fun _ => ?_) ?_
      · refine oj_iconst hc 0 dX9_told_74 kc_0 ?_
        exact hret _ _ _ rfl dX9_told_75
      · refine oj_iconst hc 1 dX9_told_70 kc_1 ?_
        refine oj_goto hc 75 dX9_told_71 (by decide) ?_
        exact hret _ _ _ rfl dX9_told_75
    refine oj_tableOut hc 76 dX9_told_11 (oj_sw 0 3 4 (by decide) (fun k hk => match k, hk with | 0, _ => hw2 | 1, _ => hw3 | 2, _ => hw4 | 3, _ => hw5 | k + 4, hk => absurd hk (by omega))) (by decide) ?_
    refine oj_iconst hc (-1) dX9_told_76 kc_m1 ?_
    exact hret _ _ _ rfl dX9_told_77
  · refine oj_iconst hc (-1) dX9_told_8 kc_m1 ?_
    exact hret _ _ _ rfl dX9_told_9
set_option maxRecDepth 100000 in
theorem c_X9_told {l : Launch} {D : va_G} {E : ojE} {ad : Nat → Nat} (a1 : Int32) (a2 : Int32) (σ : ojS) : ∀ (r : Int32), f_X9_told a1 a2 σ = some r → ojMi (vM_ l D E ad) yX9_told cX9_told 3 (some .int) 3 [.ref (ad 0), .int a1, .int a2] σ r σ :=
  ojMi_R (by decide +kernel) rfl .int rfl (Nat.le_of_ble_eq_true rfl) rfl (fun X Q hc hret => wk_X9_told hc σ hret a1 a2)

def f_X9_count_72 (a2 : Int32) (a3 : Int32) (σ : ojS) : Option (Int32) :=
  ojFix (fun _ _ => none) 600 (fun (rec_72 : Int32 → Int32 → Option (Int32)) (v2_72 : Int32) (v3_72 : Int32) =>
    if 96 ≤ v3_72 then
      some v2_72
    else
      ojChk v3_72 96 (
        if (σ 1 v3_72.toNatClampNeg) = 0 then
          ojChk v3_72 96 (
            ojLet (v2_72 + (σ 2 v3_72.toNatClampNeg)) (fun (x3 : Int32) =>
              ojLet (v3_72 + 1) (fun (x4 : Int32) =>
                rec_72 x3 x4)))
        else
          ojLet (v2_72 + 0) (fun (x1 : Int32) =>
            ojLet (v3_72 + 1) (fun (x2 : Int32) =>
              rec_72 x1 x2)))) a2 a3
set_option maxRecDepth 100000 in
set_option maxHeartbeats 4000000 in
theorem wk_X9_count_72 {l : Launch} {D : va_G} {E : ojE} {ad : Nat → Nat} {X : ojX} {Q : Int32 → State → Prop} (hc : ojC X (vM_ l D E ad) RX9 cX9_count 4 3) (σ : ojS) (hret : ojRr X (vM_ l D E ad) Q cX9_count .int σ) (a2 : Int32) (a3 : Int32) : ojJ X (vM_ l D E ad) Q (f_X9_count_72 a2 a3 σ) σ 72 [(0, .ref (ad 0)), (2, .int a2), (3, .int a3)] [] := by
  unfold f_X9_count_72
  refine oj_fix (fun (r : Int32 → Int32 → Option (Int32)) => ∀ (v2_72 : Int32) (v3_72 : Int32), ojJ X (vM_ l D E ad) Q (r v2_72 v3_72) σ 72 [(0, .ref (ad 0)), (2, .int v2_72), (3, .int v3_72)] []) _ (fun _ _ => oj_none) (fun rec_72 hrec_72 v2_72 v3_72 => ?_) 600 a2 a3
  refine oj_iload_n hc dX9_count_72 rfl 2 rfl ?_
  refine oj_bipush hc 96 dX9_count_73 kb_96 ?_
  refine oj_icmp_ge hc 106 dX9_count_75 (by decide) (fun _ => ?_) ?_
  · refine oj_iload_n hc dX9_count_106 rfl 1 rfl ?_
    exact hret _ _ _ rfl dX9_count_107
  · refine oj_iload_n hc dX9_count_78 rfl 1 rfl ?_
    refine oj_aload_n hc dX9_count_79 rfl 0 rfl ?_
    refine oj_getf hc ff_X9_9 mC_Model rfl dX9_count_80 ?_
    refine oj_iload_n hc dX9_count_83 rfl 2 rfl ?_
    refine oj_iald hc 0 mC_m_rank rfl dX9_count_84 ?_
    refine oj_if_ne hc 97 dX9_count_85 (by decide) ?_ (fun _ => ?_)
    · refine oj_iconst hc 0 dX9_count_97 kc_0 ?_
      refine oj_iadd hc dX9_count_98 ?_
      refine oj_nm (fun x1 => ?_)
      refine oj_istore_n hc [(0, .ref (ad 0)), (2, .int x1), (3, .int v3_72)] rfl (by decide) dX9_count_99 rfl ?_
      refine oj_iinc hc 1 (fun u => [(0, .ref (ad 0)), (2, .int x1), (3, .int u)]) 2 rfl kc_1 (fun _ => rfl) (by decide) dX9_count_100 (fun x2 => ?_)
      refine oj_goto hc 72 dX9_count_103 (by decide) ?_
      exact hrec_72 x1 x2
    · refine oj_aload_n hc dX9_count_88 rfl 0 rfl ?_
      refine oj_getf hc ff_X9_13 mC_Model rfl dX9_count_89 ?_
      refine oj_iload_n hc dX9_count_92 rfl 2 rfl ?_
      refine oj_iald hc 0 mC_m_oil rfl dX9_count_93 ?_
      refine oj_goto hc 98 dX9_count_94 (by decide) ?_
      refine oj_iadd hc dX9_count_98 ?_
      refine oj_nm (fun x3 => ?_)
      refine oj_istore_n hc [(0, .ref (ad 0)), (2, .int x3), (3, .int v3_72)] rfl (by decide) dX9_count_99 rfl ?_
      refine oj_iinc hc 1 (fun u => [(0, .ref (ad 0)), (2, .int x3), (3, .int u)]) 2 rfl kc_1 (fun _ => rfl) (by decide) dX9_count_100 (fun x4 => ?_)
      refine oj_goto hc 72 dX9_count_103 (by decide) ?_
      exact hrec_72 x3 x4
def f_X9_count_115 (a2 : Int32) (a3 : Int32) (σ : ojS) : Option (Int32) :=
  ojFix (fun _ _ => none) 600 (fun (rec_115 : Int32 → Int32 → Option (Int32)) (v2_115 : Int32) (v3_115 : Int32) =>
    if 96 ≤ v3_115 then
      some v2_115
    else
      ojChk v3_115 96 (
        if (σ 1 v3_115.toNatClampNeg) ≤ 0 then
          ojLet (v2_115 + 0) (fun (x5 : Int32) =>
            ojLet (v3_115 + 1) (fun (x6 : Int32) =>
              rec_115 x5 x6))
        else
          ojChk v3_115 96 (
            ojLet (v2_115 + (σ 2 v3_115.toNatClampNeg)) (fun (x7 : Int32) =>
              ojLet (v3_115 + 1) (fun (x8 : Int32) =>
                rec_115 x7 x8))))) a2 a3
set_option maxRecDepth 100000 in
set_option maxHeartbeats 4000000 in
theorem wk_X9_count_115 {l : Launch} {D : va_G} {E : ojE} {ad : Nat → Nat} {X : ojX} {Q : Int32 → State → Prop} (hc : ojC X (vM_ l D E ad) RX9 cX9_count 4 3) (σ : ojS) (hret : ojRr X (vM_ l D E ad) Q cX9_count .int σ) (a2 : Int32) (a3 : Int32) : ojJ X (vM_ l D E ad) Q (f_X9_count_115 a2 a3 σ) σ 115 [(0, .ref (ad 0)), (2, .int a2), (3, .int a3)] [] := by
  unfold f_X9_count_115
  refine oj_fix (fun (r : Int32 → Int32 → Option (Int32)) => ∀ (v2_115 : Int32) (v3_115 : Int32), ojJ X (vM_ l D E ad) Q (r v2_115 v3_115) σ 115 [(0, .ref (ad 0)), (2, .int v2_115), (3, .int v3_115)] []) _ (fun _ _ => oj_none) (fun rec_115 hrec_115 v2_115 v3_115 => ?_) 600 a2 a3
  refine oj_iload_n hc dX9_count_115 rfl 2 rfl ?_
  refine oj_bipush hc 96 dX9_count_116 kb_96 ?_
  refine oj_icmp_ge hc 149 dX9_count_118 (by decide) (fun _ => ?_) ?_
  · refine oj_iload_n hc dX9_count_149 rfl 1 rfl ?_
    exact hret _ _ _ rfl dX9_count_150
  · refine oj_iload_n hc dX9_count_121 rfl 1 rfl ?_
    refine oj_aload_n hc dX9_count_122 rfl 0 rfl ?_
    refine oj_getf hc ff_X9_9 mC_Model rfl dX9_count_123 ?_
    refine oj_iload_n hc dX9_count_126 rfl 2 rfl ?_
    refine oj_iald hc 0 mC_m_rank rfl dX9_count_127 ?_
    refine oj_if_le hc 140 dX9_count_128 (by decide) (fun _ => ?_) ?_
    · refine oj_iconst hc 0 dX9_count_140 kc_0 ?_
      refine oj_iadd hc dX9_count_141 ?_
      refine oj_nm (fun x5 => ?_)
      refine oj_istore_n hc [(0, .ref (ad 0)), (2, .int x5), (3, .int v3_115)] rfl (by decide) dX9_count_142 rfl ?_
      refine oj_iinc hc 1 (fun u => [(0, .ref (ad 0)), (2, .int x5), (3, .int u)]) 2 rfl kc_1 (fun _ => rfl) (by decide) dX9_count_143 (fun x6 => ?_)
      refine oj_goto hc 115 dX9_count_146 (by decide) ?_
      exact hrec_115 x5 x6
    · refine oj_aload_n hc dX9_count_131 rfl 0 rfl ?_
      refine oj_getf hc ff_X9_13 mC_Model rfl dX9_count_132 ?_
      refine oj_iload_n hc dX9_count_135 rfl 2 rfl ?_
      refine oj_iald hc 0 mC_m_oil rfl dX9_count_136 ?_
      refine oj_goto hc 141 dX9_count_137 (by decide) ?_
      refine oj_iadd hc dX9_count_141 ?_
      refine oj_nm (fun x7 => ?_)
      refine oj_istore_n hc [(0, .ref (ad 0)), (2, .int x7), (3, .int v3_115)] rfl (by decide) dX9_count_142 rfl ?_
      refine oj_iinc hc 1 (fun u => [(0, .ref (ad 0)), (2, .int x7), (3, .int u)]) 2 rfl kc_1 (fun _ => rfl) (by decide) dX9_count_143 (fun x8 => ?_)
      refine oj_goto hc 115 dX9_count_146 (by decide) ?_
      exact hrec_115 x7 x8
def f_X9_count_173 (a2 : Int32) (a3 : Int32) (σ : ojS) : Option (Int32) :=
  ojFix (fun _ _ => none) 600 (fun (rec_173 : Int32 → Int32 → Option (Int32)) (v2_173 : Int32) (v3_173 : Int32) =>
    if 20 ≤ v3_173 then
      some v2_173
    else
      ojChk v3_173 20 (
        if (σ 5 v3_173.toNatClampNeg) = 0 then
          ojLet (v2_173 + 0) (fun (x11 : Int32) =>
            ojLet (v3_173 + 1) (fun (x12 : Int32) =>
              rec_173 x11 x12))
        else
          ojLet (v2_173 + 1) (fun (x13 : Int32) =>
            ojLet (v3_173 + 1) (fun (x14 : Int32) =>
              rec_173 x13 x14)))) a2 a3
set_option maxRecDepth 100000 in
set_option maxHeartbeats 4000000 in
theorem wk_X9_count_173 {l : Launch} {D : va_G} {E : ojE} {ad : Nat → Nat} {X : ojX} {Q : Int32 → State → Prop} (hc : ojC X (vM_ l D E ad) RX9 cX9_count 4 3) (σ : ojS) (hret : ojRr X (vM_ l D E ad) Q cX9_count .int σ) (a2 : Int32) (a3 : Int32) : ojJ X (vM_ l D E ad) Q (f_X9_count_173 a2 a3 σ) σ 173 [(0, .ref (ad 0)), (2, .int a2), (3, .int a3)] [] := by
  unfold f_X9_count_173
  refine oj_fix (fun (r : Int32 → Int32 → Option (Int32)) => ∀ (v2_173 : Int32) (v3_173 : Int32), ojJ X (vM_ l D E ad) Q (r v2_173 v3_173) σ 173 [(0, .ref (ad 0)), (2, .int v2_173), (3, .int v3_173)] []) _ (fun _ _ => oj_none) (fun rec_173 hrec_173 v2_173 v3_173 => ?_) 600 a2 a3
  refine oj_iload_n hc dX9_count_173 rfl 2 rfl ?_
  refine oj_bipush hc 20 dX9_count_174 kb_20 ?_
  refine oj_icmp_ge hc 202 dX9_count_176 (by decide) (fun _ => ?_) ?_
  · refine oj_iload_n hc dX9_count_202 rfl 1 rfl ?_
    exact hret _ _ _ rfl dX9_count_203
  · refine oj_iload_n hc dX9_count_179 rfl 1 rfl ?_
    refine oj_aload_n hc dX9_count_180 rfl 0 rfl ?_
    refine oj_getf hc ff_X9_22 mC_Model rfl dX9_count_181 ?_
    refine oj_iload_n hc dX9_count_184 rfl 2 rfl ?_
    refine oj_zald hc 1 mC_m_isBoom rfl dX9_count_185 ?_
    refine oj_if_eq hc 193 dX9_count_186 (by decide) (fun _ => ?_) ?_
    · refine oj_iconst hc 0 dX9_count_193 kc_0 ?_
      refine oj_iadd hc dX9_count_194 ?_
      refine oj_nm (fun x11 => ?_)
      refine oj_istore_n hc [(0, .ref (ad 0)), (2, .int x11), (3, .int v3_173)] rfl (by decide) dX9_count_195 rfl ?_
      refine oj_iinc hc 1 (fun u => [(0, .ref (ad 0)), (2, .int x11), (3, .int u)]) 2 rfl kc_1 (fun _ => rfl) (by decide) dX9_count_196 (fun x12 => ?_)
      refine oj_goto hc 173 dX9_count_199 (by decide) ?_
      exact hrec_173 x11 x12
    · refine oj_iconst hc 1 dX9_count_189 kc_1 ?_
      refine oj_goto hc 194 dX9_count_190 (by decide) ?_
      refine oj_iadd hc dX9_count_194 ?_
      refine oj_nm (fun x13 => ?_)
      refine oj_istore_n hc [(0, .ref (ad 0)), (2, .int x13), (3, .int v3_173)] rfl (by decide) dX9_count_195 rfl ?_
      refine oj_iinc hc 1 (fun u => [(0, .ref (ad 0)), (2, .int x13), (3, .int u)]) 2 rfl kc_1 (fun _ => rfl) (by decide) dX9_count_196 (fun x14 => ?_)
      refine oj_goto hc 173 dX9_count_199 (by decide) ?_
      exact hrec_173 x13 x14
def f_X9_count (a1 : Int32) (σ : ojS) : Option (Int32) :=
  if a1 = 0 then
    some (σ 0 0)
  else
    if a1 = 1 then
      some (σ 0 9)
    else
      if a1 = 2 then
        f_X9_count_72 0 0 σ
      else
        if a1 = 3 then
          some (σ 0 11)
        else
          if a1 = 4 then
            f_X9_count_115 0 0 σ
          else
            if a1 = 5 then
              some (σ 0 12)
            else
              if a1 = 6 then
                some (σ 0 13)
              else
                if a1 = 7 then
                  ojB1 (f_X9_harm σ) (fun (r9 : Int32) =>
                    some r9)
                else
                  if a1 = 8 then
                    ojB1 (f_X9_billAll σ) (fun (r10 : Int32) =>
                      some r10)
                  else
                    if a1 = 9 then
                      f_X9_count_173 0 0 σ
                    else
                      if a1 = 10 then
                        some (σ 0 23)
                      else
                        some (-1)
set_option maxRecDepth 100000 in
set_option maxHeartbeats 4000000 in
theorem wk_X9_count {l : Launch} {D : va_G} {E : ojE} {ad : Nat → Nat} {X : ojX} {Q : Int32 → State → Prop} (hc : ojC X (vM_ l D E ad) RX9 cX9_count 4 3) (σ : ojS) (hret : ojRr X (vM_ l D E ad) Q cX9_count .int σ) (a1 : Int32) : ojJ X (vM_ l D E ad) Q (f_X9_count a1 σ) σ 0 [(0, .ref (ad 0)), (1, .int a1)] [] := by
  unfold f_X9_count
  refine oj_iconst hc 0 dX9_count_0 kc_0 ?_
  refine oj_istore_n hc [(0, .ref (ad 0)), (1, .int a1), (2, .int 0)] rfl (by decide) dX9_count_1 rfl ?_
  refine oj_iload_n hc dX9_count_2 rfl 1 rfl ?_
  refine oj_ite (fun hw15 => ?_) (fun hw15 => ?_)
  · refine oj_tableIn hc 60 dX9_count_3 (by rw [hw15]; decide) (by rw [hw15]; decide) (by rw [hw15]; rfl) (by decide) ?_
    refine oj_aload_n hc dX9_count_60 rfl 0 rfl ?_
    refine oj_getf hc ff_X9_104 mC_Model rfl dX9_count_61 ?_
    exact hret _ _ _ rfl dX9_count_64
  refine oj_ite (fun hw16 => ?_) (fun hw16 => ?_)
  · refine oj_tableIn hc 65 dX9_count_3 (by rw [hw16]; decide) (by rw [hw16]; decide) (by rw [hw16]; rfl) (by decide) ?_
    refine oj_aload_n hc dX9_count_65 rfl 0 rfl ?_
    refine oj_getf hc ff_X9_122 mC_Model rfl dX9_count_66 ?_
    exact hret _ _ _ rfl dX9_count_69
  refine oj_ite (fun hw17 => ?_) (fun hw17 => ?_)
  · refine oj_tableIn hc 70 dX9_count_3 (by rw [hw17]; decide) (by rw [hw17]; decide) (by rw [hw17]; rfl) (by decide) ?_
    refine oj_iconst hc 0 dX9_count_70 kc_0 ?_
    refine oj_istore_n hc [(0, .ref (ad 0)), (1, .int a1), (2, .int 0), (3, .int 0)] rfl (by decide) dX9_count_71 rfl ?_
    refine oj_sub [0, 2, 3] rfl ?_
    exact wk_X9_count_72 hc _ hret 0 0
  refine oj_ite (fun hw18 => ?_) (fun hw18 => ?_)
  · refine oj_tableIn hc 108 dX9_count_3 (by rw [hw18]; decide) (by rw [hw18]; decide) (by rw [hw18]; rfl) (by decide) ?_
    refine oj_aload_n hc dX9_count_108 rfl 0 rfl ?_
    refine oj_getf hc ff_X9_143 mC_Model rfl dX9_count_109 ?_
    exact hret _ _ _ rfl dX9_count_112
  refine oj_ite (fun hw19 => ?_) (fun hw19 => ?_)
  · refine oj_tableIn hc 113 dX9_count_3 (by rw [hw19]; decide) (by rw [hw19]; decide) (by rw [hw19]; rfl) (by decide) ?_
    refine oj_iconst hc 0 dX9_count_113 kc_0 ?_
    refine oj_istore_n hc [(0, .ref (ad 0)), (1, .int a1), (2, .int 0), (3, .int 0)] rfl (by decide) dX9_count_114 rfl ?_
    refine oj_sub [0, 2, 3] rfl ?_
    exact wk_X9_count_115 hc _ hret 0 0
  refine oj_ite (fun hw20 => ?_) (fun hw20 => ?_)
  · refine oj_tableIn hc 151 dX9_count_3 (by rw [hw20]; decide) (by rw [hw20]; decide) (by rw [hw20]; rfl) (by decide) ?_
    refine oj_aload_n hc dX9_count_151 rfl 0 rfl ?_
    refine oj_getf hc ff_X9_138 mC_Model rfl dX9_count_152 ?_
    exact hret _ _ _ rfl dX9_count_155
  refine oj_ite (fun hw21 => ?_) (fun hw21 => ?_)
  · refine oj_tableIn hc 156 dX9_count_3 (by rw [hw21]; decide) (by rw [hw21]; decide) (by rw [hw21]; rfl) (by decide) ?_
    refine oj_aload_n hc dX9_count_156 rfl 0 rfl ?_
    refine oj_getf hc ff_X9_146 mC_Model rfl dX9_count_157 ?_
    exact hret _ _ _ rfl dX9_count_160
  refine oj_ite (fun hw22 => ?_) (fun hw22 => ?_)
  · refine oj_tableIn hc 161 dX9_count_3 (by rw [hw22]; decide) (by rw [hw22]; decide) (by rw [hw22]; rfl) (by decide) ?_
    refine oj_aload_n hc dX9_count_161 rfl 0 rfl ?_
    refine oj_cV1 hc cv_X9_156 (by omega) mC_Model [] [] rfl rfl (Nat.le_of_ble_eq_true rfl) dX9_count_162 (c_X9_harm σ) (fun r9 => ?_)
    exact hret _ _ _ rfl dX9_count_165
  refine oj_ite (fun hw23 => ?_) (fun hw23 => ?_)
  · refine oj_tableIn hc 166 dX9_count_3 (by rw [hw23]; decide) (by rw [hw23]; decide) (by rw [hw23]; rfl) (by decide) ?_
    refine oj_aload_n hc dX9_count_166 rfl 0 rfl ?_
    refine oj_cV1 hc cv_X9_186 (by omega) mC_Model [] [] rfl rfl (Nat.le_of_ble_eq_true rfl) dX9_count_167 (c_X9_billAll σ) (fun r10 => ?_)
    exact hret _ _ _ rfl dX9_count_170
  refine oj_ite (fun hw24 => ?_) (fun hw24 => ?_)
  · refine oj_tableIn hc 171 dX9_count_3 (by rw [hw24]; decide) (by rw [hw24]; decide) (by rw [hw24]; rfl) (by decide) ?_
    refine oj_iconst hc 0 dX9_count_171 kc_0 ?_
    refine oj_istore_n hc [(0, .ref (ad 0)), (1, .int a1), (2, .int 0), (3, .int 0)] rfl (by decide) dX9_count_172 rfl ?_
    refine oj_sub [0, 2, 3] rfl ?_
    exact wk_X9_count_173 hc _ hret 0 0
  refine oj_ite (fun hw25 => ?_) (fun hw25 => ?_)
  · refine oj_tableIn hc 204 dX9_count_3 (by rw [hw25]; decide) (by rw [hw25]; decide) (by rw [hw25]; rfl) (by decide) ?_
    refine oj_aload_n hc dX9_count_204 rfl 0 rfl ?_
    refine oj_getf hc ff_X9_107 mC_Model rfl dX9_count_205 ?_
    exact hret _ _ _ rfl dX9_count_208
  refine oj_tableOut hc 209 dX9_count_3 (oj_sw 0 10 11 (by decide) (fun k hk => match k, hk with | 0, _ => hw15 | 1, _ => hw16 | 2, _ => hw17 | 3, _ => hw18 | 4, _ => hw19 | 5, _ => hw20 | 6, _ => hw21 | 7, _ => hw22 | 8, _ => hw23 | 9, _ => hw24 | 10, _ => hw25 | k + 11, hk => absurd hk (by omega))) (by decide) ?_
  refine oj_iconst hc (-1) dX9_count_209 kc_m1 ?_
  exact hret _ _ _ rfl dX9_count_210
set_option maxRecDepth 100000 in
theorem c_X9_count {l : Launch} {D : va_G} {E : ojE} {ad : Nat → Nat} (a1 : Int32) (σ : ojS) : ∀ (r : Int32), f_X9_count a1 σ = some r → ojMi (vM_ l D E ad) yX9_count cX9_count 4 (some .int) 3 [.ref (ad 0), .int a1] σ r σ :=
  ojMi_R (by decide +kernel) rfl .int rfl (Nat.le_of_ble_eq_true rfl) rfl (fun X Q hc hret => wk_X9_count hc σ hret a1)
