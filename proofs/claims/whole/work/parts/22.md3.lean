def f_X9_harm_4 (a1 : Int32) (a2 : Int32) (σ : ojS) : Option (Int32) :=
  ojFix (fun _ _ => none) 600 (fun (rec_4 : Int32 → Int32 → Option (Int32)) (v1_4 : Int32) (v2_4 : Int32) =>
    if 96 ≤ v2_4 then
      some (v1_4 / 1000)
    else
      ojChk v2_4 96 (
        ojChk v2_4 96 (
          ojLet (v1_4 + ((σ 2 v2_4.toNatClampNeg) * (σ 1 v2_4.toNatClampNeg))) (fun (x1 : Int32) =>
            ojLet (v2_4 + 1) (fun (x2 : Int32) =>
              rec_4 x1 x2))))) a1 a2
set_option maxRecDepth 100000 in
set_option maxHeartbeats 4000000 in
theorem wk_X9_harm_4 {l : Launch} {D : va_G} {E : ojE} {ad : Nat → Nat} {X : ojX} {Q : Int32 → State → Prop} (hc : ojC X (vM_ l D E ad) RX9 cX9_harm 3 1) (σ : ojS) (hret : ojRr X (vM_ l D E ad) Q cX9_harm .int σ) (a1 : Int32) (a2 : Int32) : ojJ X (vM_ l D E ad) Q (f_X9_harm_4 a1 a2 σ) σ 4 [(0, .ref (ad 0)), (1, .int a1), (2, .int a2)] [] := by
  unfold f_X9_harm_4
  refine oj_fix (fun (r : Int32 → Int32 → Option (Int32)) => ∀ (v1_4 : Int32) (v2_4 : Int32), ojJ X (vM_ l D E ad) Q (r v1_4 v2_4) σ 4 [(0, .ref (ad 0)), (1, .int v1_4), (2, .int v2_4)] []) _ (fun _ _ => oj_none) (fun rec_4 hrec_4 v1_4 v2_4 => ?_) 600 a1 a2
  refine oj_iload_n hc dX9_harm_4 rfl 2 rfl ?_
  refine oj_bipush hc 96 dX9_harm_5 kb_96 ?_
  refine oj_icmp_ge hc 32 dX9_harm_7 (by decide) (fun _ => ?_) ?_
  · refine oj_iload_n hc dX9_harm_32 rfl 1 rfl ?_
    refine oj_sipush hc 1000 dX9_harm_33 ks_1000 ?_
    refine oj_idiv hc dX9_harm_36 (by decide) ?_
    exact hret _ _ _ rfl dX9_harm_37
  · refine oj_iload_n hc dX9_harm_10 rfl 1 rfl ?_
    refine oj_aload_n hc dX9_harm_11 rfl 0 rfl ?_
    refine oj_getf hc ff_X9_13 mC_Model rfl dX9_harm_12 ?_
    refine oj_iload_n hc dX9_harm_15 rfl 2 rfl ?_
    refine oj_iald hc 0 mC_m_oil rfl dX9_harm_16 ?_
    refine oj_aload_n hc dX9_harm_17 rfl 0 rfl ?_
    refine oj_getf hc ff_X9_9 mC_Model rfl dX9_harm_18 ?_
    refine oj_iload_n hc dX9_harm_21 rfl 2 rfl ?_
    refine oj_iald hc 0 mC_m_rank rfl dX9_harm_22 ?_
    refine oj_imul hc dX9_harm_23 ?_
    refine oj_iadd hc dX9_harm_24 ?_
    refine oj_nm (fun x1 => ?_)
    refine oj_istore_n hc [(0, .ref (ad 0)), (1, .int x1), (2, .int v2_4)] rfl (by decide) dX9_harm_25 rfl ?_
    refine oj_iinc hc 1 (fun u => [(0, .ref (ad 0)), (1, .int x1), (2, .int u)]) 2 rfl kc_1 (fun _ => rfl) (by decide) dX9_harm_26 (fun x2 => ?_)
    refine oj_goto hc 4 dX9_harm_29 (by decide) ?_
    exact hrec_4 x1 x2
def f_X9_harm (σ : ojS) : Option (Int32) :=
  f_X9_harm_4 0 0 σ
set_option maxRecDepth 100000 in
set_option maxHeartbeats 4000000 in
theorem wk_X9_harm {l : Launch} {D : va_G} {E : ojE} {ad : Nat → Nat} {X : ojX} {Q : Int32 → State → Prop} (hc : ojC X (vM_ l D E ad) RX9 cX9_harm 3 1) (σ : ojS) (hret : ojRr X (vM_ l D E ad) Q cX9_harm .int σ)  : ojJ X (vM_ l D E ad) Q (f_X9_harm σ) σ 0 [(0, .ref (ad 0))] [] := by
  unfold f_X9_harm
  refine oj_iconst hc 0 dX9_harm_0 kc_0 ?_
  refine oj_istore_n hc [(0, .ref (ad 0)), (1, .int 0)] rfl (by decide) dX9_harm_1 rfl ?_
  refine oj_iconst hc 0 dX9_harm_2 kc_0 ?_
  refine oj_istore_n hc [(0, .ref (ad 0)), (1, .int 0), (2, .int 0)] rfl (by decide) dX9_harm_3 rfl ?_
  exact wk_X9_harm_4 hc _ hret 0 0
set_option maxRecDepth 100000 in
theorem c_X9_harm {l : Launch} {D : va_G} {E : ojE} {ad : Nat → Nat}  (σ : ojS) : ∀ (r : Int32), f_X9_harm σ = some r → ojMi (vM_ l D E ad) yX9_harm cX9_harm 3 (some .int) 1 [.ref (ad 0)] σ r σ :=
  ojMi_R (by decide +kernel) rfl .int rfl (Nat.le_of_ble_eq_true rfl) rfl (fun X Q hc hret => wk_X9_harm hc σ hret)

def f_X9_keeps_101 (a2 : Int32) (σ : ojS) : Option (ojS) :=
  ojLet (a2 + 12) (fun (x3 : Int32) =>
    ojChk x3 448 (ojLet (ojU σ 22 x3.toNatClampNeg (σ 0 0)) (fun (σ4 : ojS) =>
      ojChk (x3 + 1) 448 (ojLet (ojU σ4 22 (x3 + 1).toNatClampNeg (σ4 0 11)) (fun (σ5 : ojS) =>
        ojChk (x3 + 2) 448 (ojLet (ojU σ5 22 (x3 + 2).toNatClampNeg (σ5 0 12)) (fun (σ6 : ojS) =>
          ojChk (x3 + 3) 448 (ojLet (ojU σ6 22 (x3 + 3).toNatClampNeg (σ6 0 13)) (fun (σ7 : ojS) =>
            some σ7)))))))))
set_option maxRecDepth 100000 in
set_option maxHeartbeats 4000000 in
theorem wk_X9_keeps_101 {l : Launch} {D : va_G} {E : ojE} {ad : Nat → Nat} {X : ojX} {Q : ojS → State → Prop} (hc : ojC X (vM_ l D E ad) RX9 cX9_keeps 4 1) (hret : ojRv X (vM_ l D E ad) Q cX9_keeps) (a2 : Int32) (σ : ojS) : ojJ X (vM_ l D E ad) Q (f_X9_keeps_101 a2 σ) σ 101 [(0, .ref (ad 0)), (2, .int a2)] [] := by
  unfold f_X9_keeps_101
  refine oj_iinc hc 12 (fun u => [(0, .ref (ad 0)), (2, .int u)]) 1 rfl kc_12 (fun _ => rfl) (by decide) dX9_keeps_101 (fun x3 => ?_)
  refine oj_aload_n hc dX9_keeps_104 rfl 0 rfl ?_
  refine oj_getf hc ff_X9_78 mC_Model rfl dX9_keeps_105 ?_
  refine oj_iload_n hc dX9_keeps_108 rfl 1 rfl ?_
  refine oj_aload_n hc dX9_keeps_109 rfl 0 rfl ?_
  refine oj_getf hc ff_X9_104 mC_Model rfl dX9_keeps_110 ?_
  refine oj_iast hc 0 mC_m_kept mC_m_kept_s rfl rfl dX9_keeps_113 (fun σ4 => ?_)
  refine oj_aload_n hc dX9_keeps_114 rfl 0 rfl ?_
  refine oj_getf hc ff_X9_78 mC_Model rfl dX9_keeps_115 ?_
  refine oj_iload_n hc dX9_keeps_118 rfl 1 rfl ?_
  refine oj_iconst hc 1 dX9_keeps_119 kc_1 ?_
  refine oj_iadd hc dX9_keeps_120 ?_
  refine oj_aload_n hc dX9_keeps_121 rfl 0 rfl ?_
  refine oj_getf hc ff_X9_143 mC_Model rfl dX9_keeps_122 ?_
  refine oj_iast hc 0 mC_m_kept mC_m_kept_s rfl rfl dX9_keeps_125 (fun σ5 => ?_)
  refine oj_aload_n hc dX9_keeps_126 rfl 0 rfl ?_
  refine oj_getf hc ff_X9_78 mC_Model rfl dX9_keeps_127 ?_
  refine oj_iload_n hc dX9_keeps_130 rfl 1 rfl ?_
  refine oj_iconst hc 2 dX9_keeps_131 kc_2 ?_
  refine oj_iadd hc dX9_keeps_132 ?_
  refine oj_aload_n hc dX9_keeps_133 rfl 0 rfl ?_
  refine oj_getf hc ff_X9_138 mC_Model rfl dX9_keeps_134 ?_
  refine oj_iast hc 0 mC_m_kept mC_m_kept_s rfl rfl dX9_keeps_137 (fun σ6 => ?_)
  refine oj_aload_n hc dX9_keeps_138 rfl 0 rfl ?_
  refine oj_getf hc ff_X9_78 mC_Model rfl dX9_keeps_139 ?_
  refine oj_iload_n hc dX9_keeps_142 rfl 1 rfl ?_
  refine oj_iconst hc 3 dX9_keeps_143 kc_3 ?_
  refine oj_iadd hc dX9_keeps_144 ?_
  refine oj_aload_n hc dX9_keeps_145 rfl 0 rfl ?_
  refine oj_getf hc ff_X9_146 mC_Model rfl dX9_keeps_146 ?_
  refine oj_iast hc 0 mC_m_kept mC_m_kept_s rfl rfl dX9_keeps_149 (fun σ7 => ?_)
  exact hret _ _ _ dX9_keeps_150
def f_X9_keeps_38 (a2 : Int32) (a3 : Int32) (σ : ojS) : Option (ojS) :=
  ojFix (fun _ _ => none) 600 (fun (rec_38 : Int32 → ojS → Option (ojS)) (v3_38 : Int32) (σ_38 : ojS) =>
    if 4 ≤ v3_38 then
      f_X9_keeps_101 a2 σ_38
    else
      ojChk v3_38 4 (
        ojChk (a2 + (3 * v3_38)) 448 (ojLet (ojU σ_38 22 (a2 + (3 * v3_38)).toNatClampNeg (σ_38 9 v3_38.toNatClampNeg)) (fun (σ8 : ojS) =>
          ojChk v3_38 4 (
            ojChk ((a2 + (3 * v3_38)) + 1) 448 (ojLet (ojU σ8 22 ((a2 + (3 * v3_38)) + 1).toNatClampNeg (σ8 13 v3_38.toNatClampNeg)) (fun (σ9 : ojS) =>
              ojChk v3_38 4 (
                ojChk ((a2 + (3 * v3_38)) + 2) 448 (ojLet (ojU σ9 22 ((a2 + (3 * v3_38)) + 2).toNatClampNeg (σ9 14 v3_38.toNatClampNeg)) (fun (σ10 : ojS) =>
                  ojLet (v3_38 + 1) (fun (x11 : Int32) =>
                    rec_38 x11 σ10))))))))))) a3 σ
set_option maxRecDepth 100000 in
set_option maxHeartbeats 4000000 in
theorem wk_X9_keeps_38 {l : Launch} {D : va_G} {E : ojE} {ad : Nat → Nat} {X : ojX} {Q : ojS → State → Prop} (hc : ojC X (vM_ l D E ad) RX9 cX9_keeps 4 1) (hret : ojRv X (vM_ l D E ad) Q cX9_keeps) (a2 : Int32) (a3 : Int32) (σ : ojS) : ojJ X (vM_ l D E ad) Q (f_X9_keeps_38 a2 a3 σ) σ 38 [(0, .ref (ad 0)), (2, .int a2), (3, .int a3)] [] := by
  unfold f_X9_keeps_38
  refine oj_fix (fun (r : Int32 → ojS → Option (ojS)) => ∀ (v3_38 : Int32) (σ_38 : ojS), ojJ X (vM_ l D E ad) Q (r v3_38 σ_38) σ_38 38 [(0, .ref (ad 0)), (2, .int a2), (3, .int v3_38)] []) _ (fun _ _ => oj_none) (fun rec_38 hrec_38 v3_38 σ_38 => ?_) 600 a3 σ
  refine oj_iload_n hc dX9_keeps_38 rfl 2 rfl ?_
  refine oj_iconst hc 4 dX9_keeps_39 kc_4 ?_
  refine oj_icmp_ge hc 101 dX9_keeps_40 (by decide) (fun _ => ?_) ?_
  · refine oj_sub [0, 1] rfl ?_
    exact wk_X9_keeps_101 hc hret a2 σ_38
  · refine oj_aload_n hc dX9_keeps_43 rfl 0 rfl ?_
    refine oj_getf hc ff_X9_78 mC_Model rfl dX9_keeps_44 ?_
    refine oj_iload_n hc dX9_keeps_47 rfl 1 rfl ?_
    refine oj_iconst hc 3 dX9_keeps_48 kc_3 ?_
    refine oj_iload_n hc dX9_keeps_49 rfl 2 rfl ?_
    refine oj_imul hc dX9_keeps_50 ?_
    refine oj_iadd hc dX9_keeps_51 ?_
    refine oj_aload_n hc dX9_keeps_52 rfl 0 rfl ?_
    refine oj_getf hc ff_X9_39 mC_Model rfl dX9_keeps_53 ?_
    refine oj_iload_n hc dX9_keeps_56 rfl 2 rfl ?_
    refine oj_iald hc 0 mC_m_at rfl dX9_keeps_57 ?_
    refine oj_iast hc 0 mC_m_kept mC_m_kept_s rfl rfl dX9_keeps_58 (fun σ8 => ?_)
    refine oj_aload_n hc dX9_keeps_59 rfl 0 rfl ?_
    refine oj_getf hc ff_X9_78 mC_Model rfl dX9_keeps_60 ?_
    refine oj_iload_n hc dX9_keeps_63 rfl 1 rfl ?_
    refine oj_iconst hc 3 dX9_keeps_64 kc_3 ?_
    refine oj_iload_n hc dX9_keeps_65 rfl 2 rfl ?_
    refine oj_imul hc dX9_keeps_66 ?_
    refine oj_iadd hc dX9_keeps_67 ?_
    refine oj_iconst hc 1 dX9_keeps_68 kc_1 ?_
    refine oj_iadd hc dX9_keeps_69 ?_
    refine oj_aload_n hc dX9_keeps_70 rfl 0 rfl ?_
    refine oj_getf hc ff_X9_51 mC_Model rfl dX9_keeps_71 ?_
    refine oj_iload_n hc dX9_keeps_74 rfl 2 rfl ?_
    refine oj_iald hc 0 mC_m_has rfl dX9_keeps_75 ?_
    refine oj_iast hc 0 mC_m_kept mC_m_kept_s rfl rfl dX9_keeps_76 (fun σ9 => ?_)
    refine oj_aload_n hc dX9_keeps_77 rfl 0 rfl ?_
    refine oj_getf hc ff_X9_78 mC_Model rfl dX9_keeps_78 ?_
    refine oj_iload_n hc dX9_keeps_81 rfl 1 rfl ?_
    refine oj_iconst hc 3 dX9_keeps_82 kc_3 ?_
    refine oj_iload_n hc dX9_keeps_83 rfl 2 rfl ?_
    refine oj_imul hc dX9_keeps_84 ?_
    refine oj_iadd hc dX9_keeps_85 ?_
    refine oj_iconst hc 2 dX9_keeps_86 kc_2 ?_
    refine oj_iadd hc dX9_keeps_87 ?_
    refine oj_aload_n hc dX9_keeps_88 rfl 0 rfl ?_
    refine oj_getf hc ff_X9_54 mC_Model rfl dX9_keeps_89 ?_
    refine oj_iload_n hc dX9_keeps_92 rfl 2 rfl ?_
    refine oj_iald hc 0 mC_m_took rfl dX9_keeps_93 ?_
    refine oj_iast hc 0 mC_m_kept mC_m_kept_s rfl rfl dX9_keeps_94 (fun σ10 => ?_)
    refine oj_iinc hc 1 (fun u => [(0, .ref (ad 0)), (2, .int a2), (3, .int u)]) 2 rfl kc_1 (fun _ => rfl) (by decide) dX9_keeps_95 (fun x11 => ?_)
    refine oj_goto hc 38 dX9_keeps_98 (by decide) ?_
    exact hrec_38 x11 σ10
def f_X9_keeps_33 (a2 : Int32) (σ : ojS) : Option (ojS) :=
  ojLet (a2 + 96) (fun (x2 : Int32) =>
    f_X9_keeps_38 x2 0 σ)
set_option maxRecDepth 100000 in
set_option maxHeartbeats 4000000 in
theorem wk_X9_keeps_33 {l : Launch} {D : va_G} {E : ojE} {ad : Nat → Nat} {X : ojX} {Q : ojS → State → Prop} (hc : ojC X (vM_ l D E ad) RX9 cX9_keeps 4 1) (hret : ojRv X (vM_ l D E ad) Q cX9_keeps) (a2 : Int32) (σ : ojS) : ojJ X (vM_ l D E ad) Q (f_X9_keeps_33 a2 σ) σ 33 [(0, .ref (ad 0)), (2, .int a2)] [] := by
  unfold f_X9_keeps_33
  refine oj_iinc hc 96 (fun u => [(0, .ref (ad 0)), (2, .int u)]) 1 rfl kc_96 (fun _ => rfl) (by decide) dX9_keeps_33 (fun x2 => ?_)
  refine oj_iconst hc 0 dX9_keeps_36 kc_0 ?_
  refine oj_istore_n hc [(0, .ref (ad 0)), (2, .int x2), (3, .int 0)] rfl (by decide) dX9_keeps_37 rfl ?_
  exact wk_X9_keeps_38 hc hret x2 0 σ
def f_X9_keeps_7 (a2 : Int32) (a3 : Int32) (σ : ojS) : Option (ojS) :=
  ojFix (fun _ _ => none) 600 (fun (rec_7 : Int32 → ojS → Option (ojS)) (v3_7 : Int32) (σ_7 : ojS) =>
    if 96 ≤ v3_7 then
      f_X9_keeps_33 a2 σ_7
    else
      ojChk v3_7 96 (
        ojChk (a2 + v3_7) 448 (ojLet (ojU σ_7 22 (a2 + v3_7).toNatClampNeg (σ_7 2 v3_7.toNatClampNeg)) (fun (σ12 : ojS) =>
          ojLet (v3_7 + 1) (fun (x13 : Int32) =>
            rec_7 x13 σ12))))) a3 σ
set_option maxRecDepth 100000 in
set_option maxHeartbeats 4000000 in
theorem wk_X9_keeps_7 {l : Launch} {D : va_G} {E : ojE} {ad : Nat → Nat} {X : ojX} {Q : ojS → State → Prop} (hc : ojC X (vM_ l D E ad) RX9 cX9_keeps 4 1) (hret : ojRv X (vM_ l D E ad) Q cX9_keeps) (a2 : Int32) (a3 : Int32) (σ : ojS) : ojJ X (vM_ l D E ad) Q (f_X9_keeps_7 a2 a3 σ) σ 7 [(0, .ref (ad 0)), (2, .int a2), (3, .int a3)] [] := by
  unfold f_X9_keeps_7
  refine oj_fix (fun (r : Int32 → ojS → Option (ojS)) => ∀ (v3_7 : Int32) (σ_7 : ojS), ojJ X (vM_ l D E ad) Q (r v3_7 σ_7) σ_7 7 [(0, .ref (ad 0)), (2, .int a2), (3, .int v3_7)] []) _ (fun _ _ => oj_none) (fun rec_7 hrec_7 v3_7 σ_7 => ?_) 600 a3 σ
  refine oj_iload_n hc dX9_keeps_7 rfl 2 rfl ?_
  refine oj_bipush hc 96 dX9_keeps_8 kb_96 ?_
  refine oj_icmp_ge hc 33 dX9_keeps_10 (by decide) (fun _ => ?_) ?_
  · refine oj_sub [0, 1] rfl ?_
    exact wk_X9_keeps_33 hc hret a2 σ_7
  · refine oj_aload_n hc dX9_keeps_13 rfl 0 rfl ?_
    refine oj_getf hc ff_X9_78 mC_Model rfl dX9_keeps_14 ?_
    refine oj_iload_n hc dX9_keeps_17 rfl 1 rfl ?_
    refine oj_iload_n hc dX9_keeps_18 rfl 2 rfl ?_
    refine oj_iadd hc dX9_keeps_19 ?_
    refine oj_aload_n hc dX9_keeps_20 rfl 0 rfl ?_
    refine oj_getf hc ff_X9_13 mC_Model rfl dX9_keeps_21 ?_
    refine oj_iload_n hc dX9_keeps_24 rfl 2 rfl ?_
    refine oj_iald hc 0 mC_m_oil rfl dX9_keeps_25 ?_
    refine oj_iast hc 0 mC_m_kept mC_m_kept_s rfl rfl dX9_keeps_26 (fun σ12 => ?_)
    refine oj_iinc hc 1 (fun u => [(0, .ref (ad 0)), (2, .int a2), (3, .int u)]) 2 rfl kc_1 (fun _ => rfl) (by decide) dX9_keeps_27 (fun x13 => ?_)
    refine oj_goto hc 7 dX9_keeps_30 (by decide) ?_
    exact hrec_7 x13 σ12
def f_X9_keeps (a1 : Int32) (σ : ojS) : Option (ojS) :=
  ojLet (112 * a1) (fun (x1 : Int32) =>
    f_X9_keeps_7 x1 0 σ)
set_option maxRecDepth 100000 in
set_option maxHeartbeats 4000000 in
theorem wk_X9_keeps {l : Launch} {D : va_G} {E : ojE} {ad : Nat → Nat} {X : ojX} {Q : ojS → State → Prop} (hc : ojC X (vM_ l D E ad) RX9 cX9_keeps 4 1) (hret : ojRv X (vM_ l D E ad) Q cX9_keeps) (a1 : Int32) (σ : ojS) : ojJ X (vM_ l D E ad) Q (f_X9_keeps a1 σ) σ 0 [(0, .ref (ad 0)), (1, .int a1)] [] := by
  unfold f_X9_keeps
  refine oj_bipush hc 112 dX9_keeps_0 kb_112 ?_
  refine oj_iload_n hc dX9_keeps_2 rfl 1 rfl ?_
  refine oj_imul hc dX9_keeps_3 ?_
  refine oj_nm (fun x1 => ?_)
  refine oj_istore_n hc [(0, .ref (ad 0)), (1, .int a1), (2, .int x1)] rfl (by decide) dX9_keeps_4 rfl ?_
  refine oj_iconst hc 0 dX9_keeps_5 kc_0 ?_
  refine oj_istore_n hc [(0, .ref (ad 0)), (1, .int a1), (2, .int x1), (3, .int 0)] rfl (by decide) dX9_keeps_6 rfl ?_
  refine oj_sub [0, 2, 3] rfl ?_
  exact wk_X9_keeps_7 hc hret x1 0 σ
set_option maxRecDepth 100000 in
theorem c_X9_keeps {l : Launch} {D : va_G} {E : ojE} {ad : Nat → Nat} (a1 : Int32) (σ : ojS) : ∀ (σ1 : ojS), f_X9_keeps a1 σ = some σ1 → ojMv (vM_ l D E ad) yX9_keeps cX9_keeps 4 none 1 [.ref (ad 0), .int a1] σ σ1 :=
  ojMv_W (by decide +kernel) rfl rfl (Nat.le_of_ble_eq_true rfl) rfl (fun X Q hc hret => wk_X9_keeps hc hret a1 σ)

def f_X9_back_101 (a2 : Int32) (σ : ojS) : Option (ojS) :=
  ojLet (a2 + 12) (fun (x3 : Int32) =>
    ojChk x3 448 (
      ojLet (ojU σ 0 0 (σ 22 x3.toNatClampNeg)) (fun (σ4 : ojS) =>
        ojChk (x3 + 1) 448 (
          ojLet (ojU σ4 0 11 (σ4 22 (x3 + 1).toNatClampNeg)) (fun (σ5 : ojS) =>
            ojChk (x3 + 2) 448 (
              ojLet (ojU σ5 0 12 (σ5 22 (x3 + 2).toNatClampNeg)) (fun (σ6 : ojS) =>
                ojChk (x3 + 3) 448 (
                  ojLet (ojU σ6 0 13 (σ6 22 (x3 + 3).toNatClampNeg)) (fun (σ7 : ojS) =>
                    some σ7)))))))))
set_option maxRecDepth 100000 in
set_option maxHeartbeats 4000000 in
theorem wk_X9_back_101 {l : Launch} {D : va_G} {E : ojE} {ad : Nat → Nat} {X : ojX} {Q : ojS → State → Prop} (hc : ojC X (vM_ l D E ad) RX9 cX9_back 4 1) (hret : ojRv X (vM_ l D E ad) Q cX9_back) (a2 : Int32) (σ : ojS) : ojJ X (vM_ l D E ad) Q (f_X9_back_101 a2 σ) σ 101 [(0, .ref (ad 0)), (2, .int a2)] [] := by
  unfold f_X9_back_101
  refine oj_iinc hc 12 (fun u => [(0, .ref (ad 0)), (2, .int u)]) 1 rfl kc_12 (fun _ => rfl) (by decide) dX9_back_101 (fun x3 => ?_)
  refine oj_aload_n hc dX9_back_104 rfl 0 rfl ?_
  refine oj_aload_n hc dX9_back_105 rfl 0 rfl ?_
  refine oj_getf hc ff_X9_78 mC_Model rfl dX9_back_106 ?_
  refine oj_iload_n hc dX9_back_109 rfl 1 rfl ?_
  refine oj_iald hc 0 mC_m_kept rfl dX9_back_110 ?_
  refine oj_putf hc fp_X9_104 mC_Model mC_Model_s0 rfl rfl (Nat.le_of_ble_eq_true rfl) dX9_back_111 (fun σ4 => ?_)
  refine oj_aload_n hc dX9_back_114 rfl 0 rfl ?_
  refine oj_aload_n hc dX9_back_115 rfl 0 rfl ?_
  refine oj_getf hc ff_X9_78 mC_Model rfl dX9_back_116 ?_
  refine oj_iload_n hc dX9_back_119 rfl 1 rfl ?_
  refine oj_iconst hc 1 dX9_back_120 kc_1 ?_
  refine oj_iadd hc dX9_back_121 ?_
  refine oj_iald hc 0 mC_m_kept rfl dX9_back_122 ?_
  refine oj_putf hc fp_X9_143 mC_Model mC_Model_s11 rfl rfl (Nat.le_of_ble_eq_true rfl) dX9_back_123 (fun σ5 => ?_)
  refine oj_aload_n hc dX9_back_126 rfl 0 rfl ?_
  refine oj_aload_n hc dX9_back_127 rfl 0 rfl ?_
  refine oj_getf hc ff_X9_78 mC_Model rfl dX9_back_128 ?_
  refine oj_iload_n hc dX9_back_131 rfl 1 rfl ?_
  refine oj_iconst hc 2 dX9_back_132 kc_2 ?_
  refine oj_iadd hc dX9_back_133 ?_
  refine oj_iald hc 0 mC_m_kept rfl dX9_back_134 ?_
  refine oj_putf hc fp_X9_138 mC_Model mC_Model_s12 rfl rfl (Nat.le_of_ble_eq_true rfl) dX9_back_135 (fun σ6 => ?_)
  refine oj_aload_n hc dX9_back_138 rfl 0 rfl ?_
  refine oj_aload_n hc dX9_back_139 rfl 0 rfl ?_
  refine oj_getf hc ff_X9_78 mC_Model rfl dX9_back_140 ?_
  refine oj_iload_n hc dX9_back_143 rfl 1 rfl ?_
  refine oj_iconst hc 3 dX9_back_144 kc_3 ?_
  refine oj_iadd hc dX9_back_145 ?_
  refine oj_iald hc 0 mC_m_kept rfl dX9_back_146 ?_
  refine oj_putf hc fp_X9_146 mC_Model mC_Model_s13 rfl rfl (Nat.le_of_ble_eq_true rfl) dX9_back_147 (fun σ7 => ?_)
  exact hret _ _ _ dX9_back_150
def f_X9_back_38 (a2 : Int32) (a3 : Int32) (σ : ojS) : Option (ojS) :=
  ojFix (fun _ _ => none) 600 (fun (rec_38 : Int32 → ojS → Option (ojS)) (v3_38 : Int32) (σ_38 : ojS) =>
    if 4 ≤ v3_38 then
      f_X9_back_101 a2 σ_38
    else
      ojChk (a2 + (3 * v3_38)) 448 (
        ojChk v3_38 4 (ojLet (ojU σ_38 9 v3_38.toNatClampNeg (σ_38 22 (a2 + (3 * v3_38)).toNatClampNeg)) (fun (σ8 : ojS) =>
          ojChk ((a2 + (3 * v3_38)) + 1) 448 (
            ojChk v3_38 4 (ojLet (ojU σ8 13 v3_38.toNatClampNeg (σ8 22 ((a2 + (3 * v3_38)) + 1).toNatClampNeg)) (fun (σ9 : ojS) =>
              ojChk ((a2 + (3 * v3_38)) + 2) 448 (
                ojChk v3_38 4 (ojLet (ojU σ9 14 v3_38.toNatClampNeg (σ9 22 ((a2 + (3 * v3_38)) + 2).toNatClampNeg)) (fun (σ10 : ojS) =>
                  ojLet (v3_38 + 1) (fun (x11 : Int32) =>
                    rec_38 x11 σ10))))))))))) a3 σ
set_option maxRecDepth 100000 in
set_option maxHeartbeats 4000000 in
theorem wk_X9_back_38 {l : Launch} {D : va_G} {E : ojE} {ad : Nat → Nat} {X : ojX} {Q : ojS → State → Prop} (hc : ojC X (vM_ l D E ad) RX9 cX9_back 4 1) (hret : ojRv X (vM_ l D E ad) Q cX9_back) (a2 : Int32) (a3 : Int32) (σ : ojS) : ojJ X (vM_ l D E ad) Q (f_X9_back_38 a2 a3 σ) σ 38 [(0, .ref (ad 0)), (2, .int a2), (3, .int a3)] [] := by
  unfold f_X9_back_38
  refine oj_fix (fun (r : Int32 → ojS → Option (ojS)) => ∀ (v3_38 : Int32) (σ_38 : ojS), ojJ X (vM_ l D E ad) Q (r v3_38 σ_38) σ_38 38 [(0, .ref (ad 0)), (2, .int a2), (3, .int v3_38)] []) _ (fun _ _ => oj_none) (fun rec_38 hrec_38 v3_38 σ_38 => ?_) 600 a3 σ
  refine oj_iload_n hc dX9_back_38 rfl 2 rfl ?_
  refine oj_iconst hc 4 dX9_back_39 kc_4 ?_
  refine oj_icmp_ge hc 101 dX9_back_40 (by decide) (fun _ => ?_) ?_
  · refine oj_sub [0, 1] rfl ?_
    exact wk_X9_back_101 hc hret a2 σ_38
  · refine oj_aload_n hc dX9_back_43 rfl 0 rfl ?_
    refine oj_getf hc ff_X9_39 mC_Model rfl dX9_back_44 ?_
    refine oj_iload_n hc dX9_back_47 rfl 2 rfl ?_
    refine oj_aload_n hc dX9_back_48 rfl 0 rfl ?_
    refine oj_getf hc ff_X9_78 mC_Model rfl dX9_back_49 ?_
    refine oj_iload_n hc dX9_back_52 rfl 1 rfl ?_
    refine oj_iconst hc 3 dX9_back_53 kc_3 ?_
    refine oj_iload_n hc dX9_back_54 rfl 2 rfl ?_
    refine oj_imul hc dX9_back_55 ?_
    refine oj_iadd hc dX9_back_56 ?_
    refine oj_iald hc 0 mC_m_kept rfl dX9_back_57 ?_
    refine oj_iast hc 0 mC_m_at mC_m_at_s rfl rfl dX9_back_58 (fun σ8 => ?_)
    refine oj_aload_n hc dX9_back_59 rfl 0 rfl ?_
    refine oj_getf hc ff_X9_51 mC_Model rfl dX9_back_60 ?_
    refine oj_iload_n hc dX9_back_63 rfl 2 rfl ?_
    refine oj_aload_n hc dX9_back_64 rfl 0 rfl ?_
    refine oj_getf hc ff_X9_78 mC_Model rfl dX9_back_65 ?_
    refine oj_iload_n hc dX9_back_68 rfl 1 rfl ?_
    refine oj_iconst hc 3 dX9_back_69 kc_3 ?_
    refine oj_iload_n hc dX9_back_70 rfl 2 rfl ?_
    refine oj_imul hc dX9_back_71 ?_
    refine oj_iadd hc dX9_back_72 ?_
    refine oj_iconst hc 1 dX9_back_73 kc_1 ?_
    refine oj_iadd hc dX9_back_74 ?_
    refine oj_iald hc 0 mC_m_kept rfl dX9_back_75 ?_
    refine oj_iast hc 0 mC_m_has mC_m_has_s rfl rfl dX9_back_76 (fun σ9 => ?_)
    refine oj_aload_n hc dX9_back_77 rfl 0 rfl ?_
    refine oj_getf hc ff_X9_54 mC_Model rfl dX9_back_78 ?_
    refine oj_iload_n hc dX9_back_81 rfl 2 rfl ?_
    refine oj_aload_n hc dX9_back_82 rfl 0 rfl ?_
    refine oj_getf hc ff_X9_78 mC_Model rfl dX9_back_83 ?_
    refine oj_iload_n hc dX9_back_86 rfl 1 rfl ?_
    refine oj_iconst hc 3 dX9_back_87 kc_3 ?_
    refine oj_iload_n hc dX9_back_88 rfl 2 rfl ?_
    refine oj_imul hc dX9_back_89 ?_
    refine oj_iadd hc dX9_back_90 ?_
    refine oj_iconst hc 2 dX9_back_91 kc_2 ?_
    refine oj_iadd hc dX9_back_92 ?_
    refine oj_iald hc 0 mC_m_kept rfl dX9_back_93 ?_
    refine oj_iast hc 0 mC_m_took mC_m_took_s rfl rfl dX9_back_94 (fun σ10 => ?_)
    refine oj_iinc hc 1 (fun u => [(0, .ref (ad 0)), (2, .int a2), (3, .int u)]) 2 rfl kc_1 (fun _ => rfl) (by decide) dX9_back_95 (fun x11 => ?_)
    refine oj_goto hc 38 dX9_back_98 (by decide) ?_
    exact hrec_38 x11 σ10
def f_X9_back_33 (a2 : Int32) (σ : ojS) : Option (ojS) :=
  ojLet (a2 + 96) (fun (x2 : Int32) =>
    f_X9_back_38 x2 0 σ)
set_option maxRecDepth 100000 in
set_option maxHeartbeats 4000000 in
theorem wk_X9_back_33 {l : Launch} {D : va_G} {E : ojE} {ad : Nat → Nat} {X : ojX} {Q : ojS → State → Prop} (hc : ojC X (vM_ l D E ad) RX9 cX9_back 4 1) (hret : ojRv X (vM_ l D E ad) Q cX9_back) (a2 : Int32) (σ : ojS) : ojJ X (vM_ l D E ad) Q (f_X9_back_33 a2 σ) σ 33 [(0, .ref (ad 0)), (2, .int a2)] [] := by
  unfold f_X9_back_33
  refine oj_iinc hc 96 (fun u => [(0, .ref (ad 0)), (2, .int u)]) 1 rfl kc_96 (fun _ => rfl) (by decide) dX9_back_33 (fun x2 => ?_)
  refine oj_iconst hc 0 dX9_back_36 kc_0 ?_
  refine oj_istore_n hc [(0, .ref (ad 0)), (2, .int x2), (3, .int 0)] rfl (by decide) dX9_back_37 rfl ?_
  exact wk_X9_back_38 hc hret x2 0 σ
def f_X9_back_7 (a2 : Int32) (a3 : Int32) (σ : ojS) : Option (ojS) :=
  ojFix (fun _ _ => none) 600 (fun (rec_7 : Int32 → ojS → Option (ojS)) (v3_7 : Int32) (σ_7 : ojS) =>
    if 96 ≤ v3_7 then
      f_X9_back_33 a2 σ_7
    else
      ojChk (a2 + v3_7) 448 (
        ojChk v3_7 96 (ojLet (ojU σ_7 2 v3_7.toNatClampNeg (σ_7 22 (a2 + v3_7).toNatClampNeg)) (fun (σ12 : ojS) =>
          ojLet (v3_7 + 1) (fun (x13 : Int32) =>
            rec_7 x13 σ12))))) a3 σ
set_option maxRecDepth 100000 in
set_option maxHeartbeats 4000000 in
theorem wk_X9_back_7 {l : Launch} {D : va_G} {E : ojE} {ad : Nat → Nat} {X : ojX} {Q : ojS → State → Prop} (hc : ojC X (vM_ l D E ad) RX9 cX9_back 4 1) (hret : ojRv X (vM_ l D E ad) Q cX9_back) (a2 : Int32) (a3 : Int32) (σ : ojS) : ojJ X (vM_ l D E ad) Q (f_X9_back_7 a2 a3 σ) σ 7 [(0, .ref (ad 0)), (2, .int a2), (3, .int a3)] [] := by
  unfold f_X9_back_7
  refine oj_fix (fun (r : Int32 → ojS → Option (ojS)) => ∀ (v3_7 : Int32) (σ_7 : ojS), ojJ X (vM_ l D E ad) Q (r v3_7 σ_7) σ_7 7 [(0, .ref (ad 0)), (2, .int a2), (3, .int v3_7)] []) _ (fun _ _ => oj_none) (fun rec_7 hrec_7 v3_7 σ_7 => ?_) 600 a3 σ
  refine oj_iload_n hc dX9_back_7 rfl 2 rfl ?_
  refine oj_bipush hc 96 dX9_back_8 kb_96 ?_
  refine oj_icmp_ge hc 33 dX9_back_10 (by decide) (fun _ => ?_) ?_
  · refine oj_sub [0, 1] rfl ?_
    exact wk_X9_back_33 hc hret a2 σ_7
  · refine oj_aload_n hc dX9_back_13 rfl 0 rfl ?_
    refine oj_getf hc ff_X9_13 mC_Model rfl dX9_back_14 ?_
    refine oj_iload_n hc dX9_back_17 rfl 2 rfl ?_
    refine oj_aload_n hc dX9_back_18 rfl 0 rfl ?_
    refine oj_getf hc ff_X9_78 mC_Model rfl dX9_back_19 ?_
    refine oj_iload_n hc dX9_back_22 rfl 1 rfl ?_
    refine oj_iload_n hc dX9_back_23 rfl 2 rfl ?_
    refine oj_iadd hc dX9_back_24 ?_
    refine oj_iald hc 0 mC_m_kept rfl dX9_back_25 ?_
    refine oj_iast hc 0 mC_m_oil mC_m_oil_s rfl rfl dX9_back_26 (fun σ12 => ?_)
    refine oj_iinc hc 1 (fun u => [(0, .ref (ad 0)), (2, .int a2), (3, .int u)]) 2 rfl kc_1 (fun _ => rfl) (by decide) dX9_back_27 (fun x13 => ?_)
    refine oj_goto hc 7 dX9_back_30 (by decide) ?_
    exact hrec_7 x13 σ12
def f_X9_back (a1 : Int32) (σ : ojS) : Option (ojS) :=
  ojLet (112 * a1) (fun (x1 : Int32) =>
    f_X9_back_7 x1 0 σ)
set_option maxRecDepth 100000 in
set_option maxHeartbeats 4000000 in
theorem wk_X9_back {l : Launch} {D : va_G} {E : ojE} {ad : Nat → Nat} {X : ojX} {Q : ojS → State → Prop} (hc : ojC X (vM_ l D E ad) RX9 cX9_back 4 1) (hret : ojRv X (vM_ l D E ad) Q cX9_back) (a1 : Int32) (σ : ojS) : ojJ X (vM_ l D E ad) Q (f_X9_back a1 σ) σ 0 [(0, .ref (ad 0)), (1, .int a1)] [] := by
  unfold f_X9_back
  refine oj_bipush hc 112 dX9_back_0 kb_112 ?_
  refine oj_iload_n hc dX9_back_2 rfl 1 rfl ?_
  refine oj_imul hc dX9_back_3 ?_
  refine oj_nm (fun x1 => ?_)
  refine oj_istore_n hc [(0, .ref (ad 0)), (1, .int a1), (2, .int x1)] rfl (by decide) dX9_back_4 rfl ?_
  refine oj_iconst hc 0 dX9_back_5 kc_0 ?_
  refine oj_istore_n hc [(0, .ref (ad 0)), (1, .int a1), (2, .int x1), (3, .int 0)] rfl (by decide) dX9_back_6 rfl ?_
  refine oj_sub [0, 2, 3] rfl ?_
  exact wk_X9_back_7 hc hret x1 0 σ
set_option maxRecDepth 100000 in
theorem c_X9_back {l : Launch} {D : va_G} {E : ojE} {ad : Nat → Nat} (a1 : Int32) (σ : ojS) : ∀ (σ1 : ojS), f_X9_back a1 σ = some σ1 → ojMv (vM_ l D E ad) yX9_back cX9_back 4 none 1 [.ref (ad 0), .int a1] σ σ1 :=
  ojMv_W (by decide +kernel) rfl rfl (Nat.le_of_ble_eq_true rfl) rfl (fun X Q hc hret => wk_X9_back hc hret a1 σ)

def f_X9_foretold_28 (a1 : Int32) (a2 : Int32) (a3 : Int32) (σ : ojS) : Option (Int32 × ojS) :=
  ojFix (fun _ _ => none) 600 (fun (rec_28 : Int32 → ojS → Option (Int32 × ojS)) (v3_28 : Int32) (σ_28 : ojS) =>
    if a2 ≤ v3_28 then
      ojB1 (f_X9_harm σ_28) (fun (r5 : Int32) =>
        ojBv (f_X9_back 0 σ_28) (fun (σ7 : ojS) =>
          some (r5, σ7)))
    else
      ojBv (f_X9_hour a1 σ_28) (fun (σ9 : ojS) =>
        ojLet (v3_28 + 1) (fun (x10 : Int32) =>
          rec_28 x10 σ9))) a3 σ
set_option maxRecDepth 100000 in
set_option maxHeartbeats 4000000 in
theorem wk_X9_foretold_28 {l : Launch} {D : va_G} {E : ojE} {ad : Nat → Nat} {X : ojX} {Q : Int32 × ojS → State → Prop} (hc : ojC X (vM_ l D E ad) RX9 cX9_foretold 4 4) (hret : ojRi X (vM_ l D E ad) Q cX9_foretold .int) (a1 : Int32) (a2 : Int32) (a3 : Int32) (σ : ojS) : ojJ X (vM_ l D E ad) Q (f_X9_foretold_28 a1 a2 a3 σ) σ 28 [(0, .ref (ad 0)), (1, .int a1), (2, .int a2), (3, .int a3)] [] := by
  unfold f_X9_foretold_28
  refine oj_fix (fun (r : Int32 → ojS → Option (Int32 × ojS)) => ∀ (v3_28 : Int32) (σ_28 : ojS), ojJ X (vM_ l D E ad) Q (r v3_28 σ_28) σ_28 28 [(0, .ref (ad 0)), (1, .int a1), (2, .int a2), (3, .int v3_28)] []) _ (fun _ _ => oj_none) (fun rec_28 hrec_28 v3_28 σ_28 => ?_) 600 a3 σ
  refine oj_iload_n hc dX9_foretold_28 rfl 3 rfl ?_
  refine oj_iload_n hc dX9_foretold_29 rfl 2 rfl ?_
  refine oj_icmp_ge hc 44 dX9_foretold_30 (by decide) (fun _ => ?_) ?_
  · refine oj_aload_n hc dX9_foretold_44 rfl 0 rfl ?_
    refine oj_cV1 hc cv_X9_156 (by omega) mC_Model [] [] rfl rfl (Nat.le_of_ble_eq_true rfl) dX9_foretold_45 (c_X9_harm σ_28) (fun r5 => ?_)
    refine oj_istore_n hc [(0, .ref (ad 0)), (1, .int a1), (2, .int a2), (3, .int r5)] rfl (by decide) dX9_foretold_48 rfl ?_
    refine oj_aload_n hc dX9_foretold_49 rfl 0 rfl ?_
    refine oj_iconst hc 0 dX9_foretold_50 kc_0 ?_
    refine oj_cVv hc cv_X9_160 (by omega) mC_Model [.int 0] [] rfl rfl (Nat.le_of_ble_eq_true rfl) dX9_foretold_51 (c_X9_back 0 σ_28) (fun σ7 => ?_)
    refine oj_iload_n hc dX9_foretold_54 rfl 3 rfl ?_
    exact hret _ _ _ _ rfl dX9_foretold_55
  · refine oj_aload_n hc dX9_foretold_33 rfl 0 rfl ?_
    refine oj_iload_n hc dX9_foretold_34 rfl 1 rfl ?_
    refine oj_cVv hc cv_X9_149 (by omega) mC_Model [.int a1] [] rfl rfl (Nat.le_of_ble_eq_true rfl) dX9_foretold_35 (c_X9_hour a1 σ_28) (fun σ9 => ?_)
    refine oj_iinc hc 1 (fun u => [(0, .ref (ad 0)), (1, .int a1), (2, .int a2), (3, .int u)]) 3 rfl kc_1 (fun _ => rfl) (by decide) dX9_foretold_38 (fun x10 => ?_)
    refine oj_goto hc 28 dX9_foretold_41 (by decide) ?_
    exact hrec_28 x10 σ9
def f_X9_foretold (a1 : Int32) (a2 : Int32) (σ : ojS) : Option (Int32 × ojS) :=
  ojB1 (f_X9_in a1 0 2) (fun (r1 : Int32) =>
    if r1 = 0 then
      some ((-1), σ)
    else
      ojB1 (f_X9_in a2 0 48) (fun (r2 : Int32) =>
        if r2 = 0 then
          some ((-1), σ)
        else
          ojBv (f_X9_keeps 0 σ) (fun (σ4 : ojS) =>
            f_X9_foretold_28 a1 a2 0 σ4)))
set_option maxRecDepth 100000 in
set_option maxHeartbeats 4000000 in
theorem wk_X9_foretold {l : Launch} {D : va_G} {E : ojE} {ad : Nat → Nat} {X : ojX} {Q : Int32 × ojS → State → Prop} (hc : ojC X (vM_ l D E ad) RX9 cX9_foretold 4 4) (hret : ojRi X (vM_ l D E ad) Q cX9_foretold .int) (a1 : Int32) (a2 : Int32) (σ : ojS) : ojJ X (vM_ l D E ad) Q (f_X9_foretold a1 a2 σ) σ 0 [(0, .ref (ad 0)), (1, .int a1), (2, .int a2)] [] := by
  unfold f_X9_foretold
  refine oj_iload_n hc dX9_foretold_0 rfl 1 rfl ?_
  refine oj_iconst hc 0 dX9_foretold_1 kc_0 ?_
  refine oj_iconst hc 2 dX9_foretold_2 kc_2 ?_
  refine oj_cS1 hc cs_X9_93 (by omega) [.int a1, .int 0, .int 2] [] rfl rfl (Nat.le_of_ble_eq_true rfl) dX9_foretold_3 (c_X9_in a1 0 2 σ) (fun r1 => ?_)
  refine oj_if_eq hc 19 dX9_foretold_6 (by decide) (fun _ => ?_) ?_
  · refine oj_iconst hc (-1) dX9_foretold_19 kc_m1 ?_
    exact hret _ _ _ _ rfl dX9_foretold_20
  · refine oj_iload_n hc dX9_foretold_9 rfl 2 rfl ?_
    refine oj_iconst hc 0 dX9_foretold_10 kc_0 ?_
    refine oj_bipush hc 48 dX9_foretold_11 kb_48 ?_
    refine oj_cS1 hc cs_X9_93 (by omega) [.int a2, .int 0, .int 48] [] rfl rfl (Nat.le_of_ble_eq_true rfl) dX9_foretold_13 (c_X9_in a2 0 48 σ) (fun r2 => ?_)
    refine oj_if_ne hc 21 dX9_foretold_16 (by decide) ?_ (fun _ => ?_)
    · refine oj_aload_n hc dX9_foretold_21 rfl 0 rfl ?_
      refine oj_iconst hc 0 dX9_foretold_22 kc_0 ?_
      refine oj_cVv hc cv_X9_153 (by omega) mC_Model [.int 0] [] rfl rfl (Nat.le_of_ble_eq_true rfl) dX9_foretold_23 (c_X9_keeps 0 σ) (fun σ4 => ?_)
      refine oj_iconst hc 0 dX9_foretold_26 kc_0 ?_
      refine oj_istore_n hc [(0, .ref (ad 0)), (1, .int a1), (2, .int a2), (3, .int 0)] rfl (by decide) dX9_foretold_27 rfl ?_
      exact wk_X9_foretold_28 hc hret a1 a2 0 σ4
    · refine oj_iconst hc (-1) dX9_foretold_19 kc_m1 ?_
      exact hret _ _ _ _ rfl dX9_foretold_20
set_option maxRecDepth 100000 in
theorem c_X9_foretold {l : Launch} {D : va_G} {E : ojE} {ad : Nat → Nat} (a1 : Int32) (a2 : Int32) (σ : ojS) : ∀ (r : Int32) (σ1 : ojS), f_X9_foretold a1 a2 σ = some (r, σ1) → ojMi (vM_ l D E ad) yX9_foretold cX9_foretold 4 (some .int) 4 [.ref (ad 0), .int a1, .int a2] σ r σ1 :=
  ojMi_W (by decide +kernel) rfl .int rfl (Nat.le_of_ble_eq_true rfl) rfl (fun X Q hc hret => wk_X9_foretold hc hret a1 a2 σ)

def f_X9_worst_4 (a1 : Int32) (a2 : Int32) (a3 : Int32) (σ : ojS) : Option (Int32 × ojS) :=
  ojFix (fun _ _ _ => none) 600 (fun (rec_4 : Int32 → Int32 → ojS → Option (Int32 × ojS)) (v2_4 : Int32) (v3_4 : Int32) (σ_4 : ojS) =>
    if 3 ≤ v3_4 then
      some (v2_4, σ_4)
    else
      ojB1 (f_X9_in a1 0 48) (fun (r1 : Int32) =>
        if r1 = 0 then
          some (v2_4, σ_4)
        else
          ojB2 (f_X9_foretold v3_4 a1 σ_4) (fun (r2 : Int32) (σ3 : ojS) =>
            if r2 ≤ v2_4 then
              ojLet (v3_4 + 1) (fun (x4 : Int32) =>
                rec_4 v2_4 x4 σ3)
            else
              ojB2 (f_X9_foretold v3_4 a1 σ3) (fun (r5 : Int32) (σ6 : ojS) =>
                ojLet (v3_4 + 1) (fun (x7 : Int32) =>
                  rec_4 r5 x7 σ6))))) a2 a3 σ
set_option maxRecDepth 100000 in
set_option maxHeartbeats 4000000 in
theorem wk_X9_worst_4 {l : Launch} {D : va_G} {E : ojE} {ad : Nat → Nat} {X : ojX} {Q : Int32 × ojS → State → Prop} (hc : ojC X (vM_ l D E ad) RX9 cX9_worst 4 5) (hret : ojRi X (vM_ l D E ad) Q cX9_worst .int) (a1 : Int32) (a2 : Int32) (a3 : Int32) (σ : ojS) : ojJ X (vM_ l D E ad) Q (f_X9_worst_4 a1 a2 a3 σ) σ 4 [(0, .ref (ad 0)), (1, .int a1), (2, .int a2), (3, .int a3)] [] := by
  unfold f_X9_worst_4
  refine oj_fix (fun (r : Int32 → Int32 → ojS → Option (Int32 × ojS)) => ∀ (v2_4 : Int32) (v3_4 : Int32) (σ_4 : ojS), ojJ X (vM_ l D E ad) Q (r v2_4 v3_4 σ_4) σ_4 4 [(0, .ref (ad 0)), (1, .int a1), (2, .int v2_4), (3, .int v3_4)] []) _ (fun _ _ _ => oj_none) (fun rec_4 hrec_4 v2_4 v3_4 σ_4 => ?_) 600 a2 a3 σ
  refine oj_iload_n hc dX9_worst_4 rfl 3 rfl ?_
  refine oj_iconst hc 3 dX9_worst_5 kc_3 ?_
  refine oj_icmp_ge hc 46 dX9_worst_6 (by decide) (fun _ => ?_) ?_
  · refine oj_iload_n hc dX9_worst_46 rfl 2 rfl ?_
    exact hret _ _ _ _ rfl dX9_worst_47
  · refine oj_iload_n hc dX9_worst_9 rfl 1 rfl ?_
    refine oj_iconst hc 0 dX9_worst_10 kc_0 ?_
    refine oj_bipush hc 48 dX9_worst_11 kb_48 ?_
    refine oj_cS1 hc cs_X9_93 (by omega) [.int a1, .int 0, .int 48] [] rfl rfl (Nat.le_of_ble_eq_true rfl) dX9_worst_13 (c_X9_in a1 0 48 σ_4) (fun r1 => ?_)
    refine oj_if_eq hc 46 dX9_worst_16 (by decide) (fun _ => ?_) ?_
    · refine oj_iload_n hc dX9_worst_46 rfl 2 rfl ?_
      exact hret _ _ _ _ rfl dX9_worst_47
    · refine oj_aload_n hc dX9_worst_19 rfl 0 rfl ?_
      refine oj_iload_n hc dX9_worst_20 rfl 3 rfl ?_
      refine oj_iload_n hc dX9_worst_21 rfl 1 rfl ?_
      refine oj_cV2 hc cv_X9_163 (by omega) mC_Model [.int v3_4, .int a1] [] rfl rfl (Nat.le_of_ble_eq_true rfl) dX9_worst_22 (c_X9_foretold v3_4 a1 σ_4) (fun r2 σ3 => ?_)
      refine oj_iload_n hc dX9_worst_25 rfl 2 rfl ?_
      refine oj_icmp_le hc 38 dX9_worst_26 (by decide) (fun _ => ?_) ?_
      · refine oj_iload_n hc dX9_worst_38 rfl 2 rfl ?_
        refine oj_istore_n hc [(0, .ref (ad 0)), (1, .int a1), (2, .int v2_4), (3, .int v3_4)] rfl (by decide) dX9_worst_39 rfl ?_
        refine oj_iinc hc 1 (fun u => [(0, .ref (ad 0)), (1, .int a1), (2, .int v2_4), (3, .int u)]) 3 rfl kc_1 (fun _ => rfl) (by decide) dX9_worst_40 (fun x4 => ?_)
        refine oj_goto hc 4 dX9_worst_43 (by decide) ?_
        exact hrec_4 v2_4 x4 σ3
      · refine oj_aload_n hc dX9_worst_29 rfl 0 rfl ?_
        refine oj_iload_n hc dX9_worst_30 rfl 3 rfl ?_
        refine oj_iload_n hc dX9_worst_31 rfl 1 rfl ?_
        refine oj_cV2 hc cv_X9_163 (by omega) mC_Model [.int v3_4, .int a1] [] rfl rfl (Nat.le_of_ble_eq_true rfl) dX9_worst_32 (c_X9_foretold v3_4 a1 σ3) (fun r5 σ6 => ?_)
        refine oj_goto hc 39 dX9_worst_35 (by decide) ?_
        refine oj_istore_n hc [(0, .ref (ad 0)), (1, .int a1), (2, .int r5), (3, .int v3_4)] rfl (by decide) dX9_worst_39 rfl ?_
        refine oj_iinc hc 1 (fun u => [(0, .ref (ad 0)), (1, .int a1), (2, .int r5), (3, .int u)]) 3 rfl kc_1 (fun _ => rfl) (by decide) dX9_worst_40 (fun x7 => ?_)
        refine oj_goto hc 4 dX9_worst_43 (by decide) ?_
        exact hrec_4 r5 x7 σ6
def f_X9_worst (a1 : Int32) (σ : ojS) : Option (Int32 × ojS) :=
  f_X9_worst_4 a1 (-1) 0 σ
set_option maxRecDepth 100000 in
set_option maxHeartbeats 4000000 in
theorem wk_X9_worst {l : Launch} {D : va_G} {E : ojE} {ad : Nat → Nat} {X : ojX} {Q : Int32 × ojS → State → Prop} (hc : ojC X (vM_ l D E ad) RX9 cX9_worst 4 5) (hret : ojRi X (vM_ l D E ad) Q cX9_worst .int) (a1 : Int32) (σ : ojS) : ojJ X (vM_ l D E ad) Q (f_X9_worst a1 σ) σ 0 [(0, .ref (ad 0)), (1, .int a1)] [] := by
  unfold f_X9_worst
  refine oj_iconst hc (-1) dX9_worst_0 kc_m1 ?_
  refine oj_istore_n hc [(0, .ref (ad 0)), (1, .int a1), (2, .int ((-1)))] rfl (by decide) dX9_worst_1 rfl ?_
  refine oj_iconst hc 0 dX9_worst_2 kc_0 ?_
  refine oj_istore_n hc [(0, .ref (ad 0)), (1, .int a1), (2, .int ((-1))), (3, .int 0)] rfl (by decide) dX9_worst_3 rfl ?_
  exact wk_X9_worst_4 hc hret a1 (-1) 0 σ
set_option maxRecDepth 100000 in
theorem c_X9_worst {l : Launch} {D : va_G} {E : ojE} {ad : Nat → Nat} (a1 : Int32) (σ : ojS) : ∀ (r : Int32) (σ1 : ojS), f_X9_worst a1 σ = some (r, σ1) → ojMi (vM_ l D E ad) yX9_worst cX9_worst 4 (some .int) 5 [.ref (ad 0), .int a1] σ r σ1 :=
  ojMi_W (by decide +kernel) rfl .int rfl (Nat.le_of_ble_eq_true rfl) rfl (fun X Q hc hret => wk_X9_worst hc hret a1 σ)

def f_X9_tries (a1 : Int32) (a2 : Int32) (a3 : Int32) (σ : ojS) : Option (Int32 × ojS) :=
  ojB1 (f_X9_isSea a2 σ) (fun (r1 : Int32) =>
    if r1 = 0 then
      some (0, σ)
    else
      ojChk a1 4 (
        ojChk a1 4 (
          ojB1 (f_X9_canGo (σ 9 a1.toNatClampNeg) a2 (σ 12 a1.toNatClampNeg) σ) (fun (r2 : Int32) =>
            if r2 = 0 then
              some (0, σ)
            else
              ojBv (f_X9_keeps a3 σ) (fun (σ4 : ojS) =>
                ojChk a1 4 (ojLet (ojU σ4 9 a1.toNatClampNeg a2) (fun (σ5 : ojS) =>
                  ojBv (f_X9_hour 0 σ5) (fun (σ7 : ojS) =>
                    some (1, σ7)))))))))
set_option maxRecDepth 100000 in
set_option maxHeartbeats 4000000 in
theorem wk_X9_tries {l : Launch} {D : va_G} {E : ojE} {ad : Nat → Nat} {X : ojX} {Q : Int32 × ojS → State → Prop} (hc : ojC X (vM_ l D E ad) RX9 cX9_tries 4 6) (hret : ojRi X (vM_ l D E ad) Q cX9_tries .boolean) (a1 : Int32) (a2 : Int32) (a3 : Int32) (σ : ojS) : ojJ X (vM_ l D E ad) Q (f_X9_tries a1 a2 a3 σ) σ 0 [(0, .ref (ad 0)), (1, .int a1), (2, .int a2), (3, .int a3)] [] := by
  unfold f_X9_tries
  refine oj_aload_n hc dX9_tries_0 rfl 0 rfl ?_
  refine oj_iload_n hc dX9_tries_1 rfl 2 rfl ?_
  refine oj_cV1 hc cv_X9_110 (by omega) mC_Model [.int a2] [] rfl rfl (Nat.le_of_ble_eq_true rfl) dX9_tries_2 (c_X9_isSea a2 σ) (fun r1 => ?_)
  refine oj_if_eq hc 28 dX9_tries_5 (by decide) (fun _ => ?_) ?_
  · refine oj_iconst hc 0 dX9_tries_28 kc_0 ?_
    exact hret _ _ _ _ rfl dX9_tries_29
  · refine oj_aload_n hc dX9_tries_8 rfl 0 rfl ?_
    refine oj_aload_n hc dX9_tries_9 rfl 0 rfl ?_
    refine oj_getf hc ff_X9_39 mC_Model rfl dX9_tries_10 ?_
    refine oj_iload_n hc dX9_tries_13 rfl 1 rfl ?_
    refine oj_iald hc 0 mC_m_at rfl dX9_tries_14 ?_
    refine oj_iload_n hc dX9_tries_15 rfl 2 rfl ?_
    refine oj_aload_n hc dX9_tries_16 rfl 0 rfl ?_
    refine oj_getf hc ff_X9_48 mC_Model rfl dX9_tries_17 ?_
    refine oj_iload_n hc dX9_tries_20 rfl 1 rfl ?_
    refine oj_iald hc 0 mC_m_speed rfl dX9_tries_21 ?_
    refine oj_cV1 hc cv_X9_135 (by omega) mC_Model [.int (σ 9 a1.toNatClampNeg), .int a2, .int (σ 12 a1.toNatClampNeg)] [] rfl rfl (Nat.le_of_ble_eq_true rfl) dX9_tries_22 (c_X9_canGo (σ 9 a1.toNatClampNeg) a2 (σ 12 a1.toNatClampNeg) σ) (fun r2 => ?_)
    refine oj_if_ne hc 30 dX9_tries_25 (by decide) ?_ (fun _ => ?_)
    · refine oj_aload_n hc dX9_tries_30 rfl 0 rfl ?_
      refine oj_iload_n hc dX9_tries_31 rfl 3 rfl ?_
      refine oj_cVv hc cv_X9_153 (by omega) mC_Model [.int a3] [] rfl rfl (Nat.le_of_ble_eq_true rfl) dX9_tries_32 (c_X9_keeps a3 σ) (fun σ4 => ?_)
      refine oj_aload_n hc dX9_tries_35 rfl 0 rfl ?_
      refine oj_getf hc ff_X9_39 mC_Model rfl dX9_tries_36 ?_
      refine oj_iload_n hc dX9_tries_39 rfl 1 rfl ?_
      refine oj_iload_n hc dX9_tries_40 rfl 2 rfl ?_
      refine oj_iast hc 0 mC_m_at mC_m_at_s rfl rfl dX9_tries_41 (fun σ5 => ?_)
      refine oj_aload_n hc dX9_tries_42 rfl 0 rfl ?_
      refine oj_iconst hc 0 dX9_tries_43 kc_0 ?_
      refine oj_cVv hc cv_X9_149 (by omega) mC_Model [.int 0] [] rfl rfl (Nat.le_of_ble_eq_true rfl) dX9_tries_44 (c_X9_hour 0 σ5) (fun σ7 => ?_)
      refine oj_iconst hc 1 dX9_tries_47 kc_1 ?_
      exact hret _ _ _ _ rfl dX9_tries_48
    · refine oj_iconst hc 0 dX9_tries_28 kc_0 ?_
      exact hret _ _ _ _ rfl dX9_tries_29
set_option maxRecDepth 100000 in
theorem c_X9_tries {l : Launch} {D : va_G} {E : ojE} {ad : Nat → Nat} (a1 : Int32) (a2 : Int32) (a3 : Int32) (σ : ojS) : ∀ (r : Int32) (σ1 : ojS), f_X9_tries a1 a2 a3 σ = some (r, σ1) → ojMi (vM_ l D E ad) yX9_tries cX9_tries 4 (some .boolean) 6 [.ref (ad 0), .int a1, .int a2, .int a3] σ r σ1 :=
  ojMi_W (by decide +kernel) rfl .boolean rfl (Nat.le_of_ble_eq_true rfl) rfl (fun X Q hc hret => wk_X9_tries hc hret a1 a2 a3 σ)

def f_X9_meets (a1 : Int32) (a2 : Int32) (σ : ojS) : Option (ojS) :=
  if (σ 0 30) < a1 then
    ojLet (ojU σ 0 30 a1) (fun (σ1 : ojS) =>
      ojLet (ojU σ1 0 31 a2) (fun (σ2 : ojS) =>
        some σ2))
  else
    some σ
set_option maxRecDepth 100000 in
set_option maxHeartbeats 4000000 in
theorem wk_X9_meets {l : Launch} {D : va_G} {E : ojE} {ad : Nat → Nat} {X : ojX} {Q : ojS → State → Prop} (hc : ojC X (vM_ l D E ad) RX9 cX9_meets 3 1) (hret : ojRv X (vM_ l D E ad) Q cX9_meets) (a1 : Int32) (a2 : Int32) (σ : ojS) : ojJ X (vM_ l D E ad) Q (f_X9_meets a1 a2 σ) σ 0 [(0, .ref (ad 0)), (1, .int a1), (2, .int a2)] [] := by
  unfold f_X9_meets
  refine oj_iload_n hc dX9_meets_0 rfl 1 rfl ?_
  refine oj_aload_n hc dX9_meets_1 rfl 0 rfl ?_
  refine oj_getf hc ff_X9_166 mC_Model rfl dX9_meets_2 ?_
  refine oj_icmp_gt hc 9 dX9_meets_5 (by decide) (fun _ => ?_) ?_
  · refine oj_aload_n hc dX9_meets_9 rfl 0 rfl ?_
    refine oj_iload_n hc dX9_meets_10 rfl 1 rfl ?_
    refine oj_putf hc fp_X9_166 mC_Model mC_Model_s30 rfl rfl (Nat.le_of_ble_eq_true rfl) dX9_meets_11 (fun σ1 => ?_)
    refine oj_aload_n hc dX9_meets_14 rfl 0 rfl ?_
    refine oj_iload_n hc dX9_meets_15 rfl 2 rfl ?_
    refine oj_putf hc fp_X9_169 mC_Model mC_Model_s31 rfl rfl (Nat.le_of_ble_eq_true rfl) dX9_meets_16 (fun σ2 => ?_)
    exact hret _ _ _ dX9_meets_19
  · exact hret _ _ _ dX9_meets_8
set_option maxRecDepth 100000 in
theorem c_X9_meets {l : Launch} {D : va_G} {E : ojE} {ad : Nat → Nat} (a1 : Int32) (a2 : Int32) (σ : ojS) : ∀ (σ1 : ojS), f_X9_meets a1 a2 σ = some σ1 → ojMv (vM_ l D E ad) yX9_meets cX9_meets 3 none 1 [.ref (ad 0), .int a1, .int a2] σ σ1 :=
  ojMv_W (by decide +kernel) rfl rfl (Nat.le_of_ble_eq_true rfl) rfl (fun X Q hc hret => wk_X9_meets hc hret a1 a2 σ)

def f_X9_best_189 (rec_53 : Int32 → ojS → Option (Int32 × ojS)) (a1 : Int32) (a2 : Int32) (a3 : Int32) (a4 : Int32) (a5 : Int32) (σ : ojS) : Option (Int32 × ojS) :=
  if a2 = 1 then
    ojChk a1 4 (
      ojBv (f_X9_meets ((σ 14 a1.toNatClampNeg) - a4) a5 σ) (fun (σ12 : ojS) =>
        ojBv (f_X9_back 1 σ12) (fun (σ14 : ojS) =>
          ojLet (a5 + 1) (fun (x15 : Int32) =>
            rec_53 x15 σ14))))
  else
    ojBv (f_X9_back 1 σ) (fun (σ9 : ojS) =>
      ojLet (a5 + 1) (fun (x10 : Int32) =>
        rec_53 x10 σ9))
set_option maxRecDepth 100000 in
set_option maxHeartbeats 4000000 in
theorem wk_X9_best_189 {l : Launch} {D : va_G} {E : ojE} {ad : Nat → Nat} {X : ojX} {Q : Int32 × ojS → State → Prop} (hc : ojC X (vM_ l D E ad) RX9 cX9_best 8 7) (hret : ojRi X (vM_ l D E ad) Q cX9_best .int) (rec_53 : Int32 → ojS → Option (Int32 × ojS)) (a1 : Int32) (a2 : Int32) (a3 : Int32) (a4 : Int32) (a5 : Int32) (σ : ojS) (hrec_53 : ∀ (v5_53 : Int32) (σ_53 : ojS), ojJ X (vM_ l D E ad) Q (rec_53 v5_53 σ_53) σ_53 53 [(0, .ref (ad 0)), (1, .int a1), (2, .int a2), (3, .int a3), (4, .int a4), (5, .int v5_53)] []) : ojJ X (vM_ l D E ad) Q (f_X9_best_189 rec_53 a1 a2 a3 a4 a5 σ) σ 189 [(0, .ref (ad 0)), (1, .int a1), (2, .int a2), (3, .int a3), (4, .int a4), (5, .int a5)] [] := by
  unfold f_X9_best_189
  refine oj_iload_n hc dX9_best_189 rfl 2 rfl ?_
  refine oj_iconst hc 1 dX9_best_190 kc_1 ?_
  refine oj_icmp_ne hc 209 dX9_best_191 (by decide) ?_ (fun _ => ?_)
  · refine oj_aload_n hc dX9_best_209 rfl 0 rfl ?_
    refine oj_iconst hc 1 dX9_best_210 kc_1 ?_
    refine oj_cVv hc cv_X9_160 (by omega) mC_Model [.int 1] [] rfl rfl (Nat.le_of_ble_eq_true rfl) dX9_best_211 (c_X9_back 1 σ) (fun σ9 => ?_)
    refine oj_iinc hc 1 (fun u => [(0, .ref (ad 0)), (1, .int a1), (2, .int a2), (3, .int a3), (4, .int a4), (5, .int u)]) 5 rfl kc_1 (fun _ => rfl) (by decide) dX9_best_214 (fun x10 => ?_)
    refine oj_goto hc 53 dX9_best_217 (by decide) ?_
    exact hrec_53 x10 σ9
  · refine oj_aload_n hc dX9_best_194 rfl 0 rfl ?_
    refine oj_aload_n hc dX9_best_195 rfl 0 rfl ?_
    refine oj_getf hc ff_X9_54 mC_Model rfl dX9_best_196 ?_
    refine oj_iload_n hc dX9_best_199 rfl 1 rfl ?_
    refine oj_iald hc 0 mC_m_took rfl dX9_best_200 ?_
    refine oj_iload hc dX9_best_201 4 rfl ?_
    refine oj_isub hc dX9_best_203 ?_
    refine oj_iload hc dX9_best_204 5 rfl ?_
    refine oj_cVv hc cv_X9_175 (by omega) mC_Model [.int ((σ 14 a1.toNatClampNeg) - a4), .int a5] [] rfl rfl (Nat.le_of_ble_eq_true rfl) dX9_best_206 (c_X9_meets ((σ 14 a1.toNatClampNeg) - a4) a5 σ) (fun σ12 => ?_)
    refine oj_aload_n hc dX9_best_209 rfl 0 rfl ?_
    refine oj_iconst hc 1 dX9_best_210 kc_1 ?_
    refine oj_cVv hc cv_X9_160 (by omega) mC_Model [.int 1] [] rfl rfl (Nat.le_of_ble_eq_true rfl) dX9_best_211 (c_X9_back 1 σ12) (fun σ14 => ?_)
    refine oj_iinc hc 1 (fun u => [(0, .ref (ad 0)), (1, .int a1), (2, .int a2), (3, .int a3), (4, .int a4), (5, .int u)]) 5 rfl kc_1 (fun _ => rfl) (by decide) dX9_best_214 (fun x15 => ?_)
    refine oj_goto hc 53 dX9_best_217 (by decide) ?_
    exact hrec_53 x15 σ14
def f_X9_best_158 (rec_53 : Int32 → ojS → Option (Int32 × ojS)) (rec_77 : Int32 → ojS → Option (Int32 × ojS)) (a1 : Int32) (a2 : Int32) (a3 : Int32) (a4 : Int32) (a5 : Int32) (a6 : Int32) (σ : ojS) : Option (Int32 × ojS) :=
  if a2 = 2 then
    ojChk a1 4 (
      ojBv (f_X9_meets ((σ 14 a1.toNatClampNeg) - a4) a5 σ) (fun (σ22 : ojS) =>
        ojBv (f_X9_back 2 σ22) (fun (σ24 : ojS) =>
          ojLet (a6 + 1) (fun (x25 : Int32) =>
            rec_77 x25 σ24))))
  else
    ojBv (f_X9_back 2 σ) (fun (σ19 : ojS) =>
      ojLet (a6 + 1) (fun (x20 : Int32) =>
        rec_77 x20 σ19))
set_option maxRecDepth 100000 in
set_option maxHeartbeats 4000000 in
theorem wk_X9_best_158 {l : Launch} {D : va_G} {E : ojE} {ad : Nat → Nat} {X : ojX} {Q : Int32 × ojS → State → Prop} (hc : ojC X (vM_ l D E ad) RX9 cX9_best 8 7) (hret : ojRi X (vM_ l D E ad) Q cX9_best .int) (rec_53 : Int32 → ojS → Option (Int32 × ojS)) (rec_77 : Int32 → ojS → Option (Int32 × ojS)) (a1 : Int32) (a2 : Int32) (a3 : Int32) (a4 : Int32) (a5 : Int32) (a6 : Int32) (σ : ojS) (hrec_53 : ∀ (v5_53 : Int32) (σ_53 : ojS), ojJ X (vM_ l D E ad) Q (rec_53 v5_53 σ_53) σ_53 53 [(0, .ref (ad 0)), (1, .int a1), (2, .int a2), (3, .int a3), (4, .int a4), (5, .int v5_53)] []) (hrec_77 : ∀ (v6_77 : Int32) (σ_77 : ojS), ojJ X (vM_ l D E ad) Q (rec_77 v6_77 σ_77) σ_77 77 [(0, .ref (ad 0)), (1, .int a1), (2, .int a2), (3, .int a3), (4, .int a4), (5, .int a5), (6, .int v6_77)] []) : ojJ X (vM_ l D E ad) Q (f_X9_best_158 rec_53 rec_77 a1 a2 a3 a4 a5 a6 σ) σ 158 [(0, .ref (ad 0)), (1, .int a1), (2, .int a2), (3, .int a3), (4, .int a4), (5, .int a5), (6, .int a6)] [] := by
  unfold f_X9_best_158
  refine oj_iload_n hc dX9_best_158 rfl 2 rfl ?_
  refine oj_iconst hc 2 dX9_best_159 kc_2 ?_
  refine oj_icmp_ne hc 178 dX9_best_160 (by decide) ?_ (fun _ => ?_)
  · refine oj_aload_n hc dX9_best_178 rfl 0 rfl ?_
    refine oj_iconst hc 2 dX9_best_179 kc_2 ?_
    refine oj_cVv hc cv_X9_160 (by omega) mC_Model [.int 2] [] rfl rfl (Nat.le_of_ble_eq_true rfl) dX9_best_180 (c_X9_back 2 σ) (fun σ19 => ?_)
    refine oj_iinc hc 1 (fun u => [(0, .ref (ad 0)), (1, .int a1), (2, .int a2), (3, .int a3), (4, .int a4), (5, .int a5), (6, .int u)]) 6 rfl kc_1 (fun _ => rfl) (by decide) dX9_best_183 (fun x20 => ?_)
    refine oj_goto hc 77 dX9_best_186 (by decide) ?_
    exact hrec_77 x20 σ19
  · refine oj_aload_n hc dX9_best_163 rfl 0 rfl ?_
    refine oj_aload_n hc dX9_best_164 rfl 0 rfl ?_
    refine oj_getf hc ff_X9_54 mC_Model rfl dX9_best_165 ?_
    refine oj_iload_n hc dX9_best_168 rfl 1 rfl ?_
    refine oj_iald hc 0 mC_m_took rfl dX9_best_169 ?_
    refine oj_iload hc dX9_best_170 4 rfl ?_
    refine oj_isub hc dX9_best_172 ?_
    refine oj_iload hc dX9_best_173 5 rfl ?_
    refine oj_cVv hc cv_X9_175 (by omega) mC_Model [.int ((σ 14 a1.toNatClampNeg) - a4), .int a5] [] rfl rfl (Nat.le_of_ble_eq_true rfl) dX9_best_175 (c_X9_meets ((σ 14 a1.toNatClampNeg) - a4) a5 σ) (fun σ22 => ?_)
    refine oj_aload_n hc dX9_best_178 rfl 0 rfl ?_
    refine oj_iconst hc 2 dX9_best_179 kc_2 ?_
    refine oj_cVv hc cv_X9_160 (by omega) mC_Model [.int 2] [] rfl rfl (Nat.le_of_ble_eq_true rfl) dX9_best_180 (c_X9_back 2 σ22) (fun σ24 => ?_)
    refine oj_iinc hc 1 (fun u => [(0, .ref (ad 0)), (1, .int a1), (2, .int a2), (3, .int a3), (4, .int a4), (5, .int a5), (6, .int u)]) 6 rfl kc_1 (fun _ => rfl) (by decide) dX9_best_183 (fun x25 => ?_)
    refine oj_goto hc 77 dX9_best_186 (by decide) ?_
    exact hrec_77 x25 σ24
def f_X9_best_106 (rec_53 : Int32 → ojS → Option (Int32 × ojS)) (rec_77 : Int32 → ojS → Option (Int32 × ojS)) (a1 : Int32) (a2 : Int32) (a3 : Int32) (a4 : Int32) (a5 : Int32) (a6 : Int32) (a7 : Int32) (σ : ojS) : Option (Int32 × ojS) :=
  ojFix (fun _ _ => none) 600 (fun (rec_106 : Int32 → ojS → Option (Int32 × ojS)) (v7_106 : Int32) (σ_106 : ojS) =>
    if 96 ≤ v7_106 then
      f_X9_best_158 rec_53 rec_77 a1 a2 a3 a4 a5 a6 σ_106
    else
      if a2 ≤ 2 then
        f_X9_best_158 rec_53 rec_77 a1 a2 a3 a4 a5 a6 σ_106
      else
        ojB2 (f_X9_tries a1 v7_106 3 σ_106) (fun (r26 : Int32) (σ27 : ojS) =>
          if r26 = 0 then
            ojLet (v7_106 + 1) (fun (x33 : Int32) =>
              rec_106 x33 σ27)
          else
            ojChk a1 4 (
              ojBv (f_X9_meets ((σ27 14 a1.toNatClampNeg) - a4) a5 σ27) (fun (σ29 : ojS) =>
                ojBv (f_X9_back 3 σ29) (fun (σ31 : ojS) =>
                  ojLet (v7_106 + 1) (fun (x32 : Int32) =>
                    rec_106 x32 σ31)))))) a7 σ
set_option maxRecDepth 100000 in
set_option maxHeartbeats 4000000 in
theorem wk_X9_best_106 {l : Launch} {D : va_G} {E : ojE} {ad : Nat → Nat} {X : ojX} {Q : Int32 × ojS → State → Prop} (hc : ojC X (vM_ l D E ad) RX9 cX9_best 8 7) (hret : ojRi X (vM_ l D E ad) Q cX9_best .int) (rec_53 : Int32 → ojS → Option (Int32 × ojS)) (rec_77 : Int32 → ojS → Option (Int32 × ojS)) (a1 : Int32) (a2 : Int32) (a3 : Int32) (a4 : Int32) (a5 : Int32) (a6 : Int32) (a7 : Int32) (σ : ojS) (hrec_53 : ∀ (v5_53 : Int32) (σ_53 : ojS), ojJ X (vM_ l D E ad) Q (rec_53 v5_53 σ_53) σ_53 53 [(0, .ref (ad 0)), (1, .int a1), (2, .int a2), (3, .int a3), (4, .int a4), (5, .int v5_53)] []) (hrec_77 : ∀ (v6_77 : Int32) (σ_77 : ojS), ojJ X (vM_ l D E ad) Q (rec_77 v6_77 σ_77) σ_77 77 [(0, .ref (ad 0)), (1, .int a1), (2, .int a2), (3, .int a3), (4, .int a4), (5, .int a5), (6, .int v6_77)] []) : ojJ X (vM_ l D E ad) Q (f_X9_best_106 rec_53 rec_77 a1 a2 a3 a4 a5 a6 a7 σ) σ 106 [(0, .ref (ad 0)), (1, .int a1), (2, .int a2), (3, .int a3), (4, .int a4), (5, .int a5), (6, .int a6), (7, .int a7)] [] := by
  unfold f_X9_best_106
  refine oj_fix (fun (r : Int32 → ojS → Option (Int32 × ojS)) => ∀ (v7_106 : Int32) (σ_106 : ojS), ojJ X (vM_ l D E ad) Q (r v7_106 σ_106) σ_106 106 [(0, .ref (ad 0)), (1, .int a1), (2, .int a2), (3, .int a3), (4, .int a4), (5, .int a5), (6, .int a6), (7, .int v7_106)] []) _ (fun _ _ => oj_none) (fun rec_106 hrec_106 v7_106 σ_106 => ?_) 600 a7 σ
  refine oj_iload hc dX9_best_106 7 rfl ?_
  refine oj_bipush hc 96 dX9_best_108 kb_96 ?_
  refine oj_icmp_ge hc 158 dX9_best_110 (by decide) (fun _ => ?_) ?_
  · refine oj_sub [0, 1, 2, 3, 4, 5, 6] rfl ?_
    exact wk_X9_best_158 hc hret rec_53 rec_77 a1 a2 a3 a4 a5 a6 σ_106 hrec_53 hrec_77
  · refine oj_iload_n hc dX9_best_113 rfl 2 rfl ?_
    refine oj_iconst hc 2 dX9_best_114 kc_2 ?_
    refine oj_icmp_le hc 158 dX9_best_115 (by decide) (fun _ => ?_) ?_
    · refine oj_sub [0, 1, 2, 3, 4, 5, 6] rfl ?_
      exact wk_X9_best_158 hc hret rec_53 rec_77 a1 a2 a3 a4 a5 a6 σ_106 hrec_53 hrec_77
    · refine oj_aload_n hc dX9_best_118 rfl 0 rfl ?_
      refine oj_iload_n hc dX9_best_119 rfl 1 rfl ?_
      refine oj_iload hc dX9_best_120 7 rfl ?_
      refine oj_iconst hc 3 dX9_best_122 kc_3 ?_
      refine oj_cV2 hc cv_X9_172 (by omega) mC_Model [.int a1, .int v7_106, .int 3] [] rfl rfl (Nat.le_of_ble_eq_true rfl) dX9_best_123 (c_X9_tries a1 v7_106 3 σ_106) (fun r26 σ27 => ?_)
      refine oj_if_ne hc 132 dX9_best_126 (by decide) ?_ (fun _ => ?_)
      · refine oj_aload_n hc dX9_best_132 rfl 0 rfl ?_
        refine oj_aload_n hc dX9_best_133 rfl 0 rfl ?_
        refine oj_getf hc ff_X9_54 mC_Model rfl dX9_best_134 ?_
        refine oj_iload_n hc dX9_best_137 rfl 1 rfl ?_
        refine oj_iald hc 0 mC_m_took rfl dX9_best_138 ?_
        refine oj_iload hc dX9_best_139 4 rfl ?_
        refine oj_isub hc dX9_best_141 ?_
        refine oj_iload hc dX9_best_142 5 rfl ?_
        refine oj_cVv hc cv_X9_175 (by omega) mC_Model [.int ((σ27 14 a1.toNatClampNeg) - a4), .int a5] [] rfl rfl (Nat.le_of_ble_eq_true rfl) dX9_best_144 (c_X9_meets ((σ27 14 a1.toNatClampNeg) - a4) a5 σ27) (fun σ29 => ?_)
        refine oj_aload_n hc dX9_best_147 rfl 0 rfl ?_
        refine oj_iconst hc 3 dX9_best_148 kc_3 ?_
        refine oj_cVv hc cv_X9_160 (by omega) mC_Model [.int 3] [] rfl rfl (Nat.le_of_ble_eq_true rfl) dX9_best_149 (c_X9_back 3 σ29) (fun σ31 => ?_)
        refine oj_iinc hc 1 (fun u => [(0, .ref (ad 0)), (1, .int a1), (2, .int a2), (3, .int a3), (4, .int a4), (5, .int a5), (6, .int a6), (7, .int u)]) 7 rfl kc_1 (fun _ => rfl) (by decide) dX9_best_152 (fun x32 => ?_)
        refine oj_goto hc 106 dX9_best_155 (by decide) ?_
        exact hrec_106 x32 σ31
      · refine oj_goto hc 152 dX9_best_129 (by decide) ?_
        refine oj_iinc hc 1 (fun u => [(0, .ref (ad 0)), (1, .int a1), (2, .int a2), (3, .int a3), (4, .int a4), (5, .int a5), (6, .int a6), (7, .int u)]) 7 rfl kc_1 (fun _ => rfl) (by decide) dX9_best_152 (fun x33 => ?_)
        refine oj_goto hc 106 dX9_best_155 (by decide) ?_
        exact hrec_106 x33 σ27
def f_X9_best_77 (rec_53 : Int32 → ojS → Option (Int32 × ojS)) (a1 : Int32) (a2 : Int32) (a3 : Int32) (a4 : Int32) (a5 : Int32) (a6 : Int32) (σ : ojS) : Option (Int32 × ojS) :=
  ojFix (fun _ _ => none) 600 (fun (rec_77 : Int32 → ojS → Option (Int32 × ojS)) (v6_77 : Int32) (σ_77 : ojS) =>
    if 96 ≤ v6_77 then
      f_X9_best_189 rec_53 a1 a2 a3 a4 a5 σ_77
    else
      if a2 ≤ 1 then
        f_X9_best_189 rec_53 a1 a2 a3 a4 a5 σ_77
      else
        ojB2 (f_X9_tries a1 v6_77 2 σ_77) (fun (r16 : Int32) (σ17 : ojS) =>
          if r16 = 0 then
            ojLet (v6_77 + 1) (fun (x34 : Int32) =>
              rec_77 x34 σ17)
          else
            f_X9_best_106 rec_53 rec_77 a1 a2 a3 a4 a5 v6_77 0 σ17)) a6 σ
set_option maxRecDepth 100000 in
set_option maxHeartbeats 4000000 in
theorem wk_X9_best_77 {l : Launch} {D : va_G} {E : ojE} {ad : Nat → Nat} {X : ojX} {Q : Int32 × ojS → State → Prop} (hc : ojC X (vM_ l D E ad) RX9 cX9_best 8 7) (hret : ojRi X (vM_ l D E ad) Q cX9_best .int) (rec_53 : Int32 → ojS → Option (Int32 × ojS)) (a1 : Int32) (a2 : Int32) (a3 : Int32) (a4 : Int32) (a5 : Int32) (a6 : Int32) (σ : ojS) (hrec_53 : ∀ (v5_53 : Int32) (σ_53 : ojS), ojJ X (vM_ l D E ad) Q (rec_53 v5_53 σ_53) σ_53 53 [(0, .ref (ad 0)), (1, .int a1), (2, .int a2), (3, .int a3), (4, .int a4), (5, .int v5_53)] []) : ojJ X (vM_ l D E ad) Q (f_X9_best_77 rec_53 a1 a2 a3 a4 a5 a6 σ) σ 77 [(0, .ref (ad 0)), (1, .int a1), (2, .int a2), (3, .int a3), (4, .int a4), (5, .int a5), (6, .int a6)] [] := by
  unfold f_X9_best_77
  refine oj_fix (fun (r : Int32 → ojS → Option (Int32 × ojS)) => ∀ (v6_77 : Int32) (σ_77 : ojS), ojJ X (vM_ l D E ad) Q (r v6_77 σ_77) σ_77 77 [(0, .ref (ad 0)), (1, .int a1), (2, .int a2), (3, .int a3), (4, .int a4), (5, .int a5), (6, .int v6_77)] []) _ (fun _ _ => oj_none) (fun rec_77 hrec_77 v6_77 σ_77 => ?_) 600 a6 σ
  refine oj_iload hc dX9_best_77 6 rfl ?_
  refine oj_bipush hc 96 dX9_best_79 kb_96 ?_
  refine oj_icmp_ge hc 189 dX9_best_81 (by decide) (fun _ => ?_) ?_
  · refine oj_sub [0, 1, 2, 3, 4, 5] rfl ?_
    exact wk_X9_best_189 hc hret rec_53 a1 a2 a3 a4 a5 σ_77 hrec_53
  · refine oj_iload_n hc dX9_best_84 rfl 2 rfl ?_
    refine oj_iconst hc 1 dX9_best_85 kc_1 ?_
    refine oj_icmp_le hc 189 dX9_best_86 (by decide) (fun _ => ?_) ?_
    · refine oj_sub [0, 1, 2, 3, 4, 5] rfl ?_
      exact wk_X9_best_189 hc hret rec_53 a1 a2 a3 a4 a5 σ_77 hrec_53
    · refine oj_aload_n hc dX9_best_89 rfl 0 rfl ?_
      refine oj_iload_n hc dX9_best_90 rfl 1 rfl ?_
      refine oj_iload hc dX9_best_91 6 rfl ?_
      refine oj_iconst hc 2 dX9_best_93 kc_2 ?_
      refine oj_cV2 hc cv_X9_172 (by omega) mC_Model [.int a1, .int v6_77, .int 2] [] rfl rfl (Nat.le_of_ble_eq_true rfl) dX9_best_94 (c_X9_tries a1 v6_77 2 σ_77) (fun r16 σ17 => ?_)
      refine oj_if_ne hc 103 dX9_best_97 (by decide) ?_ (fun _ => ?_)
      · refine oj_iconst hc 0 dX9_best_103 kc_0 ?_
        refine oj_istore hc [(0, .ref (ad 0)), (1, .int a1), (2, .int a2), (3, .int a3), (4, .int a4), (5, .int a5), (6, .int v6_77), (7, .int 0)] rfl (by decide) dX9_best_104 ?_
        exact wk_X9_best_106 hc hret rec_53 rec_77 a1 a2 a3 a4 a5 v6_77 0 σ17 hrec_53 hrec_77
      · refine oj_goto hc 183 dX9_best_100 (by decide) ?_
        refine oj_iinc hc 1 (fun u => [(0, .ref (ad 0)), (1, .int a1), (2, .int a2), (3, .int a3), (4, .int a4), (5, .int a5), (6, .int u)]) 6 rfl kc_1 (fun _ => rfl) (by decide) dX9_best_183 (fun x34 => ?_)
        refine oj_goto hc 77 dX9_best_186 (by decide) ?_
        exact hrec_77 x34 σ17
def f_X9_best_53 (a1 : Int32) (a2 : Int32) (a3 : Int32) (a4 : Int32) (a5 : Int32) (σ : ojS) : Option (Int32 × ojS) :=
  ojFix (fun _ _ => none) 600 (fun (rec_53 : Int32 → ojS → Option (Int32 × ojS)) (v5_53 : Int32) (σ_53 : ojS) =>
    if 96 ≤ v5_53 then
      if a3 = 0 then
        some (σ_53 0 30, σ_53)
      else
        some (σ_53 0 31, σ_53)
    else
      ojB2 (f_X9_tries a1 v5_53 1 σ_53) (fun (r6 : Int32) (σ7 : ojS) =>
        if r6 = 0 then
          ojLet (v5_53 + 1) (fun (x35 : Int32) =>
            rec_53 x35 σ7)
        else
          f_X9_best_77 rec_53 a1 a2 a3 a4 v5_53 0 σ7)) a5 σ
set_option maxRecDepth 100000 in
set_option maxHeartbeats 4000000 in
theorem wk_X9_best_53 {l : Launch} {D : va_G} {E : ojE} {ad : Nat → Nat} {X : ojX} {Q : Int32 × ojS → State → Prop} (hc : ojC X (vM_ l D E ad) RX9 cX9_best 8 7) (hret : ojRi X (vM_ l D E ad) Q cX9_best .int) (a1 : Int32) (a2 : Int32) (a3 : Int32) (a4 : Int32) (a5 : Int32) (σ : ojS) : ojJ X (vM_ l D E ad) Q (f_X9_best_53 a1 a2 a3 a4 a5 σ) σ 53 [(0, .ref (ad 0)), (1, .int a1), (2, .int a2), (3, .int a3), (4, .int a4), (5, .int a5)] [] := by
  unfold f_X9_best_53
  refine oj_fix (fun (r : Int32 → ojS → Option (Int32 × ojS)) => ∀ (v5_53 : Int32) (σ_53 : ojS), ojJ X (vM_ l D E ad) Q (r v5_53 σ_53) σ_53 53 [(0, .ref (ad 0)), (1, .int a1), (2, .int a2), (3, .int a3), (4, .int a4), (5, .int v5_53)] []) _ (fun _ _ => oj_none) (fun rec_53 hrec_53 v5_53 σ_53 => ?_) 600 a5 σ
  refine oj_iload hc dX9_best_53 5 rfl ?_
  refine oj_bipush hc 96 dX9_best_55 kb_96 ?_
  refine oj_icmp_ge hc 220 dX9_best_57 (by decide) (fun _ => ?_) ?_
  · refine oj_iload_n hc dX9_best_220 rfl 3 rfl ?_
    refine oj_if_ne hc 231 dX9_best_221 (by decide) ?_ (fun _ => ?_)
    · refine oj_aload_n hc dX9_best_231 rfl 0 rfl ?_
      refine oj_getf hc ff_X9_169 mC_Model rfl dX9_best_232 ?_
      exact hret _ _ _ _ rfl dX9_best_235
    · refine oj_aload_n hc dX9_best_224 rfl 0 rfl ?_
      refine oj_getf hc ff_X9_166 mC_Model rfl dX9_best_225 ?_
      refine oj_goto hc 235 dX9_best_228 (by decide) ?_
      exact hret _ _ _ _ rfl dX9_best_235
  · refine oj_aload_n hc dX9_best_60 rfl 0 rfl ?_
    refine oj_iload_n hc dX9_best_61 rfl 1 rfl ?_
    refine oj_iload hc dX9_best_62 5 rfl ?_
    refine oj_iconst hc 1 dX9_best_64 kc_1 ?_
    refine oj_cV2 hc cv_X9_172 (by omega) mC_Model [.int a1, .int v5_53, .int 1] [] rfl rfl (Nat.le_of_ble_eq_true rfl) dX9_best_65 (c_X9_tries a1 v5_53 1 σ_53) (fun r6 σ7 => ?_)
    refine oj_if_ne hc 74 dX9_best_68 (by decide) ?_ (fun _ => ?_)
    · refine oj_iconst hc 0 dX9_best_74 kc_0 ?_
      refine oj_istore hc [(0, .ref (ad 0)), (1, .int a1), (2, .int a2), (3, .int a3), (4, .int a4), (5, .int v5_53), (6, .int 0)] rfl (by decide) dX9_best_75 ?_
      exact wk_X9_best_77 hc hret rec_53 a1 a2 a3 a4 v5_53 0 σ7 hrec_53
    · refine oj_goto hc 214 dX9_best_71 (by decide) ?_
      refine oj_iinc hc 1 (fun u => [(0, .ref (ad 0)), (1, .int a1), (2, .int a2), (3, .int a3), (4, .int a4), (5, .int u)]) 5 rfl kc_1 (fun _ => rfl) (by decide) dX9_best_214 (fun x35 => ?_)
      refine oj_goto hc 53 dX9_best_217 (by decide) ?_
      exact hrec_53 x35 σ7
def f_X9_best (a1 : Int32) (a2 : Int32) (a3 : Int32) (σ : ojS) : Option (Int32 × ojS) :=
  ojB1 (f_X9_isSkimmer a1 σ) (fun (r1 : Int32) =>
    if r1 = 0 then
      some ((-1), σ)
    else
      ojChk a1 4 (
        if (σ 16 a1.toNatClampNeg) = 0 then
          ojB1 (f_X9_in a2 1 3) (fun (r2 : Int32) =>
            if r2 = 0 then
              some ((-1), σ)
            else
              ojB1 (f_X9_in a3 0 1) (fun (r3 : Int32) =>
                if r3 = 0 then
                  some ((-1), σ)
                else
                  ojLet (ojU σ 0 30 (-1)) (fun (σ4 : ojS) =>
                    ojChk a1 4 (
                      ojLet (σ4 14 a1.toNatClampNeg) (fun (x5 : Int32) =>
                        f_X9_best_53 a1 a2 a3 x5 0 σ4)))))
        else
          some ((-1), σ)))
set_option maxRecDepth 100000 in
set_option maxHeartbeats 4000000 in
theorem wk_X9_best {l : Launch} {D : va_G} {E : ojE} {ad : Nat → Nat} {X : ojX} {Q : Int32 × ojS → State → Prop} (hc : ojC X (vM_ l D E ad) RX9 cX9_best 8 7) (hret : ojRi X (vM_ l D E ad) Q cX9_best .int) (a1 : Int32) (a2 : Int32) (a3 : Int32) (σ : ojS) : ojJ X (vM_ l D E ad) Q (f_X9_best a1 a2 a3 σ) σ 0 [(0, .ref (ad 0)), (1, .int a1), (2, .int a2), (3, .int a3)] [] := by
  unfold f_X9_best
  refine oj_aload_n hc dX9_best_0 rfl 0 rfl ?_
  refine oj_iload_n hc dX9_best_1 rfl 1 rfl ?_
  refine oj_cV1 hc cv_X9_132 (by omega) mC_Model [.int a1] [] rfl rfl (Nat.le_of_ble_eq_true rfl) dX9_best_2 (c_X9_isSkimmer a1 σ) (fun r1 => ?_)
  refine oj_if_eq hc 35 dX9_best_5 (by decide) (fun _ => ?_) ?_
  · refine oj_iconst hc (-1) dX9_best_35 kc_m1 ?_
    exact hret _ _ _ _ rfl dX9_best_36
  · refine oj_aload_n hc dX9_best_8 rfl 0 rfl ?_
    refine oj_getf hc ff_X9_60 mC_Model rfl dX9_best_9 ?_
    refine oj_iload_n hc dX9_best_12 rfl 1 rfl ?_
    refine oj_zald hc 1 mC_m_wentNow rfl dX9_best_13 ?_
    refine oj_if_ne hc 35 dX9_best_14 (by decide) ?_ (fun _ => ?_)
    · refine oj_iconst hc (-1) dX9_best_35 kc_m1 ?_
      exact hret _ _ _ _ rfl dX9_best_36
    · refine oj_iload_n hc dX9_best_17 rfl 2 rfl ?_
      refine oj_iconst hc 1 dX9_best_18 kc_1 ?_
      refine oj_iconst hc 3 dX9_best_19 kc_3 ?_
      refine oj_cS1 hc cs_X9_93 (by omega) [.int a2, .int 1, .int 3] [] rfl rfl (Nat.le_of_ble_eq_true rfl) dX9_best_20 (c_X9_in a2 1 3 σ) (fun r2 => ?_)
      refine oj_if_eq hc 35 dX9_best_23 (by decide) (fun _ => ?_) ?_
      · refine oj_iconst hc (-1) dX9_best_35 kc_m1 ?_
        exact hret _ _ _ _ rfl dX9_best_36
      · refine oj_iload_n hc dX9_best_26 rfl 3 rfl ?_
        refine oj_iconst hc 0 dX9_best_27 kc_0 ?_
        refine oj_iconst hc 1 dX9_best_28 kc_1 ?_
        refine oj_cS1 hc cs_X9_93 (by omega) [.int a3, .int 0, .int 1] [] rfl rfl (Nat.le_of_ble_eq_true rfl) dX9_best_29 (c_X9_in a3 0 1 σ) (fun r3 => ?_)
        refine oj_if_ne hc 37 dX9_best_32 (by decide) ?_ (fun _ => ?_)
        · refine oj_aload_n hc dX9_best_37 rfl 0 rfl ?_
          refine oj_iconst hc (-1) dX9_best_38 kc_m1 ?_
          refine oj_putf hc fp_X9_166 mC_Model mC_Model_s30 rfl rfl (Nat.le_of_ble_eq_true rfl) dX9_best_39 (fun σ4 => ?_)
          refine oj_aload_n hc dX9_best_42 rfl 0 rfl ?_
          refine oj_getf hc ff_X9_54 mC_Model rfl dX9_best_43 ?_
          refine oj_iload_n hc dX9_best_46 rfl 1 rfl ?_
          refine oj_iald hc 0 mC_m_took rfl dX9_best_47 ?_
          refine oj_nm (fun x5 => ?_)
          refine oj_istore hc [(0, .ref (ad 0)), (1, .int a1), (2, .int a2), (3, .int a3), (4, .int x5)] rfl (by decide) dX9_best_48 ?_
          refine oj_iconst hc 0 dX9_best_50 kc_0 ?_
          refine oj_istore hc [(0, .ref (ad 0)), (1, .int a1), (2, .int a2), (3, .int a3), (4, .int x5), (5, .int 0)] rfl (by decide) dX9_best_51 ?_
          exact wk_X9_best_53 hc hret a1 a2 a3 x5 0 σ4
        · refine oj_iconst hc (-1) dX9_best_35 kc_m1 ?_
          exact hret _ _ _ _ rfl dX9_best_36
set_option maxRecDepth 100000 in
theorem c_X9_best {l : Launch} {D : va_G} {E : ojE} {ad : Nat → Nat} (a1 : Int32) (a2 : Int32) (a3 : Int32) (σ : ojS) : ∀ (r : Int32) (σ1 : ojS), f_X9_best a1 a2 a3 σ = some (r, σ1) → ojMi (vM_ l D E ad) yX9_best cX9_best 8 (some .int) 7 [.ref (ad 0), .int a1, .int a2, .int a3] σ r σ1 :=
  ojMi_W (by decide +kernel) rfl .int rfl (Nat.le_of_ble_eq_true rfl) rfl (fun X Q hc hret => wk_X9_best hc hret a1 a2 a3 σ)
