def f_X9_ship (a1 : Int32) (a2 : Int32) (a3 : Int32) (σ : ojS) : Option (Int32 × ojS) :=
  ojB1 (f_X9_in a1 0 999999) (fun (r1 : Int32) =>
    if r1 = 0 then
      some ((-1), σ)
    else
      ojB1 (f_X9_isSea a2 σ) (fun (r2 : Int32) =>
        if r2 = 0 then
          some ((-1), σ)
        else
          ojB1 (f_X9_in a3 0 (σ 0 0)) (fun (r3 : Int32) =>
            if r3 = 0 then
              some ((-1), σ)
            else
              if (σ 0 23) = 8 then
                some ((-1), σ)
              else
                ojChk (σ 0 23) 8 (ojLet (ojU σ 17 (σ 0 23).toNatClampNeg a1) (fun (σ4 : ojS) =>
                  ojChk (σ4 0 23) 8 (ojLet (ojU σ4 18 (σ4 0 23).toNatClampNeg a2) (fun (σ5 : ojS) =>
                    ojChk (σ5 0 23) 8 (ojLet (ojU σ5 19 (σ5 0 23).toNatClampNeg a3) (fun (σ6 : ojS) =>
                      ojLet (ojU σ6 0 23 ((σ6 0 23) + 1)) (fun (σ7 : ojS) =>
                        some ((σ7 0 23) - 1, σ7)))))))))))
set_option maxRecDepth 100000 in
set_option maxHeartbeats 4000000 in
theorem wk_X9_ship {l : Launch} {D : va_G} {E : ojE} {ad : Nat → Nat} {X : ojX} {Q : Int32 × ojS → State → Prop} (hc : ojC X (vM_ l D E ad) RX9 cX9_ship 4 4) (hret : ojRi X (vM_ l D E ad) Q cX9_ship .int) (a1 : Int32) (a2 : Int32) (a3 : Int32) (σ : ojS) : ojJ X (vM_ l D E ad) Q (f_X9_ship a1 a2 a3 σ) σ 0 [(0, .ref (ad 0)), (1, .int a1), (2, .int a2), (3, .int a3)] [] := by
  unfold f_X9_ship
  refine oj_iload_n hc dX9_ship_0 rfl 1 rfl ?_
  refine oj_iconst hc 0 dX9_ship_1 kc_0 ?_
  refine oj_ldc hc kd_X9_179 dX9_ship_2 ?_
  refine oj_cS1 hc cs_X9_93 (by omega) [.int a1, .int 0, .int 999999] [] rfl rfl (Nat.le_of_ble_eq_true rfl) dX9_ship_4 (c_X9_in a1 0 999999 σ) (fun r1 => ?_)
  refine oj_if_eq hc 39 dX9_ship_7 (by decide) (fun _ => ?_) ?_
  · refine oj_iconst hc (-1) dX9_ship_39 kc_m1 ?_
    exact hret _ _ _ _ rfl dX9_ship_40
  · refine oj_aload_n hc dX9_ship_10 rfl 0 rfl ?_
    refine oj_iload_n hc dX9_ship_11 rfl 2 rfl ?_
    refine oj_cV1 hc cv_X9_110 (by omega) mC_Model [.int a2] [] rfl rfl (Nat.le_of_ble_eq_true rfl) dX9_ship_12 (c_X9_isSea a2 σ) (fun r2 => ?_)
    refine oj_if_eq hc 39 dX9_ship_15 (by decide) (fun _ => ?_) ?_
    · refine oj_iconst hc (-1) dX9_ship_39 kc_m1 ?_
      exact hret _ _ _ _ rfl dX9_ship_40
    · refine oj_iload_n hc dX9_ship_18 rfl 3 rfl ?_
      refine oj_iconst hc 0 dX9_ship_19 kc_0 ?_
      refine oj_aload_n hc dX9_ship_20 rfl 0 rfl ?_
      refine oj_getf hc ff_X9_104 mC_Model rfl dX9_ship_21 ?_
      refine oj_cS1 hc cs_X9_93 (by omega) [.int a3, .int 0, .int (σ 0 0)] [] rfl rfl (Nat.le_of_ble_eq_true rfl) dX9_ship_24 (c_X9_in a3 0 (σ 0 0) σ) (fun r3 => ?_)
      refine oj_if_eq hc 39 dX9_ship_27 (by decide) (fun _ => ?_) ?_
      · refine oj_iconst hc (-1) dX9_ship_39 kc_m1 ?_
        exact hret _ _ _ _ rfl dX9_ship_40
      · refine oj_aload_n hc dX9_ship_30 rfl 0 rfl ?_
        refine oj_getf hc ff_X9_107 mC_Model rfl dX9_ship_31 ?_
        refine oj_bipush hc 8 dX9_ship_34 kb_8 ?_
        refine oj_icmp_ne hc 41 dX9_ship_36 (by decide) ?_ (fun _ => ?_)
        · refine oj_aload_n hc dX9_ship_41 rfl 0 rfl ?_
          refine oj_getf hc ff_X9_63 mC_Model rfl dX9_ship_42 ?_
          refine oj_aload_n hc dX9_ship_45 rfl 0 rfl ?_
          refine oj_getf hc ff_X9_107 mC_Model rfl dX9_ship_46 ?_
          refine oj_iload_n hc dX9_ship_49 rfl 1 rfl ?_
          refine oj_iast hc 0 mC_m_shipMark mC_m_shipMark_s rfl rfl dX9_ship_50 (fun σ4 => ?_)
          refine oj_aload_n hc dX9_ship_51 rfl 0 rfl ?_
          refine oj_getf hc ff_X9_66 mC_Model rfl dX9_ship_52 ?_
          refine oj_aload_n hc dX9_ship_55 rfl 0 rfl ?_
          refine oj_getf hc ff_X9_107 mC_Model rfl dX9_ship_56 ?_
          refine oj_iload_n hc dX9_ship_59 rfl 2 rfl ?_
          refine oj_iast hc 0 mC_m_shipCell mC_m_shipCell_s rfl rfl dX9_ship_60 (fun σ5 => ?_)
          refine oj_aload_n hc dX9_ship_61 rfl 0 rfl ?_
          refine oj_getf hc ff_X9_69 mC_Model rfl dX9_ship_62 ?_
          refine oj_aload_n hc dX9_ship_65 rfl 0 rfl ?_
          refine oj_getf hc ff_X9_107 mC_Model rfl dX9_ship_66 ?_
          refine oj_iload_n hc dX9_ship_69 rfl 3 rfl ?_
          refine oj_iast hc 0 mC_m_shipHour mC_m_shipHour_s rfl rfl dX9_ship_70 (fun σ6 => ?_)
          refine oj_aload_n hc dX9_ship_71 rfl 0 rfl ?_
          refine oj_dup hc dX9_ship_72 rfl ?_
          refine oj_getf hc ff_X9_107 mC_Model rfl dX9_ship_73 ?_
          refine oj_iconst hc 1 dX9_ship_76 kc_1 ?_
          refine oj_iadd hc dX9_ship_77 ?_
          refine oj_putf hc fp_X9_107 mC_Model mC_Model_s23 rfl rfl (Nat.le_of_ble_eq_true rfl) dX9_ship_78 (fun σ7 => ?_)
          refine oj_aload_n hc dX9_ship_81 rfl 0 rfl ?_
          refine oj_getf hc ff_X9_107 mC_Model rfl dX9_ship_82 ?_
          refine oj_iconst hc 1 dX9_ship_85 kc_1 ?_
          refine oj_isub hc dX9_ship_86 ?_
          exact hret _ _ _ _ rfl dX9_ship_87
        · refine oj_iconst hc (-1) dX9_ship_39 kc_m1 ?_
          exact hret _ _ _ _ rfl dX9_ship_40
set_option maxRecDepth 100000 in
theorem c_X9_ship {l : Launch} {D : va_G} {E : ojE} {ad : Nat → Nat} (a1 : Int32) (a2 : Int32) (a3 : Int32) (σ : ojS) : ∀ (r : Int32) (σ1 : ojS), f_X9_ship a1 a2 a3 σ = some (r, σ1) → ojMi (vM_ l D E ad) yX9_ship cX9_ship 4 (some .int) 4 [.ref (ad 0), .int a1, .int a2, .int a3] σ r σ1 :=
  ojMi_W (by decide +kernel) rfl .int rfl (Nat.le_of_ble_eq_true rfl) rfl (fun X Q hc hret => wk_X9_ship hc hret a1 a2 a3 σ)

def f_X9_could_177 (rec_66 : Int32 → ojS → Option (Int32 × ojS)) (a2 : Int32) (a3 : Int32) (a4 : Int32) (σ : ojS) : Option (Int32 × ojS) :=
  ojFix (fun _ _ => none) 600 (fun (rec_177 : Int32 → ojS → Option (Int32 × ojS)) (v4_177 : Int32) (σ_177 : ojS) =>
    if 96 ≤ v4_177 then
      ojLet (a3 + 1) (fun (x5 : Int32) =>
        rec_66 x5 σ_177)
    else
      ojChk v4_177 96 (
        ojChk v4_177 96 (ojLet (ojU σ_177 23 v4_177.toNatClampNeg (vp_nar .boolean (σ_177 24 v4_177.toNatClampNeg))) (fun (σ6 : ojS) =>
          ojLet (v4_177 + 1) (fun (x7 : Int32) =>
            rec_177 x7 σ6))))) a4 σ
set_option maxRecDepth 100000 in
set_option maxHeartbeats 4000000 in
theorem wk_X9_could_177 {l : Launch} {D : va_G} {E : ojE} {ad : Nat → Nat} {X : ojX} {Q : Int32 × ojS → State → Prop} (hc : ojC X (vM_ l D E ad) RX9 cX9_could 5 4) (hret : ojRi X (vM_ l D E ad) Q cX9_could .boolean) (rec_66 : Int32 → ojS → Option (Int32 × ojS)) (a2 : Int32) (a3 : Int32) (a4 : Int32) (σ : ojS) (hrec_66 : ∀ (v3_66 : Int32) (σ_66 : ojS), ojJ X (vM_ l D E ad) Q (rec_66 v3_66 σ_66) σ_66 66 [(0, .ref (ad 0)), (2, .int a2), (3, .int v3_66)] []) : ojJ X (vM_ l D E ad) Q (f_X9_could_177 rec_66 a2 a3 a4 σ) σ 177 [(0, .ref (ad 0)), (2, .int a2), (3, .int a3), (4, .int a4)] [] := by
  unfold f_X9_could_177
  refine oj_fix (fun (r : Int32 → ojS → Option (Int32 × ojS)) => ∀ (v4_177 : Int32) (σ_177 : ojS), ojJ X (vM_ l D E ad) Q (r v4_177 σ_177) σ_177 177 [(0, .ref (ad 0)), (2, .int a2), (3, .int a3), (4, .int v4_177)] []) _ (fun _ _ => oj_none) (fun rec_177 hrec_177 v4_177 σ_177 => ?_) 600 a4 σ
  refine oj_iload hc dX9_could_177 3 rfl ?_
  refine oj_bipush hc 96 dX9_could_179 kb_96 ?_
  refine oj_icmp_ge hc 204 dX9_could_181 (by decide) (fun _ => ?_) ?_
  · refine oj_iinc hc 1 (fun u => [(0, .ref (ad 0)), (2, .int a2), (3, .int u), (4, .int v4_177)]) 2 rfl kc_1 (fun _ => rfl) (by decide) dX9_could_204 (fun x5 => ?_)
    refine oj_goto hc 66 dX9_could_207 (by decide) ?_
    refine oj_sub [0, 1, 2] rfl ?_
    exact hrec_66 x5 σ_177
  · refine oj_aload_n hc dX9_could_184 rfl 0 rfl ?_
    refine oj_getf hc ff_X9_81 mC_Model rfl dX9_could_185 ?_
    refine oj_iload hc dX9_could_188 3 rfl ?_
    refine oj_aload_n hc dX9_could_190 rfl 0 rfl ?_
    refine oj_getf hc ff_X9_84 mC_Model rfl dX9_could_191 ?_
    refine oj_iload hc dX9_could_194 3 rfl ?_
    refine oj_zald hc 1 mC_m_isNext rfl dX9_could_196 ?_
    refine oj_zast hc 1 mC_m_isThere mC_m_isThere_s rfl rfl dX9_could_197 (fun σ6 => ?_)
    refine oj_iinc hc 1 (fun u => [(0, .ref (ad 0)), (2, .int a2), (3, .int a3), (4, .int u)]) 3 rfl kc_1 (fun _ => rfl) (by decide) dX9_could_198 (fun x7 => ?_)
    refine oj_goto hc 177 dX9_could_201 (by decide) ?_
    exact hrec_177 x7 σ6
def f_X9_could_174 (rec_66 : Int32 → ojS → Option (Int32 × ojS)) (a2 : Int32) (a3 : Int32) (σ : ojS) : Option (Int32 × ojS) :=
  f_X9_could_177 rec_66 a2 a3 0 σ
set_option maxRecDepth 100000 in
set_option maxHeartbeats 4000000 in
theorem wk_X9_could_174 {l : Launch} {D : va_G} {E : ojE} {ad : Nat → Nat} {X : ojX} {Q : Int32 × ojS → State → Prop} (hc : ojC X (vM_ l D E ad) RX9 cX9_could 5 4) (hret : ojRi X (vM_ l D E ad) Q cX9_could .boolean) (rec_66 : Int32 → ojS → Option (Int32 × ojS)) (a2 : Int32) (a3 : Int32) (σ : ojS) (hrec_66 : ∀ (v3_66 : Int32) (σ_66 : ojS), ojJ X (vM_ l D E ad) Q (rec_66 v3_66 σ_66) σ_66 66 [(0, .ref (ad 0)), (2, .int a2), (3, .int v3_66)] []) : ojJ X (vM_ l D E ad) Q (f_X9_could_174 rec_66 a2 a3 σ) σ 174 [(0, .ref (ad 0)), (2, .int a2), (3, .int a3)] [] := by
  unfold f_X9_could_174
  refine oj_iconst hc 0 dX9_could_174 kc_0 ?_
  refine oj_istore hc [(0, .ref (ad 0)), (2, .int a2), (3, .int a3), (4, .int 0)] rfl (by decide) dX9_could_175 ?_
  exact wk_X9_could_177 hc hret rec_66 a2 a3 0 σ hrec_66
def f_X9_could_107 (rec_66 : Int32 → ojS → Option (Int32 × ojS)) (a2 : Int32) (a3 : Int32) (a4 : Int32) (σ : ojS) : Option (Int32 × ojS) :=
  ojFix (fun _ _ => none) 600 (fun (rec_107 : Int32 → ojS → Option (Int32 × ojS)) (v4_107 : Int32) (σ_107 : ojS) =>
    if 96 ≤ v4_107 then
      f_X9_could_174 rec_66 a2 a3 σ_107
    else
      ojChk a3 1503 (
        if (σ_107 3 a3.toNatClampNeg) ≤ 0 then
          f_X9_could_174 rec_66 a2 a3 σ_107
        else
          ojChk v4_107 96 (
            if (σ_107 23 v4_107.toNatClampNeg) = 0 then
              ojLet (v4_107 + 1) (fun (x8 : Int32) =>
                rec_107 x8 σ_107)
            else
              ojChk a3 1503 (
                ojB1 (f_X9_step v4_107 (σ_107 3 a3.toNatClampNeg)) (fun (r9 : Int32) =>
                  ojB1 (f_X9_isSea r9 σ_107) (fun (r10 : Int32) =>
                    if r10 = 0 then
                      ojLet (v4_107 + 1) (fun (x11 : Int32) =>
                        rec_107 x11 σ_107)
                    else
                      ojChk a3 1503 (
                        ojB1 (f_X9_step v4_107 (σ_107 3 a3.toNatClampNeg)) (fun (r12 : Int32) =>
                          ojChk r12 96 (ojLet (ojU σ_107 24 r12.toNatClampNeg (vp_nar .boolean 1)) (fun (σ13 : ojS) =>
                            ojLet (v4_107 + 1) (fun (x14 : Int32) =>
                              rec_107 x14 σ13))))))))))) a4 σ
set_option maxRecDepth 100000 in
set_option maxHeartbeats 4000000 in
theorem wk_X9_could_107 {l : Launch} {D : va_G} {E : ojE} {ad : Nat → Nat} {X : ojX} {Q : Int32 × ojS → State → Prop} (hc : ojC X (vM_ l D E ad) RX9 cX9_could 5 4) (hret : ojRi X (vM_ l D E ad) Q cX9_could .boolean) (rec_66 : Int32 → ojS → Option (Int32 × ojS)) (a2 : Int32) (a3 : Int32) (a4 : Int32) (σ : ojS) (hrec_66 : ∀ (v3_66 : Int32) (σ_66 : ojS), ojJ X (vM_ l D E ad) Q (rec_66 v3_66 σ_66) σ_66 66 [(0, .ref (ad 0)), (2, .int a2), (3, .int v3_66)] []) : ojJ X (vM_ l D E ad) Q (f_X9_could_107 rec_66 a2 a3 a4 σ) σ 107 [(0, .ref (ad 0)), (2, .int a2), (3, .int a3), (4, .int a4)] [] := by
  unfold f_X9_could_107
  refine oj_fix (fun (r : Int32 → ojS → Option (Int32 × ojS)) => ∀ (v4_107 : Int32) (σ_107 : ojS), ojJ X (vM_ l D E ad) Q (r v4_107 σ_107) σ_107 107 [(0, .ref (ad 0)), (2, .int a2), (3, .int a3), (4, .int v4_107)] []) _ (fun _ _ => oj_none) (fun rec_107 hrec_107 v4_107 σ_107 => ?_) 600 a4 σ
  refine oj_iload hc dX9_could_107 3 rfl ?_
  refine oj_bipush hc 96 dX9_could_109 kb_96 ?_
  refine oj_icmp_ge hc 174 dX9_could_111 (by decide) (fun _ => ?_) ?_
  · refine oj_sub [0, 1, 2] rfl ?_
    exact wk_X9_could_174 hc hret rec_66 a2 a3 σ_107 hrec_66
  · refine oj_aload_n hc dX9_could_114 rfl 0 rfl ?_
    refine oj_getf hc ff_X9_16 mC_Model rfl dX9_could_115 ?_
    refine oj_iload_n hc dX9_could_118 rfl 2 rfl ?_
    refine oj_iald hc 0 mC_m_way rfl dX9_could_119 ?_
    refine oj_if_le hc 174 dX9_could_120 (by decide) (fun _ => ?_) ?_
    · refine oj_sub [0, 1, 2] rfl ?_
      exact wk_X9_could_174 hc hret rec_66 a2 a3 σ_107 hrec_66
    · refine oj_aload_n hc dX9_could_123 rfl 0 rfl ?_
      refine oj_getf hc ff_X9_81 mC_Model rfl dX9_could_124 ?_
      refine oj_iload hc dX9_could_127 3 rfl ?_
      refine oj_zald hc 1 mC_m_isThere rfl dX9_could_129 ?_
      refine oj_if_eq hc 168 dX9_could_130 (by decide) (fun _ => ?_) ?_
      · refine oj_iinc hc 1 (fun u => [(0, .ref (ad 0)), (2, .int a2), (3, .int a3), (4, .int u)]) 3 rfl kc_1 (fun _ => rfl) (by decide) dX9_could_168 (fun x8 => ?_)
        refine oj_goto hc 107 dX9_could_171 (by decide) ?_
        exact hrec_107 x8 σ_107
      · refine oj_aload_n hc dX9_could_133 rfl 0 rfl ?_
        refine oj_iload hc dX9_could_134 3 rfl ?_
        refine oj_aload_n hc dX9_could_136 rfl 0 rfl ?_
        refine oj_getf hc ff_X9_16 mC_Model rfl dX9_could_137 ?_
        refine oj_iload_n hc dX9_could_140 rfl 2 rfl ?_
        refine oj_iald hc 0 mC_m_way rfl dX9_could_141 ?_
        refine oj_cS1 hc cs_X9_126 (by omega) [.int v4_107, .int (σ_107 3 a3.toNatClampNeg)] [.ref (ad 0)] rfl rfl (Nat.le_of_ble_eq_true rfl) dX9_could_142 (c_X9_step v4_107 (σ_107 3 a3.toNatClampNeg) σ_107) (fun r9 => ?_)
        refine oj_cV1 hc cv_X9_110 (by omega) mC_Model [.int r9] [] rfl rfl (Nat.le_of_ble_eq_true rfl) dX9_could_145 (c_X9_isSea r9 σ_107) (fun r10 => ?_)
        refine oj_if_eq hc 168 dX9_could_148 (by decide) (fun _ => ?_) ?_
        · refine oj_iinc hc 1 (fun u => [(0, .ref (ad 0)), (2, .int a2), (3, .int a3), (4, .int u)]) 3 rfl kc_1 (fun _ => rfl) (by decide) dX9_could_168 (fun x11 => ?_)
          refine oj_goto hc 107 dX9_could_171 (by decide) ?_
          exact hrec_107 x11 σ_107
        · refine oj_aload_n hc dX9_could_151 rfl 0 rfl ?_
          refine oj_getf hc ff_X9_84 mC_Model rfl dX9_could_152 ?_
          refine oj_iload hc dX9_could_155 3 rfl ?_
          refine oj_aload_n hc dX9_could_157 rfl 0 rfl ?_
          refine oj_getf hc ff_X9_16 mC_Model rfl dX9_could_158 ?_
          refine oj_iload_n hc dX9_could_161 rfl 2 rfl ?_
          refine oj_iald hc 0 mC_m_way rfl dX9_could_162 ?_
          refine oj_cS1 hc cs_X9_126 (by omega) [.int v4_107, .int (σ_107 3 a3.toNatClampNeg)] [.ref (ad 24)] rfl rfl (Nat.le_of_ble_eq_true rfl) dX9_could_163 (c_X9_step v4_107 (σ_107 3 a3.toNatClampNeg) σ_107) (fun r12 => ?_)
          refine oj_iconst hc 1 dX9_could_166 kc_1 ?_
          refine oj_zast hc 1 mC_m_isNext mC_m_isNext_s rfl rfl dX9_could_167 (fun σ13 => ?_)
          refine oj_iinc hc 1 (fun u => [(0, .ref (ad 0)), (2, .int a2), (3, .int a3), (4, .int u)]) 3 rfl kc_1 (fun _ => rfl) (by decide) dX9_could_168 (fun x14 => ?_)
          refine oj_goto hc 107 dX9_could_171 (by decide) ?_
          exact hrec_107 x14 σ13
def f_X9_could_104 (rec_66 : Int32 → ojS → Option (Int32 × ojS)) (a2 : Int32) (a3 : Int32) (σ : ojS) : Option (Int32 × ojS) :=
  f_X9_could_107 rec_66 a2 a3 0 σ
set_option maxRecDepth 100000 in
set_option maxHeartbeats 4000000 in
theorem wk_X9_could_104 {l : Launch} {D : va_G} {E : ojE} {ad : Nat → Nat} {X : ojX} {Q : Int32 × ojS → State → Prop} (hc : ojC X (vM_ l D E ad) RX9 cX9_could 5 4) (hret : ojRi X (vM_ l D E ad) Q cX9_could .boolean) (rec_66 : Int32 → ojS → Option (Int32 × ojS)) (a2 : Int32) (a3 : Int32) (σ : ojS) (hrec_66 : ∀ (v3_66 : Int32) (σ_66 : ojS), ojJ X (vM_ l D E ad) Q (rec_66 v3_66 σ_66) σ_66 66 [(0, .ref (ad 0)), (2, .int a2), (3, .int v3_66)] []) : ojJ X (vM_ l D E ad) Q (f_X9_could_104 rec_66 a2 a3 σ) σ 104 [(0, .ref (ad 0)), (2, .int a2), (3, .int a3)] [] := by
  unfold f_X9_could_104
  refine oj_iconst hc 0 dX9_could_104 kc_0 ?_
  refine oj_istore hc [(0, .ref (ad 0)), (2, .int a2), (3, .int a3), (4, .int 0)] rfl (by decide) dX9_could_105 ?_
  exact wk_X9_could_107 hc hret rec_66 a2 a3 0 σ hrec_66
def f_X9_could_77 (rec_66 : Int32 → ojS → Option (Int32 × ojS)) (a2 : Int32) (a3 : Int32) (a4 : Int32) (σ : ojS) : Option (Int32 × ojS) :=
  ojFix (fun _ _ => none) 600 (fun (rec_77 : Int32 → ojS → Option (Int32 × ojS)) (v4_77 : Int32) (σ_77 : ojS) =>
    if 96 ≤ v4_77 then
      f_X9_could_104 rec_66 a2 a3 σ_77
    else
      ojChk v4_77 96 (
        ojChk v4_77 96 (ojLet (ojU σ_77 24 v4_77.toNatClampNeg (vp_nar .boolean (σ_77 23 v4_77.toNatClampNeg))) (fun (σ15 : ojS) =>
          ojLet (v4_77 + 1) (fun (x16 : Int32) =>
            rec_77 x16 σ15))))) a4 σ
set_option maxRecDepth 100000 in
set_option maxHeartbeats 4000000 in
theorem wk_X9_could_77 {l : Launch} {D : va_G} {E : ojE} {ad : Nat → Nat} {X : ojX} {Q : Int32 × ojS → State → Prop} (hc : ojC X (vM_ l D E ad) RX9 cX9_could 5 4) (hret : ojRi X (vM_ l D E ad) Q cX9_could .boolean) (rec_66 : Int32 → ojS → Option (Int32 × ojS)) (a2 : Int32) (a3 : Int32) (a4 : Int32) (σ : ojS) (hrec_66 : ∀ (v3_66 : Int32) (σ_66 : ojS), ojJ X (vM_ l D E ad) Q (rec_66 v3_66 σ_66) σ_66 66 [(0, .ref (ad 0)), (2, .int a2), (3, .int v3_66)] []) : ojJ X (vM_ l D E ad) Q (f_X9_could_77 rec_66 a2 a3 a4 σ) σ 77 [(0, .ref (ad 0)), (2, .int a2), (3, .int a3), (4, .int a4)] [] := by
  unfold f_X9_could_77
  refine oj_fix (fun (r : Int32 → ojS → Option (Int32 × ojS)) => ∀ (v4_77 : Int32) (σ_77 : ojS), ojJ X (vM_ l D E ad) Q (r v4_77 σ_77) σ_77 77 [(0, .ref (ad 0)), (2, .int a2), (3, .int a3), (4, .int v4_77)] []) _ (fun _ _ => oj_none) (fun rec_77 hrec_77 v4_77 σ_77 => ?_) 600 a4 σ
  refine oj_iload hc dX9_could_77 3 rfl ?_
  refine oj_bipush hc 96 dX9_could_79 kb_96 ?_
  refine oj_icmp_ge hc 104 dX9_could_81 (by decide) (fun _ => ?_) ?_
  · refine oj_sub [0, 1, 2] rfl ?_
    exact wk_X9_could_104 hc hret rec_66 a2 a3 σ_77 hrec_66
  · refine oj_aload_n hc dX9_could_84 rfl 0 rfl ?_
    refine oj_getf hc ff_X9_84 mC_Model rfl dX9_could_85 ?_
    refine oj_iload hc dX9_could_88 3 rfl ?_
    refine oj_aload_n hc dX9_could_90 rfl 0 rfl ?_
    refine oj_getf hc ff_X9_81 mC_Model rfl dX9_could_91 ?_
    refine oj_iload hc dX9_could_94 3 rfl ?_
    refine oj_zald hc 1 mC_m_isThere rfl dX9_could_96 ?_
    refine oj_zast hc 1 mC_m_isNext mC_m_isNext_s rfl rfl dX9_could_97 (fun σ15 => ?_)
    refine oj_iinc hc 1 (fun u => [(0, .ref (ad 0)), (2, .int a2), (3, .int a3), (4, .int u)]) 3 rfl kc_1 (fun _ => rfl) (by decide) dX9_could_98 (fun x16 => ?_)
    refine oj_goto hc 77 dX9_could_101 (by decide) ?_
    exact hrec_77 x16 σ15
def f_X9_could_66 (a2 : Int32) (a3 : Int32) (σ : ojS) : Option (Int32 × ojS) :=
  ojFix (fun _ _ => none) 600 (fun (rec_66 : Int32 → ojS → Option (Int32 × ojS)) (v3_66 : Int32) (σ_66 : ojS) =>
    if (σ_66 0 0) ≤ v3_66 then
      ojChk a2 96 (
        ojBl (σ_66 23 a2.toNatClampNeg) (some (σ_66 23 a2.toNatClampNeg, σ_66)))
    else
      f_X9_could_77 rec_66 a2 v3_66 0 σ_66) a3 σ
set_option maxRecDepth 100000 in
set_option maxHeartbeats 4000000 in
theorem wk_X9_could_66 {l : Launch} {D : va_G} {E : ojE} {ad : Nat → Nat} {X : ojX} {Q : Int32 × ojS → State → Prop} (hc : ojC X (vM_ l D E ad) RX9 cX9_could 5 4) (hret : ojRi X (vM_ l D E ad) Q cX9_could .boolean) (a2 : Int32) (a3 : Int32) (σ : ojS) : ojJ X (vM_ l D E ad) Q (f_X9_could_66 a2 a3 σ) σ 66 [(0, .ref (ad 0)), (2, .int a2), (3, .int a3)] [] := by
  unfold f_X9_could_66
  refine oj_fix (fun (r : Int32 → ojS → Option (Int32 × ojS)) => ∀ (v3_66 : Int32) (σ_66 : ojS), ojJ X (vM_ l D E ad) Q (r v3_66 σ_66) σ_66 66 [(0, .ref (ad 0)), (2, .int a2), (3, .int v3_66)] []) _ (fun _ _ => oj_none) (fun rec_66 hrec_66 v3_66 σ_66 => ?_) 600 a3 σ
  refine oj_iload_n hc dX9_could_66 rfl 2 rfl ?_
  refine oj_aload_n hc dX9_could_67 rfl 0 rfl ?_
  refine oj_getf hc ff_X9_104 mC_Model rfl dX9_could_68 ?_
  refine oj_icmp_ge hc 210 dX9_could_71 (by decide) (fun _ => ?_) ?_
  · refine oj_aload_n hc dX9_could_210 rfl 0 rfl ?_
    refine oj_getf hc ff_X9_81 mC_Model rfl dX9_could_211 ?_
    refine oj_iload_n hc dX9_could_214 rfl 1 rfl ?_
    refine oj_zald hc 1 mC_m_isThere rfl dX9_could_215 ?_
    refine oj_bl (fun hz4 => ?_)
    exact hret _ _ _ _ (oj_nbl hz4) dX9_could_216
  · refine oj_iconst hc 0 dX9_could_74 kc_0 ?_
    refine oj_istore hc [(0, .ref (ad 0)), (2, .int a2), (3, .int v3_66), (4, .int 0)] rfl (by decide) dX9_could_75 ?_
    exact wk_X9_could_77 hc hret rec_66 a2 v3_66 0 σ_66 hrec_66
def f_X9_could_59 (a1 : Int32) (a2 : Int32) (σ : ojS) : Option (Int32 × ojS) :=
  ojChk a1 8 (
    ojLet (σ 19 a1.toNatClampNeg) (fun (x3 : Int32) =>
      f_X9_could_66 a2 x3 σ))
set_option maxRecDepth 100000 in
set_option maxHeartbeats 4000000 in
theorem wk_X9_could_59 {l : Launch} {D : va_G} {E : ojE} {ad : Nat → Nat} {X : ojX} {Q : Int32 × ojS → State → Prop} (hc : ojC X (vM_ l D E ad) RX9 cX9_could 5 4) (hret : ojRi X (vM_ l D E ad) Q cX9_could .boolean) (a1 : Int32) (a2 : Int32) (σ : ojS) : ojJ X (vM_ l D E ad) Q (f_X9_could_59 a1 a2 σ) σ 59 [(0, .ref (ad 0)), (1, .int a1), (2, .int a2)] [] := by
  unfold f_X9_could_59
  refine oj_aload_n hc dX9_could_59 rfl 0 rfl ?_
  refine oj_getf hc ff_X9_69 mC_Model rfl dX9_could_60 ?_
  refine oj_iload_n hc dX9_could_63 rfl 1 rfl ?_
  refine oj_iald hc 0 mC_m_shipHour rfl dX9_could_64 ?_
  refine oj_nm (fun x3 => ?_)
  refine oj_istore_n hc [(0, .ref (ad 0)), (1, .int a1), (2, .int a2), (3, .int x3)] rfl (by decide) dX9_could_65 rfl ?_
  refine oj_sub [0, 2, 3] rfl ?_
  exact wk_X9_could_66 hc hret a2 x3 σ
def f_X9_could_26 (a1 : Int32) (a2 : Int32) (a3 : Int32) (σ : ojS) : Option (Int32 × ojS) :=
  ojFix (fun _ _ => none) 600 (fun (rec_26 : Int32 → ojS → Option (Int32 × ojS)) (v3_26 : Int32) (σ_26 : ojS) =>
    if 96 ≤ v3_26 then
      f_X9_could_59 a1 a2 σ_26
    else
      ojChk a1 8 (
        if v3_26 = (σ_26 18 a1.toNatClampNeg) then
          ojChk v3_26 96 (ojLet (ojU σ_26 23 v3_26.toNatClampNeg (vp_nar .boolean 1)) (fun (σ19 : ojS) =>
            ojLet (v3_26 + 1) (fun (x20 : Int32) =>
              rec_26 x20 σ19)))
        else
          ojChk v3_26 96 (ojLet (ojU σ_26 23 v3_26.toNatClampNeg (vp_nar .boolean 0)) (fun (σ17 : ojS) =>
            ojLet (v3_26 + 1) (fun (x18 : Int32) =>
              rec_26 x18 σ17))))) a3 σ
set_option maxRecDepth 100000 in
set_option maxHeartbeats 4000000 in
theorem wk_X9_could_26 {l : Launch} {D : va_G} {E : ojE} {ad : Nat → Nat} {X : ojX} {Q : Int32 × ojS → State → Prop} (hc : ojC X (vM_ l D E ad) RX9 cX9_could 5 4) (hret : ojRi X (vM_ l D E ad) Q cX9_could .boolean) (a1 : Int32) (a2 : Int32) (a3 : Int32) (σ : ojS) : ojJ X (vM_ l D E ad) Q (f_X9_could_26 a1 a2 a3 σ) σ 26 [(0, .ref (ad 0)), (1, .int a1), (2, .int a2), (3, .int a3)] [] := by
  unfold f_X9_could_26
  refine oj_fix (fun (r : Int32 → ojS → Option (Int32 × ojS)) => ∀ (v3_26 : Int32) (σ_26 : ojS), ojJ X (vM_ l D E ad) Q (r v3_26 σ_26) σ_26 26 [(0, .ref (ad 0)), (1, .int a1), (2, .int a2), (3, .int v3_26)] []) _ (fun _ _ => oj_none) (fun rec_26 hrec_26 v3_26 σ_26 => ?_) 600 a3 σ
  refine oj_iload_n hc dX9_could_26 rfl 3 rfl ?_
  refine oj_bipush hc 96 dX9_could_27 kb_96 ?_
  refine oj_icmp_ge hc 59 dX9_could_29 (by decide) (fun _ => ?_) ?_
  · refine oj_sub [0, 1, 2] rfl ?_
    exact wk_X9_could_59 hc hret a1 a2 σ_26
  · refine oj_aload_n hc dX9_could_32 rfl 0 rfl ?_
    refine oj_getf hc ff_X9_81 mC_Model rfl dX9_could_33 ?_
    refine oj_iload_n hc dX9_could_36 rfl 3 rfl ?_
    refine oj_iload_n hc dX9_could_37 rfl 3 rfl ?_
    refine oj_aload_n hc dX9_could_38 rfl 0 rfl ?_
    refine oj_getf hc ff_X9_66 mC_Model rfl dX9_could_39 ?_
    refine oj_iload_n hc dX9_could_42 rfl 1 rfl ?_
    refine oj_iald hc 0 mC_m_shipCell rfl dX9_could_43 ?_
    refine oj_icmp_ne hc 51 dX9_could_44 (by decide) ?_ (fun _ => ?_)
    · refine oj_iconst hc 0 dX9_could_51 kc_0 ?_
      refine oj_zast hc 1 mC_m_isThere mC_m_isThere_s rfl rfl dX9_could_52 (fun σ17 => ?_)
      refine oj_iinc hc 1 (fun u => [(0, .ref (ad 0)), (1, .int a1), (2, .int a2), (3, .int u)]) 3 rfl kc_1 (fun _ => rfl) (by decide) dX9_could_53 (fun x18 => ?_)
      refine oj_goto hc 26 dX9_could_56 (by decide) ?_
      exact hrec_26 x18 σ17
    · refine oj_iconst hc 1 dX9_could_47 kc_1 ?_
      refine oj_goto hc 52 dX9_could_48 (by decide) ?_
      refine oj_zast hc 1 mC_m_isThere mC_m_isThere_s rfl rfl dX9_could_52 (fun σ19 => ?_)
      refine oj_iinc hc 1 (fun u => [(0, .ref (ad 0)), (1, .int a1), (2, .int a2), (3, .int u)]) 3 rfl kc_1 (fun _ => rfl) (by decide) dX9_could_53 (fun x20 => ?_)
      refine oj_goto hc 26 dX9_could_56 (by decide) ?_
      exact hrec_26 x20 σ19
def f_X9_could (a1 : Int32) (a2 : Int32) (σ : ojS) : Option (Int32 × ojS) :=
  ojB1 (f_X9_in a1 0 ((σ 0 23) - 1)) (fun (r1 : Int32) =>
    if r1 = 0 then
      some (0, σ)
    else
      ojB1 (f_X9_isSea a2 σ) (fun (r2 : Int32) =>
        if r2 = 0 then
          some (0, σ)
        else
          f_X9_could_26 a1 a2 0 σ))
set_option maxRecDepth 100000 in
set_option maxHeartbeats 4000000 in
theorem wk_X9_could {l : Launch} {D : va_G} {E : ojE} {ad : Nat → Nat} {X : ojX} {Q : Int32 × ojS → State → Prop} (hc : ojC X (vM_ l D E ad) RX9 cX9_could 5 4) (hret : ojRi X (vM_ l D E ad) Q cX9_could .boolean) (a1 : Int32) (a2 : Int32) (σ : ojS) : ojJ X (vM_ l D E ad) Q (f_X9_could a1 a2 σ) σ 0 [(0, .ref (ad 0)), (1, .int a1), (2, .int a2)] [] := by
  unfold f_X9_could
  refine oj_iload_n hc dX9_could_0 rfl 1 rfl ?_
  refine oj_iconst hc 0 dX9_could_1 kc_0 ?_
  refine oj_aload_n hc dX9_could_2 rfl 0 rfl ?_
  refine oj_getf hc ff_X9_107 mC_Model rfl dX9_could_3 ?_
  refine oj_iconst hc 1 dX9_could_6 kc_1 ?_
  refine oj_isub hc dX9_could_7 ?_
  refine oj_cS1 hc cs_X9_93 (by omega) [.int a1, .int 0, .int ((σ 0 23) - 1)] [] rfl rfl (Nat.le_of_ble_eq_true rfl) dX9_could_8 (c_X9_in a1 0 ((σ 0 23) - 1) σ) (fun r1 => ?_)
  refine oj_if_eq hc 22 dX9_could_11 (by decide) (fun _ => ?_) ?_
  · refine oj_iconst hc 0 dX9_could_22 kc_0 ?_
    exact hret _ _ _ _ rfl dX9_could_23
  · refine oj_aload_n hc dX9_could_14 rfl 0 rfl ?_
    refine oj_iload_n hc dX9_could_15 rfl 2 rfl ?_
    refine oj_cV1 hc cv_X9_110 (by omega) mC_Model [.int a2] [] rfl rfl (Nat.le_of_ble_eq_true rfl) dX9_could_16 (c_X9_isSea a2 σ) (fun r2 => ?_)
    refine oj_if_ne hc 24 dX9_could_19 (by decide) ?_ (fun _ => ?_)
    · refine oj_iconst hc 0 dX9_could_24 kc_0 ?_
      refine oj_istore_n hc [(0, .ref (ad 0)), (1, .int a1), (2, .int a2), (3, .int 0)] rfl (by decide) dX9_could_25 rfl ?_
      exact wk_X9_could_26 hc hret a1 a2 0 σ
    · refine oj_iconst hc 0 dX9_could_22 kc_0 ?_
      exact hret _ _ _ _ rfl dX9_could_23
set_option maxRecDepth 100000 in
theorem c_X9_could {l : Launch} {D : va_G} {E : ojE} {ad : Nat → Nat} (a1 : Int32) (a2 : Int32) (σ : ojS) : ∀ (r : Int32) (σ1 : ojS), f_X9_could a1 a2 σ = some (r, σ1) → ojMi (vM_ l D E ad) yX9_could cX9_could 5 (some .boolean) 4 [.ref (ad 0), .int a1, .int a2] σ r σ1 :=
  ojMi_W (by decide +kernel) rfl .boolean rfl (Nat.le_of_ble_eq_true rfl) rfl (fun X Q hc hret => wk_X9_could hc hret a1 a2 σ)

def f_X9_apart_10 (a2 : Int32) (a3 : Int32) (a4 : Int32) (a5 : Int32) : Option (Int32) :=
  ojFix (fun _ _ _ _ => none) 600 (fun (rec_10 : Int32 → Int32 → Int32 → Int32 → Option (Int32)) (v2_10 : Int32) (v3_10 : Int32) (v4_10 : Int32) (v5_10 : Int32) =>
    if 6 ≤ v5_10 then
      some v2_10
    else
      ojLet (v2_10 + (((ojRem v3_10 10) - (ojRem v4_10 10)) * ((ojRem v3_10 10) - (ojRem v4_10 10)))) (fun (x1 : Int32) =>
        ojLet (v3_10 / 10) (fun (x2 : Int32) =>
          ojLet (v4_10 / 10) (fun (x3 : Int32) =>
            ojLet (v5_10 + 1) (fun (x4 : Int32) =>
              rec_10 x1 x2 x3 x4))))) a2 a3 a4 a5
set_option maxRecDepth 100000 in
set_option maxHeartbeats 4000000 in
theorem wk_X9_apart_10 {l : Launch} {D : va_G} {E : ojE} {ad : Nat → Nat} {X : ojX} {Q : Int32 → State → Prop} (hc : ojC X (vM_ l D E ad) RX9 cX9_apart 6 1) (σ : ojS) (hret : ojRr X (vM_ l D E ad) Q cX9_apart .int σ) (a2 : Int32) (a3 : Int32) (a4 : Int32) (a5 : Int32) : ojJ X (vM_ l D E ad) Q (f_X9_apart_10 a2 a3 a4 a5) σ 10 [(2, .int a2), (3, .int a3), (4, .int a4), (5, .int a5)] [] := by
  unfold f_X9_apart_10
  refine oj_fix (fun (r : Int32 → Int32 → Int32 → Int32 → Option (Int32)) => ∀ (v2_10 : Int32) (v3_10 : Int32) (v4_10 : Int32) (v5_10 : Int32), ojJ X (vM_ l D E ad) Q (r v2_10 v3_10 v4_10 v5_10) σ 10 [(2, .int v2_10), (3, .int v3_10), (4, .int v4_10), (5, .int v5_10)] []) _ (fun _ _ _ _ => oj_none) (fun rec_10 hrec_10 v2_10 v3_10 v4_10 v5_10 => ?_) 600 a2 a3 a4 a5
  refine oj_iload hc dX9_apart_10 3 rfl ?_
  refine oj_bipush hc 6 dX9_apart_12 kb_6 ?_
  refine oj_icmp_ge hc 59 dX9_apart_14 (by decide) (fun _ => ?_) ?_
  · refine oj_iload_n hc dX9_apart_59 rfl 0 rfl ?_
    exact hret _ _ _ rfl dX9_apart_60
  · refine oj_iload_n hc dX9_apart_17 rfl 0 rfl ?_
    refine oj_iload_n hc dX9_apart_18 rfl 1 rfl ?_
    refine oj_bipush hc 10 dX9_apart_19 kb_10 ?_
    refine oj_irem hc dX9_apart_21 (by decide) ?_
    refine oj_iload hc dX9_apart_22 2 rfl ?_
    refine oj_bipush hc 10 dX9_apart_24 kb_10 ?_
    refine oj_irem hc dX9_apart_26 (by decide) ?_
    refine oj_isub hc dX9_apart_27 ?_
    refine oj_iload_n hc dX9_apart_28 rfl 1 rfl ?_
    refine oj_bipush hc 10 dX9_apart_29 kb_10 ?_
    refine oj_irem hc dX9_apart_31 (by decide) ?_
    refine oj_iload hc dX9_apart_32 2 rfl ?_
    refine oj_bipush hc 10 dX9_apart_34 kb_10 ?_
    refine oj_irem hc dX9_apart_36 (by decide) ?_
    refine oj_isub hc dX9_apart_37 ?_
    refine oj_imul hc dX9_apart_38 ?_
    refine oj_iadd hc dX9_apart_39 ?_
    refine oj_nm (fun x1 => ?_)
    refine oj_istore_n hc [(2, .int x1), (3, .int v3_10), (4, .int v4_10), (5, .int v5_10)] rfl (by decide) dX9_apart_40 rfl ?_
    refine oj_iload_n hc dX9_apart_41 rfl 1 rfl ?_
    refine oj_bipush hc 10 dX9_apart_42 kb_10 ?_
    refine oj_idiv hc dX9_apart_44 (by decide) ?_
    refine oj_nm (fun x2 => ?_)
    refine oj_istore_n hc [(2, .int x1), (3, .int x2), (4, .int v4_10), (5, .int v5_10)] rfl (by decide) dX9_apart_45 rfl ?_
    refine oj_iload hc dX9_apart_46 2 rfl ?_
    refine oj_bipush hc 10 dX9_apart_48 kb_10 ?_
    refine oj_idiv hc dX9_apart_50 (by decide) ?_
    refine oj_nm (fun x3 => ?_)
    refine oj_istore hc [(2, .int x1), (3, .int x2), (4, .int x3), (5, .int v5_10)] rfl (by decide) dX9_apart_51 ?_
    refine oj_iinc hc 1 (fun u => [(2, .int x1), (3, .int x2), (4, .int x3), (5, .int u)]) 3 rfl kc_1 (fun _ => rfl) (by decide) dX9_apart_53 (fun x4 => ?_)
    refine oj_goto hc 10 dX9_apart_56 (by decide) ?_
    exact hrec_10 x1 x2 x3 x4
def f_X9_apart (a0 : Int32) (a1 : Int32) : Option (Int32) :=
  f_X9_apart_10 0 a0 a1 0
set_option maxRecDepth 100000 in
set_option maxHeartbeats 4000000 in
theorem wk_X9_apart {l : Launch} {D : va_G} {E : ojE} {ad : Nat → Nat} {X : ojX} {Q : Int32 → State → Prop} (hc : ojC X (vM_ l D E ad) RX9 cX9_apart 6 1) (σ : ojS) (hret : ojRr X (vM_ l D E ad) Q cX9_apart .int σ) (a0 : Int32) (a1 : Int32) : ojJ X (vM_ l D E ad) Q (f_X9_apart a0 a1) σ 0 [(0, .int a0), (1, .int a1)] [] := by
  unfold f_X9_apart
  refine oj_iconst hc 0 dX9_apart_0 kc_0 ?_
  refine oj_istore_n hc [(0, .int a0), (1, .int a1), (2, .int 0)] rfl (by decide) dX9_apart_1 rfl ?_
  refine oj_iload_n hc dX9_apart_2 rfl 0 rfl ?_
  refine oj_istore_n hc [(0, .int a0), (1, .int a1), (2, .int 0), (3, .int a0)] rfl (by decide) dX9_apart_3 rfl ?_
  refine oj_iload_n hc dX9_apart_4 rfl 1 rfl ?_
  refine oj_istore hc [(0, .int a0), (1, .int a1), (2, .int 0), (3, .int a0), (4, .int a1)] rfl (by decide) dX9_apart_5 ?_
  refine oj_iconst hc 0 dX9_apart_7 kc_0 ?_
  refine oj_istore hc [(0, .int a0), (1, .int a1), (2, .int 0), (3, .int a0), (4, .int a1), (5, .int 0)] rfl (by decide) dX9_apart_8 ?_
  refine oj_sub [2, 3, 4, 5] rfl ?_
  exact wk_X9_apart_10 hc _ hret 0 a0 a1 0
set_option maxRecDepth 100000 in
theorem c_X9_apart {l : Launch} {D : va_G} {E : ojE} {ad : Nat → Nat} (a0 : Int32) (a1 : Int32) (σ : ojS) : ∀ (r : Int32), f_X9_apart a0 a1 = some r → ojMi (vM_ l D E ad) yX9_apart cX9_apart 6 (some .int) 1 [.int a0, .int a1] σ r σ :=
  ojMi_R (by decide +kernel) rfl .int rfl (Nat.le_of_ble_eq_true rfl) rfl (fun X Q hc hret => wk_X9_apart hc σ hret a0 a1)

def f_X9_sample_77 (a1 : Int32) (a2 : Int32) (a3 : Int32) (a4 : Int32) (σ : ojS) : Option (Int32 × ojS) :=
  ojFix (fun _ _ => none) 600 (fun (rec_77 : Int32 → ojS → Option (Int32 × ojS)) (v4_77 : Int32) (σ_77 : ojS) =>
    if (σ_77 0 23) ≤ v4_77 then
      some (a3, σ_77)
    else
      if v4_77 = a3 then
        ojLet (v4_77 + 1) (fun (x2 : Int32) =>
          rec_77 x2 σ_77)
      else
        ojB2 (f_X9_could v4_77 a1 σ_77) (fun (r3 : Int32) (σ4 : ojS) =>
          if r3 = 0 then
            ojLet (v4_77 + 1) (fun (x5 : Int32) =>
              rec_77 x5 σ4)
          else
            ojChk v4_77 8 (
              ojB1 (f_X9_apart (σ4 17 v4_77.toNatClampNeg) a2) (fun (r6 : Int32) =>
                ojChk a3 8 (
                  ojB1 (f_X9_apart (σ4 17 a3.toNatClampNeg) a2) (fun (r7 : Int32) =>
                    if (r7 + 5) ≤ r6 then
                      ojLet (v4_77 + 1) (fun (x8 : Int32) =>
                        rec_77 x8 σ4)
                    else
                      some ((-2), σ4))))))) a4 σ
set_option maxRecDepth 100000 in
set_option maxHeartbeats 4000000 in
theorem wk_X9_sample_77 {l : Launch} {D : va_G} {E : ojE} {ad : Nat → Nat} {X : ojX} {Q : Int32 × ojS → State → Prop} (hc : ojC X (vM_ l D E ad) RX9 cX9_sample 5 5) (hret : ojRi X (vM_ l D E ad) Q cX9_sample .int) (a1 : Int32) (a2 : Int32) (a3 : Int32) (a4 : Int32) (σ : ojS) : ojJ X (vM_ l D E ad) Q (f_X9_sample_77 a1 a2 a3 a4 σ) σ 77 [(0, .ref (ad 0)), (1, .int a1), (2, .int a2), (3, .int a3), (4, .int a4)] [] := by
  unfold f_X9_sample_77
  refine oj_fix (fun (r : Int32 → ojS → Option (Int32 × ojS)) => ∀ (v4_77 : Int32) (σ_77 : ojS), ojJ X (vM_ l D E ad) Q (r v4_77 σ_77) σ_77 77 [(0, .ref (ad 0)), (1, .int a1), (2, .int a2), (3, .int a3), (4, .int v4_77)] []) _ (fun _ _ => oj_none) (fun rec_77 hrec_77 v4_77 σ_77 => ?_) 600 a4 σ
  refine oj_iload hc dX9_sample_77 4 rfl ?_
  refine oj_aload_n hc dX9_sample_79 rfl 0 rfl ?_
  refine oj_getf hc ff_X9_107 mC_Model rfl dX9_sample_80 ?_
  refine oj_icmp_ge hc 137 dX9_sample_83 (by decide) (fun _ => ?_) ?_
  · refine oj_iload_n hc dX9_sample_137 rfl 3 rfl ?_
    exact hret _ _ _ _ rfl dX9_sample_138
  · refine oj_iload hc dX9_sample_86 4 rfl ?_
    refine oj_iload_n hc dX9_sample_88 rfl 3 rfl ?_
    refine oj_icmp_eq hc 131 dX9_sample_89 (by decide) (fun _ => ?_) ?_
    · refine oj_iinc hc 1 (fun u => [(0, .ref (ad 0)), (1, .int a1), (2, .int a2), (3, .int a3), (4, .int u)]) 4 rfl kc_1 (fun _ => rfl) (by decide) dX9_sample_131 (fun x2 => ?_)
      refine oj_goto hc 77 dX9_sample_134 (by decide) ?_
      exact hrec_77 x2 σ_77
    · refine oj_aload_n hc dX9_sample_92 rfl 0 rfl ?_
      refine oj_iload hc dX9_sample_93 4 rfl ?_
      refine oj_iload_n hc dX9_sample_95 rfl 1 rfl ?_
      refine oj_cV2 hc cv_X9_180 (by omega) mC_Model [.int v4_77, .int a1] [] rfl rfl (Nat.le_of_ble_eq_true rfl) dX9_sample_96 (c_X9_could v4_77 a1 σ_77) (fun r3 σ4 => ?_)
      refine oj_if_eq hc 131 dX9_sample_99 (by decide) (fun _ => ?_) ?_
      · refine oj_iinc hc 1 (fun u => [(0, .ref (ad 0)), (1, .int a1), (2, .int a2), (3, .int a3), (4, .int u)]) 4 rfl kc_1 (fun _ => rfl) (by decide) dX9_sample_131 (fun x5 => ?_)
        refine oj_goto hc 77 dX9_sample_134 (by decide) ?_
        exact hrec_77 x5 σ4
      · refine oj_aload_n hc dX9_sample_102 rfl 0 rfl ?_
        refine oj_getf hc ff_X9_63 mC_Model rfl dX9_sample_103 ?_
        refine oj_iload hc dX9_sample_106 4 rfl ?_
        refine oj_iald hc 0 mC_m_shipMark rfl dX9_sample_108 ?_
        refine oj_iload_n hc dX9_sample_109 rfl 2 rfl ?_
        refine oj_cS1 hc cs_X9_183 (by omega) [.int (σ4 17 v4_77.toNatClampNeg), .int a2] [] rfl rfl (Nat.le_of_ble_eq_true rfl) dX9_sample_110 (c_X9_apart (σ4 17 v4_77.toNatClampNeg) a2 σ4) (fun r6 => ?_)
        refine oj_aload_n hc dX9_sample_113 rfl 0 rfl ?_
        refine oj_getf hc ff_X9_63 mC_Model rfl dX9_sample_114 ?_
        refine oj_iload_n hc dX9_sample_117 rfl 3 rfl ?_
        refine oj_iald hc 0 mC_m_shipMark rfl dX9_sample_118 ?_
        refine oj_iload_n hc dX9_sample_119 rfl 2 rfl ?_
        refine oj_cS1 hc cs_X9_183 (by omega) [.int (σ4 17 a3.toNatClampNeg), .int a2] [.int r6] rfl rfl (Nat.le_of_ble_eq_true rfl) dX9_sample_120 (c_X9_apart (σ4 17 a3.toNatClampNeg) a2 σ4) (fun r7 => ?_)
        refine oj_iconst hc 5 dX9_sample_123 kc_5 ?_
        refine oj_iadd hc dX9_sample_124 ?_
        refine oj_icmp_ge hc 131 dX9_sample_125 (by decide) (fun _ => ?_) ?_
        · refine oj_iinc hc 1 (fun u => [(0, .ref (ad 0)), (1, .int a1), (2, .int a2), (3, .int a3), (4, .int u)]) 4 rfl kc_1 (fun _ => rfl) (by decide) dX9_sample_131 (fun x8 => ?_)
          refine oj_goto hc 77 dX9_sample_134 (by decide) ?_
          exact hrec_77 x8 σ4
        · refine oj_bipush hc (-2) dX9_sample_128 kb_m2 ?_
          exact hret _ _ _ _ rfl dX9_sample_130
def f_X9_sample_74 (a1 : Int32) (a2 : Int32) (a3 : Int32) (σ : ojS) : Option (Int32 × ojS) :=
  f_X9_sample_77 a1 a2 a3 0 σ
set_option maxRecDepth 100000 in
set_option maxHeartbeats 4000000 in
theorem wk_X9_sample_74 {l : Launch} {D : va_G} {E : ojE} {ad : Nat → Nat} {X : ojX} {Q : Int32 × ojS → State → Prop} (hc : ojC X (vM_ l D E ad) RX9 cX9_sample 5 5) (hret : ojRi X (vM_ l D E ad) Q cX9_sample .int) (a1 : Int32) (a2 : Int32) (a3 : Int32) (σ : ojS) : ojJ X (vM_ l D E ad) Q (f_X9_sample_74 a1 a2 a3 σ) σ 74 [(0, .ref (ad 0)), (1, .int a1), (2, .int a2), (3, .int a3)] [] := by
  unfold f_X9_sample_74
  refine oj_iconst hc 0 dX9_sample_74 kc_0 ?_
  refine oj_istore hc [(0, .ref (ad 0)), (1, .int a1), (2, .int a2), (3, .int a3), (4, .int 0)] rfl (by decide) dX9_sample_75 ?_
  exact wk_X9_sample_77 hc hret a1 a2 a3 0 σ
def f_X9_sample_17 (a1 : Int32) (a2 : Int32) (a3 : Int32) (a4 : Int32) (σ : ojS) : Option (Int32 × ojS) :=
  ojFix (fun _ _ _ => none) 600 (fun (rec_17 : Int32 → Int32 → ojS → Option (Int32 × ojS)) (v3_17 : Int32) (v4_17 : Int32) (σ_17 : ojS) =>
    if (σ_17 0 23) ≤ v4_17 then
      f_X9_sample_74 a1 a2 v3_17 σ_17
    else
      ojB2 (f_X9_could v4_17 a1 σ_17) (fun (r9 : Int32) (σ10 : ojS) =>
        if r9 = 0 then
          ojLet (v4_17 + 1) (fun (x11 : Int32) =>
            rec_17 v3_17 x11 σ10)
        else
          if v3_17 = (-1) then
            ojLet (v4_17 + 1) (fun (x12 : Int32) =>
              rec_17 v4_17 x12 σ10)
          else
            ojChk v4_17 8 (
              ojB1 (f_X9_apart (σ10 17 v4_17.toNatClampNeg) a2) (fun (r13 : Int32) =>
                ojChk v3_17 8 (
                  ojB1 (f_X9_apart (σ10 17 v3_17.toNatClampNeg) a2) (fun (r14 : Int32) =>
                    if r14 ≤ r13 then
                      ojLet (v4_17 + 1) (fun (x15 : Int32) =>
                        rec_17 v3_17 x15 σ10)
                    else
                      ojLet (v4_17 + 1) (fun (x16 : Int32) =>
                        rec_17 v4_17 x16 σ10))))))) a3 a4 σ
set_option maxRecDepth 100000 in
set_option maxHeartbeats 4000000 in
theorem wk_X9_sample_17 {l : Launch} {D : va_G} {E : ojE} {ad : Nat → Nat} {X : ojX} {Q : Int32 × ojS → State → Prop} (hc : ojC X (vM_ l D E ad) RX9 cX9_sample 5 5) (hret : ojRi X (vM_ l D E ad) Q cX9_sample .int) (a1 : Int32) (a2 : Int32) (a3 : Int32) (a4 : Int32) (σ : ojS) : ojJ X (vM_ l D E ad) Q (f_X9_sample_17 a1 a2 a3 a4 σ) σ 17 [(0, .ref (ad 0)), (1, .int a1), (2, .int a2), (3, .int a3), (4, .int a4)] [] := by
  unfold f_X9_sample_17
  refine oj_fix (fun (r : Int32 → Int32 → ojS → Option (Int32 × ojS)) => ∀ (v3_17 : Int32) (v4_17 : Int32) (σ_17 : ojS), ojJ X (vM_ l D E ad) Q (r v3_17 v4_17 σ_17) σ_17 17 [(0, .ref (ad 0)), (1, .int a1), (2, .int a2), (3, .int v3_17), (4, .int v4_17)] []) _ (fun _ _ _ => oj_none) (fun rec_17 hrec_17 v3_17 v4_17 σ_17 => ?_) 600 a3 a4 σ
  refine oj_iload hc dX9_sample_17 4 rfl ?_
  refine oj_aload_n hc dX9_sample_19 rfl 0 rfl ?_
  refine oj_getf hc ff_X9_107 mC_Model rfl dX9_sample_20 ?_
  refine oj_icmp_ge hc 74 dX9_sample_23 (by decide) (fun _ => ?_) ?_
  · refine oj_sub [0, 1, 2, 3] rfl ?_
    exact wk_X9_sample_74 hc hret a1 a2 v3_17 σ_17
  · refine oj_aload_n hc dX9_sample_26 rfl 0 rfl ?_
    refine oj_iload hc dX9_sample_27 4 rfl ?_
    refine oj_iload_n hc dX9_sample_29 rfl 1 rfl ?_
    refine oj_cV2 hc cv_X9_180 (by omega) mC_Model [.int v4_17, .int a1] [] rfl rfl (Nat.le_of_ble_eq_true rfl) dX9_sample_30 (c_X9_could v4_17 a1 σ_17) (fun r9 σ10 => ?_)
    refine oj_if_eq hc 68 dX9_sample_33 (by decide) (fun _ => ?_) ?_
    · refine oj_iinc hc 1 (fun u => [(0, .ref (ad 0)), (1, .int a1), (2, .int a2), (3, .int v3_17), (4, .int u)]) 4 rfl kc_1 (fun _ => rfl) (by decide) dX9_sample_68 (fun x11 => ?_)
      refine oj_goto hc 17 dX9_sample_71 (by decide) ?_
      exact hrec_17 v3_17 x11 σ10
    · refine oj_iload_n hc dX9_sample_36 rfl 3 rfl ?_
      refine oj_iconst hc (-1) dX9_sample_37 kc_m1 ?_
      refine oj_icmp_eq hc 65 dX9_sample_38 (by decide) (fun _ => ?_) ?_
      · refine oj_iload hc dX9_sample_65 4 rfl ?_
        refine oj_istore_n hc [(0, .ref (ad 0)), (1, .int a1), (2, .int a2), (3, .int v4_17), (4, .int v4_17)] rfl (by decide) dX9_sample_67 rfl ?_
        refine oj_iinc hc 1 (fun u => [(0, .ref (ad 0)), (1, .int a1), (2, .int a2), (3, .int v4_17), (4, .int u)]) 4 rfl kc_1 (fun _ => rfl) (by decide) dX9_sample_68 (fun x12 => ?_)
        refine oj_goto hc 17 dX9_sample_71 (by decide) ?_
        exact hrec_17 v4_17 x12 σ10
      · refine oj_aload_n hc dX9_sample_41 rfl 0 rfl ?_
        refine oj_getf hc ff_X9_63 mC_Model rfl dX9_sample_42 ?_
        refine oj_iload hc dX9_sample_45 4 rfl ?_
        refine oj_iald hc 0 mC_m_shipMark rfl dX9_sample_47 ?_
        refine oj_iload_n hc dX9_sample_48 rfl 2 rfl ?_
        refine oj_cS1 hc cs_X9_183 (by omega) [.int (σ10 17 v4_17.toNatClampNeg), .int a2] [] rfl rfl (Nat.le_of_ble_eq_true rfl) dX9_sample_49 (c_X9_apart (σ10 17 v4_17.toNatClampNeg) a2 σ10) (fun r13 => ?_)
        refine oj_aload_n hc dX9_sample_52 rfl 0 rfl ?_
        refine oj_getf hc ff_X9_63 mC_Model rfl dX9_sample_53 ?_
        refine oj_iload_n hc dX9_sample_56 rfl 3 rfl ?_
        refine oj_iald hc 0 mC_m_shipMark rfl dX9_sample_57 ?_
        refine oj_iload_n hc dX9_sample_58 rfl 2 rfl ?_
        refine oj_cS1 hc cs_X9_183 (by omega) [.int (σ10 17 v3_17.toNatClampNeg), .int a2] [.int r13] rfl rfl (Nat.le_of_ble_eq_true rfl) dX9_sample_59 (c_X9_apart (σ10 17 v3_17.toNatClampNeg) a2 σ10) (fun r14 => ?_)
        refine oj_icmp_ge hc 68 dX9_sample_62 (by decide) (fun _ => ?_) ?_
        · refine oj_iinc hc 1 (fun u => [(0, .ref (ad 0)), (1, .int a1), (2, .int a2), (3, .int v3_17), (4, .int u)]) 4 rfl kc_1 (fun _ => rfl) (by decide) dX9_sample_68 (fun x15 => ?_)
          refine oj_goto hc 17 dX9_sample_71 (by decide) ?_
          exact hrec_17 v3_17 x15 σ10
        · refine oj_iload hc dX9_sample_65 4 rfl ?_
          refine oj_istore_n hc [(0, .ref (ad 0)), (1, .int a1), (2, .int a2), (3, .int v4_17), (4, .int v4_17)] rfl (by decide) dX9_sample_67 rfl ?_
          refine oj_iinc hc 1 (fun u => [(0, .ref (ad 0)), (1, .int a1), (2, .int a2), (3, .int v4_17), (4, .int u)]) 4 rfl kc_1 (fun _ => rfl) (by decide) dX9_sample_68 (fun x16 => ?_)
          refine oj_goto hc 17 dX9_sample_71 (by decide) ?_
          exact hrec_17 v4_17 x16 σ10
def f_X9_sample (a1 : Int32) (a2 : Int32) (σ : ojS) : Option (Int32 × ojS) :=
  ojB1 (f_X9_in a2 0 999999) (fun (r1 : Int32) =>
    if r1 = 0 then
      some ((-1), σ)
    else
      f_X9_sample_17 a1 a2 (-1) 0 σ)
set_option maxRecDepth 100000 in
set_option maxHeartbeats 4000000 in
theorem wk_X9_sample {l : Launch} {D : va_G} {E : ojE} {ad : Nat → Nat} {X : ojX} {Q : Int32 × ojS → State → Prop} (hc : ojC X (vM_ l D E ad) RX9 cX9_sample 5 5) (hret : ojRi X (vM_ l D E ad) Q cX9_sample .int) (a1 : Int32) (a2 : Int32) (σ : ojS) : ojJ X (vM_ l D E ad) Q (f_X9_sample a1 a2 σ) σ 0 [(0, .ref (ad 0)), (1, .int a1), (2, .int a2)] [] := by
  unfold f_X9_sample
  refine oj_iload_n hc dX9_sample_0 rfl 2 rfl ?_
  refine oj_iconst hc 0 dX9_sample_1 kc_0 ?_
  refine oj_ldc hc kd_X9_179 dX9_sample_2 ?_
  refine oj_cS1 hc cs_X9_93 (by omega) [.int a2, .int 0, .int 999999] [] rfl rfl (Nat.le_of_ble_eq_true rfl) dX9_sample_4 (c_X9_in a2 0 999999 σ) (fun r1 => ?_)
  refine oj_if_ne hc 12 dX9_sample_7 (by decide) ?_ (fun _ => ?_)
  · refine oj_iconst hc (-1) dX9_sample_12 kc_m1 ?_
    refine oj_istore_n hc [(0, .ref (ad 0)), (1, .int a1), (2, .int a2), (3, .int ((-1)))] rfl (by decide) dX9_sample_13 rfl ?_
    refine oj_iconst hc 0 dX9_sample_14 kc_0 ?_
    refine oj_istore hc [(0, .ref (ad 0)), (1, .int a1), (2, .int a2), (3, .int ((-1))), (4, .int 0)] rfl (by decide) dX9_sample_15 ?_
    exact wk_X9_sample_17 hc hret a1 a2 (-1) 0 σ
  · refine oj_iconst hc (-1) dX9_sample_10 kc_m1 ?_
    exact hret _ _ _ _ rfl dX9_sample_11
set_option maxRecDepth 100000 in
theorem c_X9_sample {l : Launch} {D : va_G} {E : ojE} {ad : Nat → Nat} (a1 : Int32) (a2 : Int32) (σ : ojS) : ∀ (r : Int32) (σ1 : ojS), f_X9_sample a1 a2 σ = some (r, σ1) → ojMi (vM_ l D E ad) yX9_sample cX9_sample 5 (some .int) 5 [.ref (ad 0), .int a1, .int a2] σ r σ1 :=
  ojMi_W (by decide +kernel) rfl .int rfl (Nat.le_of_ble_eq_true rfl) rfl (fun X Q hc hret => wk_X9_sample hc hret a1 a2 σ)

def f_X9_part (a1 : Int32) (a2 : Int32) (σ : ojS) : Option (Int32 × ojS) :=
  ojB1 (f_X9_in a1 0 3) (fun (r1 : Int32) =>
    if r1 = 0 then
      some (0, σ)
    else
      ojB1 (f_X9_in a2 0 100) (fun (r2 : Int32) =>
        if r2 = 0 then
          some (0, σ)
        else
          ojChk a1 4 (ojLet (ojU σ 20 a1.toNatClampNeg a2) (fun (σ3 : ojS) =>
            some (1, σ3)))))
set_option maxRecDepth 100000 in
set_option maxHeartbeats 4000000 in
theorem wk_X9_part {l : Launch} {D : va_G} {E : ojE} {ad : Nat → Nat} {X : ojX} {Q : Int32 × ojS → State → Prop} (hc : ojC X (vM_ l D E ad) RX9 cX9_part 3 2) (hret : ojRi X (vM_ l D E ad) Q cX9_part .boolean) (a1 : Int32) (a2 : Int32) (σ : ojS) : ojJ X (vM_ l D E ad) Q (f_X9_part a1 a2 σ) σ 0 [(0, .ref (ad 0)), (1, .int a1), (2, .int a2)] [] := by
  unfold f_X9_part
  refine oj_iload_n hc dX9_part_0 rfl 1 rfl ?_
  refine oj_iconst hc 0 dX9_part_1 kc_0 ?_
  refine oj_iconst hc 3 dX9_part_2 kc_3 ?_
  refine oj_cS1 hc cs_X9_93 (by omega) [.int a1, .int 0, .int 3] [] rfl rfl (Nat.le_of_ble_eq_true rfl) dX9_part_3 (c_X9_in a1 0 3 σ) (fun r1 => ?_)
  refine oj_if_eq hc 19 dX9_part_6 (by decide) (fun _ => ?_) ?_
  · refine oj_iconst hc 0 dX9_part_19 kc_0 ?_
    exact hret _ _ _ _ rfl dX9_part_20
  · refine oj_iload_n hc dX9_part_9 rfl 2 rfl ?_
    refine oj_iconst hc 0 dX9_part_10 kc_0 ?_
    refine oj_bipush hc 100 dX9_part_11 kb_100 ?_
    refine oj_cS1 hc cs_X9_93 (by omega) [.int a2, .int 0, .int 100] [] rfl rfl (Nat.le_of_ble_eq_true rfl) dX9_part_13 (c_X9_in a2 0 100 σ) (fun r2 => ?_)
    refine oj_if_ne hc 21 dX9_part_16 (by decide) ?_ (fun _ => ?_)
    · refine oj_aload_n hc dX9_part_21 rfl 0 rfl ?_
      refine oj_getf hc ff_X9_72 mC_Model rfl dX9_part_22 ?_
      refine oj_iload_n hc dX9_part_25 rfl 1 rfl ?_
      refine oj_iload_n hc dX9_part_26 rfl 2 rfl ?_
      refine oj_iast hc 0 mC_m_parts mC_m_parts_s rfl rfl dX9_part_27 (fun σ3 => ?_)
      refine oj_iconst hc 1 dX9_part_28 kc_1 ?_
      exact hret _ _ _ _ rfl dX9_part_29
    · refine oj_iconst hc 0 dX9_part_19 kc_0 ?_
      exact hret _ _ _ _ rfl dX9_part_20
set_option maxRecDepth 100000 in
theorem c_X9_part {l : Launch} {D : va_G} {E : ojE} {ad : Nat → Nat} (a1 : Int32) (a2 : Int32) (σ : ojS) : ∀ (r : Int32) (σ1 : ojS), f_X9_part a1 a2 σ = some (r, σ1) → ojMi (vM_ l D E ad) yX9_part cX9_part 3 (some .boolean) 2 [.ref (ad 0), .int a1, .int a2] σ r σ1 :=
  ojMi_W (by decide +kernel) rfl .boolean rfl (Nat.le_of_ble_eq_true rfl) rfl (fun X Q hc hret => wk_X9_part hc hret a1 a2 σ)

def f_X9_billAll_17 (a1 : Int32) (a2 : Int32) (σ : ojS) : Option (Int32) :=
  ojFix (fun _ _ => none) 600 (fun (rec_17 : Int32 → Int32 → Option (Int32)) (v1_17 : Int32) (v2_17 : Int32) =>
    if (σ 0 14) ≤ v2_17 then
      some v1_17
    else
      ojChk v2_17 4 (
        ojLet (v1_17 + (50 * ((σ 0 0) - (σ 15 v2_17.toNatClampNeg)))) (fun (x3 : Int32) =>
          ojLet (v2_17 + 1) (fun (x4 : Int32) =>
            rec_17 x3 x4)))) a1 a2
set_option maxRecDepth 100000 in
set_option maxHeartbeats 4000000 in
theorem wk_X9_billAll_17 {l : Launch} {D : va_G} {E : ojE} {ad : Nat → Nat} {X : ojX} {Q : Int32 → State → Prop} (hc : ojC X (vM_ l D E ad) RX9 cX9_billAll 3 2) (σ : ojS) (hret : ojRr X (vM_ l D E ad) Q cX9_billAll .int σ) (a1 : Int32) (a2 : Int32) : ojJ X (vM_ l D E ad) Q (f_X9_billAll_17 a1 a2 σ) σ 17 [(0, .ref (ad 0)), (1, .int a1), (2, .int a2)] [] := by
  unfold f_X9_billAll_17
  refine oj_fix (fun (r : Int32 → Int32 → Option (Int32)) => ∀ (v1_17 : Int32) (v2_17 : Int32), ojJ X (vM_ l D E ad) Q (r v1_17 v2_17) σ 17 [(0, .ref (ad 0)), (1, .int v1_17), (2, .int v2_17)] []) _ (fun _ _ => oj_none) (fun rec_17 hrec_17 v1_17 v2_17 => ?_) 600 a1 a2
  refine oj_iload_n hc dX9_billAll_17 rfl 2 rfl ?_
  refine oj_aload_n hc dX9_billAll_18 rfl 0 rfl ?_
  refine oj_getf hc ff_X9_101 mC_Model rfl dX9_billAll_19 ?_
  refine oj_icmp_ge hc 48 dX9_billAll_22 (by decide) (fun _ => ?_) ?_
  · refine oj_iload_n hc dX9_billAll_48 rfl 1 rfl ?_
    exact hret _ _ _ rfl dX9_billAll_49
  · refine oj_iload_n hc dX9_billAll_25 rfl 1 rfl ?_
    refine oj_bipush hc 50 dX9_billAll_26 kb_50 ?_
    refine oj_aload_n hc dX9_billAll_28 rfl 0 rfl ?_
    refine oj_getf hc ff_X9_104 mC_Model rfl dX9_billAll_29 ?_
    refine oj_aload_n hc dX9_billAll_32 rfl 0 rfl ?_
    refine oj_getf hc ff_X9_57 mC_Model rfl dX9_billAll_33 ?_
    refine oj_iload_n hc dX9_billAll_36 rfl 2 rfl ?_
    refine oj_iald hc 0 mC_m_cameIn rfl dX9_billAll_37 ?_
    refine oj_isub hc dX9_billAll_38 ?_
    refine oj_imul hc dX9_billAll_39 ?_
    refine oj_iadd hc dX9_billAll_40 ?_
    refine oj_nm (fun x3 => ?_)
    refine oj_istore_n hc [(0, .ref (ad 0)), (1, .int x3), (2, .int v2_17)] rfl (by decide) dX9_billAll_41 rfl ?_
    refine oj_iinc hc 1 (fun u => [(0, .ref (ad 0)), (1, .int x3), (2, .int u)]) 2 rfl kc_1 (fun _ => rfl) (by decide) dX9_billAll_42 (fun x4 => ?_)
    refine oj_goto hc 17 dX9_billAll_45 (by decide) ?_
    exact hrec_17 x3 x4
def f_X9_billAll (σ : ojS) : Option (Int32) :=
  ojB1 (f_X9_harm σ) (fun (r1 : Int32) =>
    ojLet ((2 * (σ 0 13)) + (10 * r1)) (fun (x2 : Int32) =>
      f_X9_billAll_17 x2 0 σ))
set_option maxRecDepth 100000 in
set_option maxHeartbeats 4000000 in
theorem wk_X9_billAll {l : Launch} {D : va_G} {E : ojE} {ad : Nat → Nat} {X : ojX} {Q : Int32 → State → Prop} (hc : ojC X (vM_ l D E ad) RX9 cX9_billAll 3 2) (σ : ojS) (hret : ojRr X (vM_ l D E ad) Q cX9_billAll .int σ)  : ojJ X (vM_ l D E ad) Q (f_X9_billAll σ) σ 0 [(0, .ref (ad 0))] [] := by
  unfold f_X9_billAll
  refine oj_iconst hc 2 dX9_billAll_0 kc_2 ?_
  refine oj_aload_n hc dX9_billAll_1 rfl 0 rfl ?_
  refine oj_getf hc ff_X9_146 mC_Model rfl dX9_billAll_2 ?_
  refine oj_imul hc dX9_billAll_5 ?_
  refine oj_bipush hc 10 dX9_billAll_6 kb_10 ?_
  refine oj_aload_n hc dX9_billAll_8 rfl 0 rfl ?_
  refine oj_cV1 hc cv_X9_156 (by omega) mC_Model [] [.int 10, .int (2 * (σ 0 13))] rfl rfl (Nat.le_of_ble_eq_true rfl) dX9_billAll_9 (c_X9_harm σ) (fun r1 => ?_)
  refine oj_imul hc dX9_billAll_12 ?_
  refine oj_iadd hc dX9_billAll_13 ?_
  refine oj_nm (fun x2 => ?_)
  refine oj_istore_n hc [(0, .ref (ad 0)), (1, .int x2)] rfl (by decide) dX9_billAll_14 rfl ?_
  refine oj_iconst hc 0 dX9_billAll_15 kc_0 ?_
  refine oj_istore_n hc [(0, .ref (ad 0)), (1, .int x2), (2, .int 0)] rfl (by decide) dX9_billAll_16 rfl ?_
  exact wk_X9_billAll_17 hc _ hret x2 0
set_option maxRecDepth 100000 in
theorem c_X9_billAll {l : Launch} {D : va_G} {E : ojE} {ad : Nat → Nat}  (σ : ojS) : ∀ (r : Int32), f_X9_billAll σ = some r → ojMi (vM_ l D E ad) yX9_billAll cX9_billAll 3 (some .int) 2 [.ref (ad 0)] σ r σ :=
  ojMi_R (by decide +kernel) rfl .int rfl (Nat.le_of_ble_eq_true rfl) rfl (fun X Q hc hret => wk_X9_billAll hc σ hret)

def f_X9_bill_129 (rec_119 : Int32 → ojS → Option (Int32 × ojS)) (a1 : Int32) (a3 : Int32) (a6 : Int32) (a7 : Int32) (σ : ojS) : Option (Int32 × ojS) :=
  ojFix (fun _ _ => none) 600 (fun (rec_129 : Int32 → Int32 → Option (Int32 × ojS)) (v6_129 : Int32) (v7_129 : Int32) =>
    if 4 ≤ v7_129 then
      ojChk v6_129 4 (
        ojChk v6_129 4 (ojLet (ojU σ 26 v6_129.toNatClampNeg ((σ 26 v6_129.toNatClampNeg) + 1)) (fun (σ4 : ojS) =>
          ojChk v6_129 4 (ojLet (ojU σ4 25 v6_129.toNatClampNeg (-1)) (fun (σ5 : ojS) =>
            ojLet (a3 + (-1)) (fun (x6 : Int32) =>
              rec_119 x6 σ5))))))
    else
      ojChk v7_129 4 (
        ojChk v6_129 4 (
          if (σ 25 v7_129.toNatClampNeg) ≤ (σ 25 v6_129.toNatClampNeg) then
            ojLet (v7_129 + 1) (fun (x7 : Int32) =>
              rec_129 v6_129 x7)
          else
            ojLet (v7_129 + 1) (fun (x8 : Int32) =>
              rec_129 v7_129 x8)))) a6 a7
set_option maxRecDepth 100000 in
set_option maxHeartbeats 4000000 in
theorem wk_X9_bill_129 {l : Launch} {D : va_G} {E : ojE} {ad : Nat → Nat} {X : ojX} {Q : Int32 × ojS → State → Prop} (hc : ojC X (vM_ l D E ad) RX9 cX9_bill 8 3) (hret : ojRi X (vM_ l D E ad) Q cX9_bill .int) (rec_119 : Int32 → ojS → Option (Int32 × ojS)) (a1 : Int32) (a3 : Int32) (a6 : Int32) (a7 : Int32) (σ : ojS) (hrec_119 : ∀ (v3_119 : Int32) (σ_119 : ojS), ojJ X (vM_ l D E ad) Q (rec_119 v3_119 σ_119) σ_119 119 [(0, .ref (ad 0)), (1, .int a1), (3, .int v3_119)] []) : ojJ X (vM_ l D E ad) Q (f_X9_bill_129 rec_119 a1 a3 a6 a7 σ) σ 129 [(0, .ref (ad 0)), (1, .int a1), (3, .int a3), (6, .int a6), (7, .int a7)] [] := by
  unfold f_X9_bill_129
  refine oj_fix (fun (r : Int32 → Int32 → Option (Int32 × ojS)) => ∀ (v6_129 : Int32) (v7_129 : Int32), ojJ X (vM_ l D E ad) Q (r v6_129 v7_129) σ 129 [(0, .ref (ad 0)), (1, .int a1), (3, .int a3), (6, .int v6_129), (7, .int v7_129)] []) _ (fun _ _ => oj_none) (fun rec_129 hrec_129 v6_129 v7_129 => ?_) 600 a6 a7
  refine oj_iload hc dX9_bill_129 4 rfl ?_
  refine oj_iconst hc 4 dX9_bill_131 kc_4 ?_
  refine oj_icmp_ge hc 162 dX9_bill_132 (by decide) (fun _ => ?_) ?_
  · refine oj_aload_n hc dX9_bill_162 rfl 0 rfl ?_
    refine oj_getf hc ff_X9_90 mC_Model rfl dX9_bill_163 ?_
    refine oj_iload hc dX9_bill_166 3 rfl ?_
    refine oj_dup2 hc dX9_bill_168 rfl rfl ?_
    refine oj_iald hc 0 mC_m_pays rfl dX9_bill_169 ?_
    refine oj_iconst hc 1 dX9_bill_170 kc_1 ?_
    refine oj_iadd hc dX9_bill_171 ?_
    refine oj_iast hc 0 mC_m_pays mC_m_pays_s rfl rfl dX9_bill_172 (fun σ4 => ?_)
    refine oj_aload_n hc dX9_bill_173 rfl 0 rfl ?_
    refine oj_getf hc ff_X9_87 mC_Model rfl dX9_bill_174 ?_
    refine oj_iload hc dX9_bill_177 3 rfl ?_
    refine oj_iconst hc (-1) dX9_bill_179 kc_m1 ?_
    refine oj_iast hc 0 mC_m_cut mC_m_cut_s rfl rfl dX9_bill_180 (fun σ5 => ?_)
    refine oj_iinc hc (-1) (fun u => [(0, .ref (ad 0)), (1, .int a1), (3, .int u), (6, .int v6_129), (7, .int v7_129)]) 2 rfl kc_m1 (fun _ => rfl) (by decide) dX9_bill_181 (fun x6 => ?_)
    refine oj_goto hc 119 dX9_bill_184 (by decide) ?_
    refine oj_sub [0, 1, 2] rfl ?_
    exact hrec_119 x6 σ5
  · refine oj_aload_n hc dX9_bill_135 rfl 0 rfl ?_
    refine oj_getf hc ff_X9_87 mC_Model rfl dX9_bill_136 ?_
    refine oj_iload hc dX9_bill_139 4 rfl ?_
    refine oj_iald hc 0 mC_m_cut rfl dX9_bill_141 ?_
    refine oj_aload_n hc dX9_bill_142 rfl 0 rfl ?_
    refine oj_getf hc ff_X9_87 mC_Model rfl dX9_bill_143 ?_
    refine oj_iload hc dX9_bill_146 3 rfl ?_
    refine oj_iald hc 0 mC_m_cut rfl dX9_bill_148 ?_
    refine oj_icmp_le hc 156 dX9_bill_149 (by decide) (fun _ => ?_) ?_
    · refine oj_iinc hc 1 (fun u => [(0, .ref (ad 0)), (1, .int a1), (3, .int a3), (6, .int v6_129), (7, .int u)]) 4 rfl kc_1 (fun _ => rfl) (by decide) dX9_bill_156 (fun x7 => ?_)
      refine oj_goto hc 129 dX9_bill_159 (by decide) ?_
      exact hrec_129 v6_129 x7
    · refine oj_iload hc dX9_bill_152 4 rfl ?_
      refine oj_istore hc [(0, .ref (ad 0)), (1, .int a1), (3, .int a3), (6, .int v7_129), (7, .int v7_129)] rfl (by decide) dX9_bill_154 ?_
      refine oj_iinc hc 1 (fun u => [(0, .ref (ad 0)), (1, .int a1), (3, .int a3), (6, .int v7_129), (7, .int u)]) 4 rfl kc_1 (fun _ => rfl) (by decide) dX9_bill_156 (fun x8 => ?_)
      refine oj_goto hc 129 dX9_bill_159 (by decide) ?_
      exact hrec_129 v7_129 x8
def f_X9_bill_119 (a1 : Int32) (a3 : Int32) (σ : ojS) : Option (Int32 × ojS) :=
  ojFix (fun _ _ => none) 600 (fun (rec_119 : Int32 → ojS → Option (Int32 × ojS)) (v3_119 : Int32) (σ_119 : ojS) =>
    if v3_119 ≤ 0 then
      ojChk a1 4 (
        some (σ_119 26 a1.toNatClampNeg, σ_119))
    else
      f_X9_bill_129 rec_119 a1 v3_119 0 1 σ_119) a3 σ
set_option maxRecDepth 100000 in
set_option maxHeartbeats 4000000 in
theorem wk_X9_bill_119 {l : Launch} {D : va_G} {E : ojE} {ad : Nat → Nat} {X : ojX} {Q : Int32 × ojS → State → Prop} (hc : ojC X (vM_ l D E ad) RX9 cX9_bill 8 3) (hret : ojRi X (vM_ l D E ad) Q cX9_bill .int) (a1 : Int32) (a3 : Int32) (σ : ojS) : ojJ X (vM_ l D E ad) Q (f_X9_bill_119 a1 a3 σ) σ 119 [(0, .ref (ad 0)), (1, .int a1), (3, .int a3)] [] := by
  unfold f_X9_bill_119
  refine oj_fix (fun (r : Int32 → ojS → Option (Int32 × ojS)) => ∀ (v3_119 : Int32) (σ_119 : ojS), ojJ X (vM_ l D E ad) Q (r v3_119 σ_119) σ_119 119 [(0, .ref (ad 0)), (1, .int a1), (3, .int v3_119)] []) _ (fun _ _ => oj_none) (fun rec_119 hrec_119 v3_119 σ_119 => ?_) 600 a3 σ
  refine oj_iload_n hc dX9_bill_119 rfl 2 rfl ?_
  refine oj_if_le hc 187 dX9_bill_120 (by decide) (fun _ => ?_) ?_
  · refine oj_aload_n hc dX9_bill_187 rfl 0 rfl ?_
    refine oj_getf hc ff_X9_90 mC_Model rfl dX9_bill_188 ?_
    refine oj_iload_n hc dX9_bill_191 rfl 1 rfl ?_
    refine oj_iald hc 0 mC_m_pays rfl dX9_bill_192 ?_
    exact hret _ _ _ _ rfl dX9_bill_193
  · refine oj_iconst hc 0 dX9_bill_123 kc_0 ?_
    refine oj_istore hc [(0, .ref (ad 0)), (1, .int a1), (3, .int v3_119), (6, .int 0)] rfl (by decide) dX9_bill_124 ?_
    refine oj_iconst hc 1 dX9_bill_126 kc_1 ?_
    refine oj_istore hc [(0, .ref (ad 0)), (1, .int a1), (3, .int v3_119), (6, .int 0), (7, .int 1)] rfl (by decide) dX9_bill_127 ?_
    exact wk_X9_bill_129 hc hret rec_119 a1 v3_119 0 1 σ_119 hrec_119
def f_X9_bill_53 (a1 : Int32) (a2 : Int32) (a3 : Int32) (l4 : Int64) (a6 : Int32) (σ : ojS) : Option (Int32 × ojS) :=
  ojFix (fun _ _ _ => none) 600 (fun (rec_53 : Int32 → Int32 → ojS → Option (Int32 × ojS)) (v3_53 : Int32) (v6_53 : Int32) (σ_53 : ojS) =>
    if 4 ≤ v6_53 then
      f_X9_bill_119 a1 v3_53 σ_53
    else
      ojChk v6_53 4 (
        ojNzL (a2.toInt64) (
          ojChk v6_53 4 (ojLet (ojU σ_53 26 v6_53.toNatClampNeg (((l4 * ((σ_53 20 v6_53.toNatClampNeg).toInt64)) / (a2.toInt64)).toInt32)) (fun (σ10 : ojS) =>
            ojChk v6_53 4 (
              ojNzL (a2.toInt64) (
                ojChk v6_53 4 (ojLet (ojU σ10 25 v6_53.toNatClampNeg ((ojRemL (l4 * ((σ10 20 v6_53.toNatClampNeg).toInt64)) (a2.toInt64)).toInt32)) (fun (σ12 : ojS) =>
                  ojChk v6_53 4 (
                    ojLet (v3_53 - (σ12 26 v6_53.toNatClampNeg)) (fun (x13 : Int32) =>
                      ojLet (v6_53 + 1) (fun (x14 : Int32) =>
                        rec_53 x13 x14 σ12)))))))))))) a3 a6 σ
set_option maxRecDepth 100000 in
set_option maxHeartbeats 4000000 in
theorem wk_X9_bill_53 {l : Launch} {D : va_G} {E : ojE} {ad : Nat → Nat} {X : ojX} {Q : Int32 × ojS → State → Prop} (hc : ojC X (vM_ l D E ad) RX9 cX9_bill 8 3) (hret : ojRi X (vM_ l D E ad) Q cX9_bill .int) (a1 : Int32) (a2 : Int32) (a3 : Int32) (l4 : Int64) (a6 : Int32) (σ : ojS) : ojJ X (vM_ l D E ad) Q (f_X9_bill_53 a1 a2 a3 l4 a6 σ) σ 53 [(0, .ref (ad 0)), (1, .int a1), (2, .int a2), (3, .int a3), (4, .long (l4)), (6, .int a6)] [] := by
  unfold f_X9_bill_53
  refine oj_fix (fun (r : Int32 → Int32 → ojS → Option (Int32 × ojS)) => ∀ (v3_53 : Int32) (v6_53 : Int32) (σ_53 : ojS), ojJ X (vM_ l D E ad) Q (r v3_53 v6_53 σ_53) σ_53 53 [(0, .ref (ad 0)), (1, .int a1), (2, .int a2), (3, .int v3_53), (4, .long (l4)), (6, .int v6_53)] []) _ (fun _ _ _ => oj_none) (fun rec_53 hrec_53 v3_53 v6_53 σ_53 => ?_) 600 a3 a6 σ
  refine oj_iload hc dX9_bill_53 5 rfl ?_
  refine oj_iconst hc 4 dX9_bill_55 kc_4 ?_
  refine oj_icmp_ge hc 119 dX9_bill_56 (by decide) (fun _ => ?_) ?_
  · refine oj_sub [0, 1, 3] rfl ?_
    exact wk_X9_bill_119 hc hret a1 v3_53 σ_53
  · refine oj_aload_n hc dX9_bill_59 rfl 0 rfl ?_
    refine oj_getf hc ff_X9_90 mC_Model rfl dX9_bill_60 ?_
    refine oj_iload hc dX9_bill_63 5 rfl ?_
    refine oj_lload hc dX9_bill_65 4 rfl ?_
    refine oj_aload_n hc dX9_bill_67 rfl 0 rfl ?_
    refine oj_getf hc ff_X9_72 mC_Model rfl dX9_bill_68 ?_
    refine oj_iload hc dX9_bill_71 5 rfl ?_
    refine oj_iald hc 0 mC_m_parts rfl dX9_bill_73 ?_
    refine oj_i2l hc dX9_bill_74 ?_
    refine oj_lmul hc dX9_bill_75 ?_
    refine oj_iload_n hc dX9_bill_76 rfl 2 rfl ?_
    refine oj_i2l hc dX9_bill_77 ?_
    refine oj_nzL (fun hz9 => ?_)
    refine oj_ldiv hc dX9_bill_78 hz9 ?_
    refine oj_l2i hc dX9_bill_79 ?_
    refine oj_iast hc 0 mC_m_pays mC_m_pays_s rfl rfl dX9_bill_80 (fun σ10 => ?_)
    refine oj_aload_n hc dX9_bill_81 rfl 0 rfl ?_
    refine oj_getf hc ff_X9_87 mC_Model rfl dX9_bill_82 ?_
    refine oj_iload hc dX9_bill_85 5 rfl ?_
    refine oj_lload hc dX9_bill_87 4 rfl ?_
    refine oj_aload_n hc dX9_bill_89 rfl 0 rfl ?_
    refine oj_getf hc ff_X9_72 mC_Model rfl dX9_bill_90 ?_
    refine oj_iload hc dX9_bill_93 5 rfl ?_
    refine oj_iald hc 0 mC_m_parts rfl dX9_bill_95 ?_
    refine oj_i2l hc dX9_bill_96 ?_
    refine oj_lmul hc dX9_bill_97 ?_
    refine oj_iload_n hc dX9_bill_98 rfl 2 rfl ?_
    refine oj_i2l hc dX9_bill_99 ?_
    refine oj_nzL (fun hz11 => ?_)
    refine oj_lrem hc dX9_bill_100 hz11 ?_
    refine oj_l2i hc dX9_bill_101 ?_
    refine oj_iast hc 0 mC_m_cut mC_m_cut_s rfl rfl dX9_bill_102 (fun σ12 => ?_)
    refine oj_iload_n hc dX9_bill_103 rfl 3 rfl ?_
    refine oj_aload_n hc dX9_bill_104 rfl 0 rfl ?_
    refine oj_getf hc ff_X9_90 mC_Model rfl dX9_bill_105 ?_
    refine oj_iload hc dX9_bill_108 5 rfl ?_
    refine oj_iald hc 0 mC_m_pays rfl dX9_bill_110 ?_
    refine oj_isub hc dX9_bill_111 ?_
    refine oj_nm (fun x13 => ?_)
    refine oj_istore_n hc [(0, .ref (ad 0)), (1, .int a1), (2, .int a2), (3, .int x13), (4, .long (l4)), (6, .int v6_53)] rfl (by decide) dX9_bill_112 rfl ?_
    refine oj_iinc hc 1 (fun u => [(0, .ref (ad 0)), (1, .int a1), (2, .int a2), (3, .int x13), (4, .long (l4)), (6, .int u)]) 5 rfl kc_1 (fun _ => rfl) (by decide) dX9_bill_113 (fun x14 => ?_)
    refine oj_goto hc 53 dX9_bill_116 (by decide) ?_
    exact hrec_53 x13 x14 σ12
def f_X9_bill_35 (a1 : Int32) (a2 : Int32) (σ : ojS) : Option (Int32 × ojS) :=
  if a2 = 0 then
    some (0, σ)
  else
    ojB1 (f_X9_billAll σ) (fun (r2 : Int32) =>
      ojLet (r2.toInt64) (fun (x3 : Int64) =>
        f_X9_bill_53 a1 a2 r2 x3 0 σ))
set_option maxRecDepth 100000 in
set_option maxHeartbeats 4000000 in
theorem wk_X9_bill_35 {l : Launch} {D : va_G} {E : ojE} {ad : Nat → Nat} {X : ojX} {Q : Int32 × ojS → State → Prop} (hc : ojC X (vM_ l D E ad) RX9 cX9_bill 8 3) (hret : ojRi X (vM_ l D E ad) Q cX9_bill .int) (a1 : Int32) (a2 : Int32) (σ : ojS) : ojJ X (vM_ l D E ad) Q (f_X9_bill_35 a1 a2 σ) σ 35 [(0, .ref (ad 0)), (1, .int a1), (2, .int a2)] [] := by
  unfold f_X9_bill_35
  refine oj_iload_n hc dX9_bill_35 rfl 2 rfl ?_
  refine oj_if_ne hc 41 dX9_bill_36 (by decide) ?_ (fun _ => ?_)
  · refine oj_aload_n hc dX9_bill_41 rfl 0 rfl ?_
    refine oj_cV1 hc cv_X9_186 (by omega) mC_Model [] [] rfl rfl (Nat.le_of_ble_eq_true rfl) dX9_bill_42 (c_X9_billAll σ) (fun r2 => ?_)
    refine oj_istore_n hc [(0, .ref (ad 0)), (1, .int a1), (2, .int a2), (3, .int r2)] rfl (by decide) dX9_bill_45 rfl ?_
    refine oj_iload_n hc dX9_bill_46 rfl 3 rfl ?_
    refine oj_i2l hc dX9_bill_47 ?_
    refine oj_nmL (fun x3 => ?_)
    refine oj_lstore hc [(0, .ref (ad 0)), (1, .int a1), (2, .int a2), (3, .int r2), (4, .long (x3))] rfl (by decide) dX9_bill_48 ?_
    refine oj_iconst hc 0 dX9_bill_50 kc_0 ?_
    refine oj_istore hc [(0, .ref (ad 0)), (1, .int a1), (2, .int a2), (3, .int r2), (4, .long (x3)), (6, .int 0)] rfl (by decide) dX9_bill_51 ?_
    exact wk_X9_bill_53 hc hret a1 a2 r2 x3 0 σ
  · refine oj_iconst hc 0 dX9_bill_39 kc_0 ?_
    exact hret _ _ _ _ rfl dX9_bill_40
def f_X9_bill_15 (a1 : Int32) (a2 : Int32) (a3 : Int32) (σ : ojS) : Option (Int32 × ojS) :=
  ojFix (fun _ _ => none) 600 (fun (rec_15 : Int32 → Int32 → Option (Int32 × ojS)) (v2_15 : Int32) (v3_15 : Int32) =>
    if 4 ≤ v3_15 then
      f_X9_bill_35 a1 v2_15 σ
    else
      ojChk v3_15 4 (
        ojLet (v2_15 + (σ 20 v3_15.toNatClampNeg)) (fun (x15 : Int32) =>
          ojLet (v3_15 + 1) (fun (x16 : Int32) =>
            rec_15 x15 x16)))) a2 a3
set_option maxRecDepth 100000 in
set_option maxHeartbeats 4000000 in
theorem wk_X9_bill_15 {l : Launch} {D : va_G} {E : ojE} {ad : Nat → Nat} {X : ojX} {Q : Int32 × ojS → State → Prop} (hc : ojC X (vM_ l D E ad) RX9 cX9_bill 8 3) (hret : ojRi X (vM_ l D E ad) Q cX9_bill .int) (a1 : Int32) (a2 : Int32) (a3 : Int32) (σ : ojS) : ojJ X (vM_ l D E ad) Q (f_X9_bill_15 a1 a2 a3 σ) σ 15 [(0, .ref (ad 0)), (1, .int a1), (2, .int a2), (3, .int a3)] [] := by
  unfold f_X9_bill_15
  refine oj_fix (fun (r : Int32 → Int32 → Option (Int32 × ojS)) => ∀ (v2_15 : Int32) (v3_15 : Int32), ojJ X (vM_ l D E ad) Q (r v2_15 v3_15) σ 15 [(0, .ref (ad 0)), (1, .int a1), (2, .int v2_15), (3, .int v3_15)] []) _ (fun _ _ => oj_none) (fun rec_15 hrec_15 v2_15 v3_15 => ?_) 600 a2 a3
  refine oj_iload_n hc dX9_bill_15 rfl 3 rfl ?_
  refine oj_iconst hc 4 dX9_bill_16 kc_4 ?_
  refine oj_icmp_ge hc 35 dX9_bill_17 (by decide) (fun _ => ?_) ?_
  · refine oj_sub [0, 1, 2] rfl ?_
    exact wk_X9_bill_35 hc hret a1 v2_15 σ
  · refine oj_iload_n hc dX9_bill_20 rfl 2 rfl ?_
    refine oj_aload_n hc dX9_bill_21 rfl 0 rfl ?_
    refine oj_getf hc ff_X9_72 mC_Model rfl dX9_bill_22 ?_
    refine oj_iload_n hc dX9_bill_25 rfl 3 rfl ?_
    refine oj_iald hc 0 mC_m_parts rfl dX9_bill_26 ?_
    refine oj_iadd hc dX9_bill_27 ?_
    refine oj_nm (fun x15 => ?_)
    refine oj_istore_n hc [(0, .ref (ad 0)), (1, .int a1), (2, .int x15), (3, .int v3_15)] rfl (by decide) dX9_bill_28 rfl ?_
    refine oj_iinc hc 1 (fun u => [(0, .ref (ad 0)), (1, .int a1), (2, .int x15), (3, .int u)]) 3 rfl kc_1 (fun _ => rfl) (by decide) dX9_bill_29 (fun x16 => ?_)
    refine oj_goto hc 15 dX9_bill_32 (by decide) ?_
    exact hrec_15 x15 x16
def f_X9_bill (a1 : Int32) (σ : ojS) : Option (Int32 × ojS) :=
  ojB1 (f_X9_in a1 0 3) (fun (r1 : Int32) =>
    if r1 = 0 then
      some ((-1), σ)
    else
      f_X9_bill_15 a1 0 0 σ)
set_option maxRecDepth 100000 in
set_option maxHeartbeats 4000000 in
theorem wk_X9_bill {l : Launch} {D : va_G} {E : ojE} {ad : Nat → Nat} {X : ojX} {Q : Int32 × ojS → State → Prop} (hc : ojC X (vM_ l D E ad) RX9 cX9_bill 8 3) (hret : ojRi X (vM_ l D E ad) Q cX9_bill .int) (a1 : Int32) (σ : ojS) : ojJ X (vM_ l D E ad) Q (f_X9_bill a1 σ) σ 0 [(0, .ref (ad 0)), (1, .int a1)] [] := by
  unfold f_X9_bill
  refine oj_iload_n hc dX9_bill_0 rfl 1 rfl ?_
  refine oj_iconst hc 0 dX9_bill_1 kc_0 ?_
  refine oj_iconst hc 3 dX9_bill_2 kc_3 ?_
  refine oj_cS1 hc cs_X9_93 (by omega) [.int a1, .int 0, .int 3] [] rfl rfl (Nat.le_of_ble_eq_true rfl) dX9_bill_3 (c_X9_in a1 0 3 σ) (fun r1 => ?_)
  refine oj_if_ne hc 11 dX9_bill_6 (by decide) ?_ (fun _ => ?_)
  · refine oj_iconst hc 0 dX9_bill_11 kc_0 ?_
    refine oj_istore_n hc [(0, .ref (ad 0)), (1, .int a1), (2, .int 0)] rfl (by decide) dX9_bill_12 rfl ?_
    refine oj_iconst hc 0 dX9_bill_13 kc_0 ?_
    refine oj_istore_n hc [(0, .ref (ad 0)), (1, .int a1), (2, .int 0), (3, .int 0)] rfl (by decide) dX9_bill_14 rfl ?_
    exact wk_X9_bill_15 hc hret a1 0 0 σ
  · refine oj_iconst hc (-1) dX9_bill_9 kc_m1 ?_
    exact hret _ _ _ _ rfl dX9_bill_10
set_option maxRecDepth 100000 in
theorem c_X9_bill {l : Launch} {D : va_G} {E : ojE} {ad : Nat → Nat} (a1 : Int32) (σ : ojS) : ∀ (r : Int32) (σ1 : ojS), f_X9_bill a1 σ = some (r, σ1) → ojMi (vM_ l D E ad) yX9_bill cX9_bill 8 (some .int) 3 [.ref (ad 0), .int a1] σ r σ1 :=
  ojMi_W (by decide +kernel) rfl .int rfl (Nat.le_of_ble_eq_true rfl) rfl (fun X Q hc hret => wk_X9_bill hc hret a1 σ)
