/-! WALKS, by program (wip/whole/gen6.py). -/
def lp_X9_find_63 (d : Nat) (M : Mm) (v1 : Int32) (v2 : Int32) (v3 : Int32) (v4 : Int32) (v5 : Int32) (v6 : Int32) (v7 : Int32) (K : Int32 → Mm → Prop) : Prop := AW (d + 1) X9_find M 63 [some (.ref 42), some (.int v1), some (.int v2), some (.int v3), some (.int v4), some (.int v5), some (.int v6), some (.int v7)] [] (QI K)
theorem z_X9_find_63 {d : Nat} {M : Mm} {v1 : Int32} {v2 : Int32} {v3 : Int32} {v4 : Int32} {v5 : Int32} {v6 : Int32} {v7 : Int32} {K : Int32 → Mm → Prop}  (h : vp_in v1 3 ∧ ((((12 * v1) + (M.1 50 v1.toNatClampNeg)) ≤ v7 → ((¬ v2 = 2 → (vp_in v1 3 ∧ ((¬ (M.1 50 v1.toNatClampNeg) = 0 → ((¬ v2 = 0 → (K (50000 + v5) M)) ∧ (v2 = 0 → (K (50000 + v4) M)))) ∧ ((M.1 50 v1.toNatClampNeg) = 0 → (K (-12) M))))) ∧ (v2 = 2 → (K v6 M)))) ∧ (¬ ((12 * v1) + (M.1 50 v1.toNatClampNeg)) ≤ v7 → (vp_in v7 36 ∧ (((M.1 51 v7.toNatClampNeg) ≤ v4 → (vp_in v7 36 ∧ ((v5 ≤ (M.1 51 v7.toNatClampNeg) → (vp_in v7 36 ∧ ((¬ (M.1 51 v7.toNatClampNeg) = v3 → (lp_X9_find_63 d M v1 v2 v3 v4 v5 (v6 + 0) (v7 + 1) K)) ∧ ((M.1 51 v7.toNatClampNeg) = v3 → (lp_X9_find_63 d M v1 v2 v3 v4 v5 (v6 + 1) (v7 + 1) K))))) ∧ (¬ v5 ≤ (M.1 51 v7.toNatClampNeg) → (vp_in v7 36 ∧ (vp_in v7 36 ∧ ((¬ (M.1 51 v7.toNatClampNeg) = v3 → (lp_X9_find_63 d M v1 v2 v3 v4 (M.1 51 v7.toNatClampNeg) (v6 + 0) (v7 + 1) K)) ∧ ((M.1 51 v7.toNatClampNeg) = v3 → (lp_X9_find_63 d M v1 v2 v3 v4 (M.1 51 v7.toNatClampNeg) (v6 + 1) (v7 + 1) K))))))))) ∧ (¬ (M.1 51 v7.toNatClampNeg) ≤ v4 → (vp_in v7 36 ∧ (vp_in v7 36 ∧ ((v5 ≤ (M.1 51 v7.toNatClampNeg) → (vp_in v7 36 ∧ ((¬ (M.1 51 v7.toNatClampNeg) = v3 → (lp_X9_find_63 d M v1 v2 v3 (M.1 51 v7.toNatClampNeg) v5 (v6 + 0) (v7 + 1) K)) ∧ ((M.1 51 v7.toNatClampNeg) = v3 → (lp_X9_find_63 d M v1 v2 v3 (M.1 51 v7.toNatClampNeg) v5 (v6 + 1) (v7 + 1) K))))) ∧ (¬ v5 ≤ (M.1 51 v7.toNatClampNeg) → (vp_in v7 36 ∧ (vp_in v7 36 ∧ ((¬ (M.1 51 v7.toNatClampNeg) = v3 → (lp_X9_find_63 d M v1 v2 v3 (M.1 51 v7.toNatClampNeg) (M.1 51 v7.toNatClampNeg) (v6 + 0) (v7 + 1) K)) ∧ ((M.1 51 v7.toNatClampNeg) = v3 → (lp_X9_find_63 d M v1 v2 v3 (M.1 51 v7.toNatClampNeg) (M.1 51 v7.toNatClampNeg) (v6 + 1) (v7 + 1) K))))))))))))))) : lp_X9_find_63 d M v1 v2 v3 v4 v5 v6 v7 K := by
  intro p l e s m args below meth c G hc
  refine hb_iload (q := 65) hc dd_X9_find_63 rfl rfl ?_
  refine hb_bipush (q := 67) (v := 12) hc dd_X9_find_65 rfl bp_12 ?_
  refine hb_iload_n (q := 68) hc dd_X9_find_67 rfl rfl ?_
  refine hb_imul (q := 69) hc dd_X9_find_68 rfl ?_
  refine hb_aload_n (q := 70) hc dd_X9_find_69 rfl rfl ?_
  refine hb_getR (q := 73) hc fl_X9_32 sh42 sl42 rfl dd_X9_find_70 rfl ?_
  refine hb_iload_n (q := 74) hc dd_X9_find_73 rfl rfl ?_
  obtain ⟨hi, h⟩ := h
  refine hb_iald (q := 75) (v := M.1 50 v1.toNatClampNeg) hc sh50 sl50 hi rfl rfl dd_X9_find_74 rfl ?_
  refine hb_iadd (q := 76) hc dd_X9_find_75 rfl ?_
  refine hb_icmp_ge (q := 79) (tg := 158) hc dd_X9_find_76 rfl (by decide) (fun z => ?_) (fun z => ?_)
  · replace h := h.1 z
    refine hb_iload_n (q := 159) hc dd_X9_find_158 rfl rfl ?_
    refine hb_iconst (q := 160) (v := 2) hc dd_X9_find_159 rfl ic_2 ?_
    refine hb_icmp_ne (q := 163) (tg := 168) hc dd_X9_find_160 rfl (by decide) (fun z => ?_) (fun z => ?_)
    · replace h := h.1 z
      refine hb_aload_n (q := 169) hc dd_X9_find_168 rfl rfl ?_
      refine hb_getR (q := 172) hc fl_X9_32 sh42 sl42 rfl dd_X9_find_169 rfl ?_
      refine hb_iload_n (q := 173) hc dd_X9_find_172 rfl rfl ?_
      obtain ⟨hi, h⟩ := h
      refine hb_iald (q := 174) (v := M.1 50 v1.toNatClampNeg) hc sh50 sl50 hi rfl rfl dd_X9_find_173 rfl ?_
      refine hb_if_ne (q := 177) (tg := 182) hc dd_X9_find_174 rfl (by decide) (fun z => ?_) (fun z => ?_)
      · replace h := h.1 z
        refine hb_ldcw (q := 185) (v := 50000) hc dd_X9_find_182 rfl iw_1251 ?_
        refine hb_iload_n (q := 186) hc dd_X9_find_185 rfl rfl ?_
        refine hb_if_ne (q := 189) (tg := 194) hc dd_X9_find_186 rfl (by decide) (fun z => ?_) (fun z => ?_)
        · replace h := h.1 z
          refine hb_iload (q := 196) hc dd_X9_find_194 rfl rfl ?_
          refine hb_iadd (q := 197) hc dd_X9_find_196 rfl ?_
          exact hb_iret hc rfl dd_X9_find_197 h
        · replace h := h.2 z
          refine hb_iload (q := 191) hc dd_X9_find_189 rfl rfl ?_
          refine hb_goto (tg := 196) hc dd_X9_find_191 (by decide) ?_
          refine hb_iadd (q := 197) hc dd_X9_find_196 rfl ?_
          exact hb_iret hc rfl dd_X9_find_197 h
      · replace h := h.2 z
        refine hb_bipush (q := 179) (v := (-12)) hc dd_X9_find_177 rfl bp_m12 ?_
        refine hb_goto (tg := 197) hc dd_X9_find_179 (by decide) ?_
        exact hb_iret hc rfl dd_X9_find_197 h
    · replace h := h.2 z
      refine hb_iload (q := 165) hc dd_X9_find_163 rfl rfl ?_
      refine hb_goto (tg := 197) hc dd_X9_find_165 (by decide) ?_
      exact hb_iret hc rfl dd_X9_find_197 h
  · replace h := h.2 z
    refine hb_aload_n (q := 80) hc dd_X9_find_79 rfl rfl ?_
    refine hb_getR (q := 83) hc fl_X9_35 sh42 sl42 rfl dd_X9_find_80 rfl ?_
    refine hb_iload (q := 85) hc dd_X9_find_83 rfl rfl ?_
    obtain ⟨hi, h⟩ := h
    refine hb_iald (q := 86) (v := M.1 51 v7.toNatClampNeg) hc sh51 sl51 hi rfl rfl dd_X9_find_85 rfl ?_
    refine hb_iload (q := 88) hc dd_X9_find_86 rfl rfl ?_
    refine hb_icmp_le (q := 91) (tg := 101) hc dd_X9_find_88 rfl (by decide) (fun z => ?_) (fun z => ?_)
    · replace h := h.1 z
      refine hb_iload (q := 103) hc dd_X9_find_101 rfl rfl ?_
      refine hb_istore (q := 105) (lv' := [some (.ref 42), some (.int v1), some (.int v2), some (.int v3), some (.int v4), some (.int v5), some (.int v6), some (.int v7)]) hc dd_X9_find_103 rfl (Nat.le_of_ble_eq_true rfl) rfl ?_
      refine hb_aload_n (q := 106) hc dd_X9_find_105 rfl rfl ?_
      refine hb_getR (q := 109) hc fl_X9_35 sh42 sl42 rfl dd_X9_find_106 rfl ?_
      refine hb_iload (q := 111) hc dd_X9_find_109 rfl rfl ?_
      obtain ⟨hi, h⟩ := h
      refine hb_iald (q := 112) (v := M.1 51 v7.toNatClampNeg) hc sh51 sl51 hi rfl rfl dd_X9_find_111 rfl ?_
      refine hb_iload (q := 114) hc dd_X9_find_112 rfl rfl ?_
      refine hb_icmp_ge (q := 117) (tg := 127) hc dd_X9_find_114 rfl (by decide) (fun z => ?_) (fun z => ?_)
      · replace h := h.1 z
        refine hb_iload (q := 129) hc dd_X9_find_127 rfl rfl ?_
        refine hb_istore (q := 131) (lv' := [some (.ref 42), some (.int v1), some (.int v2), some (.int v3), some (.int v4), some (.int v5), some (.int v6), some (.int v7)]) hc dd_X9_find_129 rfl (Nat.le_of_ble_eq_true rfl) rfl ?_
        refine hb_iload (q := 133) hc dd_X9_find_131 rfl rfl ?_
        refine hb_aload_n (q := 134) hc dd_X9_find_133 rfl rfl ?_
        refine hb_getR (q := 137) hc fl_X9_35 sh42 sl42 rfl dd_X9_find_134 rfl ?_
        refine hb_iload (q := 139) hc dd_X9_find_137 rfl rfl ?_
        obtain ⟨hi, h⟩ := h
        refine hb_iald (q := 140) (v := M.1 51 v7.toNatClampNeg) hc sh51 sl51 hi rfl rfl dd_X9_find_139 rfl ?_
        refine hb_iload_n (q := 141) hc dd_X9_find_140 rfl rfl ?_
        refine hb_icmp_ne (q := 144) (tg := 148) hc dd_X9_find_141 rfl (by decide) (fun z => ?_) (fun z => ?_)
        · replace h := h.1 z
          refine hb_iconst (q := 149) (v := 0) hc dd_X9_find_148 rfl ic_0 ?_
          refine hb_iadd (q := 150) hc dd_X9_find_149 rfl ?_
          refine hb_istore (q := 152) (lv' := [some (.ref 42), some (.int v1), some (.int v2), some (.int v3), some (.int v4), some (.int v5), some (.int (v6 + 0)), some (.int v7)]) hc dd_X9_find_150 rfl (Nat.le_of_ble_eq_true rfl) rfl ?_
          refine hb_iinc (q := 155) (v := v7 + 1) (lv' := [some (.ref 42), some (.int v1), some (.int v2), some (.int v3), some (.int v4), some (.int v5), some (.int (v6 + 0)), some (.int (v7 + 1))]) hc dd_X9_find_152 rfl rfl rfl (Nat.le_of_ble_eq_true rfl) rfl ?_
          refine hb_goto (tg := 63) hc dd_X9_find_155 (by decide) ?_
          exact hb_weak (lvs (lvs (lvs (lvs (lvs (lvs (lvs (lvs lvz)))))))) (h p l e s m args below meth c G hc)
        · replace h := h.2 z
          refine hb_iconst (q := 145) (v := 1) hc dd_X9_find_144 rfl ic_1 ?_
          refine hb_goto (tg := 149) hc dd_X9_find_145 (by decide) ?_
          refine hb_iadd (q := 150) hc dd_X9_find_149 rfl ?_
          refine hb_istore (q := 152) (lv' := [some (.ref 42), some (.int v1), some (.int v2), some (.int v3), some (.int v4), some (.int v5), some (.int (v6 + 1)), some (.int v7)]) hc dd_X9_find_150 rfl (Nat.le_of_ble_eq_true rfl) rfl ?_
          refine hb_iinc (q := 155) (v := v7 + 1) (lv' := [some (.ref 42), some (.int v1), some (.int v2), some (.int v3), some (.int v4), some (.int v5), some (.int (v6 + 1)), some (.int (v7 + 1))]) hc dd_X9_find_152 rfl rfl rfl (Nat.le_of_ble_eq_true rfl) rfl ?_
          refine hb_goto (tg := 63) hc dd_X9_find_155 (by decide) ?_
          exact hb_weak (lvs (lvs (lvs (lvs (lvs (lvs (lvs (lvs lvz)))))))) (h p l e s m args below meth c G hc)
      · replace h := h.2 z
        refine hb_aload_n (q := 118) hc dd_X9_find_117 rfl rfl ?_
        refine hb_getR (q := 121) hc fl_X9_35 sh42 sl42 rfl dd_X9_find_118 rfl ?_
        refine hb_iload (q := 123) hc dd_X9_find_121 rfl rfl ?_
        obtain ⟨hi, h⟩ := h
        refine hb_iald (q := 124) (v := M.1 51 v7.toNatClampNeg) hc sh51 sl51 hi rfl rfl dd_X9_find_123 rfl ?_
        refine hb_goto (tg := 129) hc dd_X9_find_124 (by decide) ?_
        refine hb_istore (q := 131) (lv' := [some (.ref 42), some (.int v1), some (.int v2), some (.int v3), some (.int v4), some (.int (M.1 51 v7.toNatClampNeg)), some (.int v6), some (.int v7)]) hc dd_X9_find_129 rfl (Nat.le_of_ble_eq_true rfl) rfl ?_
        refine hb_iload (q := 133) hc dd_X9_find_131 rfl rfl ?_
        refine hb_aload_n (q := 134) hc dd_X9_find_133 rfl rfl ?_
        refine hb_getR (q := 137) hc fl_X9_35 sh42 sl42 rfl dd_X9_find_134 rfl ?_
        refine hb_iload (q := 139) hc dd_X9_find_137 rfl rfl ?_
        obtain ⟨hi, h⟩ := h
        refine hb_iald (q := 140) (v := M.1 51 v7.toNatClampNeg) hc sh51 sl51 hi rfl rfl dd_X9_find_139 rfl ?_
        refine hb_iload_n (q := 141) hc dd_X9_find_140 rfl rfl ?_
        refine hb_icmp_ne (q := 144) (tg := 148) hc dd_X9_find_141 rfl (by decide) (fun z => ?_) (fun z => ?_)
        · replace h := h.1 z
          refine hb_iconst (q := 149) (v := 0) hc dd_X9_find_148 rfl ic_0 ?_
          refine hb_iadd (q := 150) hc dd_X9_find_149 rfl ?_
          refine hb_istore (q := 152) (lv' := [some (.ref 42), some (.int v1), some (.int v2), some (.int v3), some (.int v4), some (.int (M.1 51 v7.toNatClampNeg)), some (.int (v6 + 0)), some (.int v7)]) hc dd_X9_find_150 rfl (Nat.le_of_ble_eq_true rfl) rfl ?_
          refine hb_iinc (q := 155) (v := v7 + 1) (lv' := [some (.ref 42), some (.int v1), some (.int v2), some (.int v3), some (.int v4), some (.int (M.1 51 v7.toNatClampNeg)), some (.int (v6 + 0)), some (.int (v7 + 1))]) hc dd_X9_find_152 rfl rfl rfl (Nat.le_of_ble_eq_true rfl) rfl ?_
          refine hb_goto (tg := 63) hc dd_X9_find_155 (by decide) ?_
          exact hb_weak (lvs (lvs (lvs (lvs (lvs (lvs (lvs (lvs lvz)))))))) (h p l e s m args below meth c G hc)
        · replace h := h.2 z
          refine hb_iconst (q := 145) (v := 1) hc dd_X9_find_144 rfl ic_1 ?_
          refine hb_goto (tg := 149) hc dd_X9_find_145 (by decide) ?_
          refine hb_iadd (q := 150) hc dd_X9_find_149 rfl ?_
          refine hb_istore (q := 152) (lv' := [some (.ref 42), some (.int v1), some (.int v2), some (.int v3), some (.int v4), some (.int (M.1 51 v7.toNatClampNeg)), some (.int (v6 + 1)), some (.int v7)]) hc dd_X9_find_150 rfl (Nat.le_of_ble_eq_true rfl) rfl ?_
          refine hb_iinc (q := 155) (v := v7 + 1) (lv' := [some (.ref 42), some (.int v1), some (.int v2), some (.int v3), some (.int v4), some (.int (M.1 51 v7.toNatClampNeg)), some (.int (v6 + 1)), some (.int (v7 + 1))]) hc dd_X9_find_152 rfl rfl rfl (Nat.le_of_ble_eq_true rfl) rfl ?_
          refine hb_goto (tg := 63) hc dd_X9_find_155 (by decide) ?_
          exact hb_weak (lvs (lvs (lvs (lvs (lvs (lvs (lvs (lvs lvz)))))))) (h p l e s m args below meth c G hc)
    · replace h := h.2 z
      refine hb_aload_n (q := 92) hc dd_X9_find_91 rfl rfl ?_
      refine hb_getR (q := 95) hc fl_X9_35 sh42 sl42 rfl dd_X9_find_92 rfl ?_
      refine hb_iload (q := 97) hc dd_X9_find_95 rfl rfl ?_
      obtain ⟨hi, h⟩ := h
      refine hb_iald (q := 98) (v := M.1 51 v7.toNatClampNeg) hc sh51 sl51 hi rfl rfl dd_X9_find_97 rfl ?_
      refine hb_goto (tg := 103) hc dd_X9_find_98 (by decide) ?_
      refine hb_istore (q := 105) (lv' := [some (.ref 42), some (.int v1), some (.int v2), some (.int v3), some (.int (M.1 51 v7.toNatClampNeg)), some (.int v5), some (.int v6), some (.int v7)]) hc dd_X9_find_103 rfl (Nat.le_of_ble_eq_true rfl) rfl ?_
      refine hb_aload_n (q := 106) hc dd_X9_find_105 rfl rfl ?_
      refine hb_getR (q := 109) hc fl_X9_35 sh42 sl42 rfl dd_X9_find_106 rfl ?_
      refine hb_iload (q := 111) hc dd_X9_find_109 rfl rfl ?_
      obtain ⟨hi, h⟩ := h
      refine hb_iald (q := 112) (v := M.1 51 v7.toNatClampNeg) hc sh51 sl51 hi rfl rfl dd_X9_find_111 rfl ?_
      refine hb_iload (q := 114) hc dd_X9_find_112 rfl rfl ?_
      refine hb_icmp_ge (q := 117) (tg := 127) hc dd_X9_find_114 rfl (by decide) (fun z => ?_) (fun z => ?_)
      · replace h := h.1 z
        refine hb_iload (q := 129) hc dd_X9_find_127 rfl rfl ?_
        refine hb_istore (q := 131) (lv' := [some (.ref 42), some (.int v1), some (.int v2), some (.int v3), some (.int (M.1 51 v7.toNatClampNeg)), some (.int v5), some (.int v6), some (.int v7)]) hc dd_X9_find_129 rfl (Nat.le_of_ble_eq_true rfl) rfl ?_
        refine hb_iload (q := 133) hc dd_X9_find_131 rfl rfl ?_
        refine hb_aload_n (q := 134) hc dd_X9_find_133 rfl rfl ?_
        refine hb_getR (q := 137) hc fl_X9_35 sh42 sl42 rfl dd_X9_find_134 rfl ?_
        refine hb_iload (q := 139) hc dd_X9_find_137 rfl rfl ?_
        obtain ⟨hi, h⟩ := h
        refine hb_iald (q := 140) (v := M.1 51 v7.toNatClampNeg) hc sh51 sl51 hi rfl rfl dd_X9_find_139 rfl ?_
        refine hb_iload_n (q := 141) hc dd_X9_find_140 rfl rfl ?_
        refine hb_icmp_ne (q := 144) (tg := 148) hc dd_X9_find_141 rfl (by decide) (fun z => ?_) (fun z => ?_)
        · replace h := h.1 z
          refine hb_iconst (q := 149) (v := 0) hc dd_X9_find_148 rfl ic_0 ?_
          refine hb_iadd (q := 150) hc dd_X9_find_149 rfl ?_
          refine hb_istore (q := 152) (lv' := [some (.ref 42), some (.int v1), some (.int v2), some (.int v3), some (.int (M.1 51 v7.toNatClampNeg)), some (.int v5), some (.int (v6 + 0)), some (.int v7)]) hc dd_X9_find_150 rfl (Nat.le_of_ble_eq_true rfl) rfl ?_
          refine hb_iinc (q := 155) (v := v7 + 1) (lv' := [some (.ref 42), some (.int v1), some (.int v2), some (.int v3), some (.int (M.1 51 v7.toNatClampNeg)), some (.int v5), some (.int (v6 + 0)), some (.int (v7 + 1))]) hc dd_X9_find_152 rfl rfl rfl (Nat.le_of_ble_eq_true rfl) rfl ?_
          refine hb_goto (tg := 63) hc dd_X9_find_155 (by decide) ?_
          exact hb_weak (lvs (lvs (lvs (lvs (lvs (lvs (lvs (lvs lvz)))))))) (h p l e s m args below meth c G hc)
        · replace h := h.2 z
          refine hb_iconst (q := 145) (v := 1) hc dd_X9_find_144 rfl ic_1 ?_
          refine hb_goto (tg := 149) hc dd_X9_find_145 (by decide) ?_
          refine hb_iadd (q := 150) hc dd_X9_find_149 rfl ?_
          refine hb_istore (q := 152) (lv' := [some (.ref 42), some (.int v1), some (.int v2), some (.int v3), some (.int (M.1 51 v7.toNatClampNeg)), some (.int v5), some (.int (v6 + 1)), some (.int v7)]) hc dd_X9_find_150 rfl (Nat.le_of_ble_eq_true rfl) rfl ?_
          refine hb_iinc (q := 155) (v := v7 + 1) (lv' := [some (.ref 42), some (.int v1), some (.int v2), some (.int v3), some (.int (M.1 51 v7.toNatClampNeg)), some (.int v5), some (.int (v6 + 1)), some (.int (v7 + 1))]) hc dd_X9_find_152 rfl rfl rfl (Nat.le_of_ble_eq_true rfl) rfl ?_
          refine hb_goto (tg := 63) hc dd_X9_find_155 (by decide) ?_
          exact hb_weak (lvs (lvs (lvs (lvs (lvs (lvs (lvs (lvs lvz)))))))) (h p l e s m args below meth c G hc)
      · replace h := h.2 z
        refine hb_aload_n (q := 118) hc dd_X9_find_117 rfl rfl ?_
        refine hb_getR (q := 121) hc fl_X9_35 sh42 sl42 rfl dd_X9_find_118 rfl ?_
        refine hb_iload (q := 123) hc dd_X9_find_121 rfl rfl ?_
        obtain ⟨hi, h⟩ := h
        refine hb_iald (q := 124) (v := M.1 51 v7.toNatClampNeg) hc sh51 sl51 hi rfl rfl dd_X9_find_123 rfl ?_
        refine hb_goto (tg := 129) hc dd_X9_find_124 (by decide) ?_
        refine hb_istore (q := 131) (lv' := [some (.ref 42), some (.int v1), some (.int v2), some (.int v3), some (.int (M.1 51 v7.toNatClampNeg)), some (.int (M.1 51 v7.toNatClampNeg)), some (.int v6), some (.int v7)]) hc dd_X9_find_129 rfl (Nat.le_of_ble_eq_true rfl) rfl ?_
        refine hb_iload (q := 133) hc dd_X9_find_131 rfl rfl ?_
        refine hb_aload_n (q := 134) hc dd_X9_find_133 rfl rfl ?_
        refine hb_getR (q := 137) hc fl_X9_35 sh42 sl42 rfl dd_X9_find_134 rfl ?_
        refine hb_iload (q := 139) hc dd_X9_find_137 rfl rfl ?_
        obtain ⟨hi, h⟩ := h
        refine hb_iald (q := 140) (v := M.1 51 v7.toNatClampNeg) hc sh51 sl51 hi rfl rfl dd_X9_find_139 rfl ?_
        refine hb_iload_n (q := 141) hc dd_X9_find_140 rfl rfl ?_
        refine hb_icmp_ne (q := 144) (tg := 148) hc dd_X9_find_141 rfl (by decide) (fun z => ?_) (fun z => ?_)
        · replace h := h.1 z
          refine hb_iconst (q := 149) (v := 0) hc dd_X9_find_148 rfl ic_0 ?_
          refine hb_iadd (q := 150) hc dd_X9_find_149 rfl ?_
          refine hb_istore (q := 152) (lv' := [some (.ref 42), some (.int v1), some (.int v2), some (.int v3), some (.int (M.1 51 v7.toNatClampNeg)), some (.int (M.1 51 v7.toNatClampNeg)), some (.int (v6 + 0)), some (.int v7)]) hc dd_X9_find_150 rfl (Nat.le_of_ble_eq_true rfl) rfl ?_
          refine hb_iinc (q := 155) (v := v7 + 1) (lv' := [some (.ref 42), some (.int v1), some (.int v2), some (.int v3), some (.int (M.1 51 v7.toNatClampNeg)), some (.int (M.1 51 v7.toNatClampNeg)), some (.int (v6 + 0)), some (.int (v7 + 1))]) hc dd_X9_find_152 rfl rfl rfl (Nat.le_of_ble_eq_true rfl) rfl ?_
          refine hb_goto (tg := 63) hc dd_X9_find_155 (by decide) ?_
          exact hb_weak (lvs (lvs (lvs (lvs (lvs (lvs (lvs (lvs lvz)))))))) (h p l e s m args below meth c G hc)
        · replace h := h.2 z
          refine hb_iconst (q := 145) (v := 1) hc dd_X9_find_144 rfl ic_1 ?_
          refine hb_goto (tg := 149) hc dd_X9_find_145 (by decide) ?_
          refine hb_iadd (q := 150) hc dd_X9_find_149 rfl ?_
          refine hb_istore (q := 152) (lv' := [some (.ref 42), some (.int v1), some (.int v2), some (.int v3), some (.int (M.1 51 v7.toNatClampNeg)), some (.int (M.1 51 v7.toNatClampNeg)), some (.int (v6 + 1)), some (.int v7)]) hc dd_X9_find_150 rfl (Nat.le_of_ble_eq_true rfl) rfl ?_
          refine hb_iinc (q := 155) (v := v7 + 1) (lv' := [some (.ref 42), some (.int v1), some (.int v2), some (.int v3), some (.int (M.1 51 v7.toNatClampNeg)), some (.int (M.1 51 v7.toNatClampNeg)), some (.int (v6 + 1)), some (.int (v7 + 1))]) hc dd_X9_find_152 rfl rfl rfl (Nat.le_of_ble_eq_true rfl) rfl ?_
          refine hb_goto (tg := 63) hc dd_X9_find_155 (by decide) ?_
          exact hb_weak (lvs (lvs (lvs (lvs (lvs (lvs (lvs (lvs lvz)))))))) (h p l e s m args below meth c G hc)
theorem w_X9_find {d : Nat} {M : Mm} {v1 : Int32} {v2 : Int32} {v3 : Int32} {K : Int32 → Mm → Prop}  (h : ACi d X9_isTape [.int v1] M (fun r1 M1 => (¬ r1 = 0 → (ACi d X9_in [.long v2.toInt64, .long 0, .long 2] M1 (fun r2 M2 => (r2 = 0 → (K (-3) M2)) ∧ (¬ r2 = 0 → (ACi d X9_isNumber [.int v3] M2 (fun r3 M3 => (¬ r3 = 0 → (vp_in v1 3 ∧ ((0 ≤ (M3.1 50 v1.toNatClampNeg) → (lp_X9_find_63 d M3 v1 v2 v3 (-99999) 99999 0 (12 * v1) K)) ∧ (¬ 0 ≤ (M3.1 50 v1.toNatClampNeg) → (K (-11) M3))))) ∧ (r3 = 0 → (K (-3) M3)))))))) ∧ (r1 = 0 → (K (-2) M1)))) : ACi (d + 1) X9_find [.ref 42, .int v1, .int v2, .int v3] M K := by
  refine AC.ofW (lv := [some (.ref 42), some (.int v1), some (.int v2), some (.int v3), none, none, none, none]) pn_X9 (Nat.le_of_ble_eq_true rfl) (show lvLe _ [some (.ref 42), some (.int v1), some (.int v2), some (.int v3)] from (lvs (lvs (lvs (lvs (lve (lve (lve (lve lvz))))))))) ?_
  intro p l e s m args below meth c G hc
  refine hb_iload_n (q := 1) hc dd_X9_find_0 rfl rfl ?_
  refine hb_callSi (q := 4) (vs := [.int v1]) (st := []) hc mv_X9_286 h rfl rfl (Nat.le_of_ble_eq_true rfl) ⟨Nat.le_refl _, Nat.le_refl _⟩ ⟨Nat.le_refl _, Nat.le_refl _⟩ dd_X9_find_1 rfl (fun r1 M1 h => ?_)
  refine hb_if_ne (q := 7) (tg := 10) hc dd_X9_find_4 rfl (by decide) (fun z => ?_) (fun z => ?_)
  · replace h := h.1 z
    refine hb_iload_n (q := 11) hc dd_X9_find_10 rfl rfl ?_
    refine hb_i2l (q := 12) hc dd_X9_find_11 rfl ?_
    refine hb_lconst (q := 13) (v := 0) hc dd_X9_find_12 rfl lc_0 ?_
    refine hb_ldc2 (q := 16) (v := 2) hc dd_X9_find_13 rfl iw_1229 ?_
    refine hb_callSi (q := 19) (vs := [.long v2.toInt64, .long 0, .long 2]) (st := []) hc mv_X9_104 h rfl rfl (Nat.le_of_ble_eq_true rfl) ⟨Nat.le_refl _, Nat.le_refl _⟩ ⟨Nat.le_refl _, Nat.le_refl _⟩ dd_X9_find_16 rfl (fun r2 M2 h => ?_)
    refine hb_if_eq (q := 22) (tg := 29) hc dd_X9_find_19 rfl (by decide) (fun z => ?_) (fun z => ?_)
    · replace h := h.1 z
      refine hb_bipush (q := 31) (v := (-3)) hc dd_X9_find_29 rfl bp_m3 ?_
      exact hb_iret hc rfl dd_X9_find_31 h
    · replace h := h.2 z
      refine hb_iload_n (q := 23) hc dd_X9_find_22 rfl rfl ?_
      refine hb_callSi (q := 26) (vs := [.int v3]) (st := []) hc mv_X9_289 h rfl rfl (Nat.le_of_ble_eq_true rfl) ⟨Nat.le_refl _, Nat.le_refl _⟩ ⟨Nat.le_refl _, Nat.le_refl _⟩ dd_X9_find_23 rfl (fun r3 M3 h => ?_)
      refine hb_if_ne (q := 29) (tg := 32) hc dd_X9_find_26 rfl (by decide) (fun z => ?_) (fun z => ?_)
      · replace h := h.1 z
        refine hb_aload_n (q := 33) hc dd_X9_find_32 rfl rfl ?_
        refine hb_getR (q := 36) hc fl_X9_32 sh42 sl42 rfl dd_X9_find_33 rfl ?_
        refine hb_iload_n (q := 37) hc dd_X9_find_36 rfl rfl ?_
        obtain ⟨hi, h⟩ := h
        refine hb_iald (q := 38) (v := M3.1 50 v1.toNatClampNeg) hc sh50 sl50 hi rfl rfl dd_X9_find_37 rfl ?_
        refine hb_if_ge (q := 41) (tg := 44) hc dd_X9_find_38 rfl (by decide) (fun z => ?_) (fun z => ?_)
        · replace h := h.1 z
          refine hb_ldcw (q := 47) (v := (-99999)) hc dd_X9_find_44 rfl iw_1260 ?_
          refine hb_istore (q := 49) (lv' := [some (.ref 42), some (.int v1), some (.int v2), some (.int v3), some (.int (-99999)), none, none, none]) hc dd_X9_find_47 rfl (Nat.le_of_ble_eq_true rfl) rfl ?_
          refine hb_ldcw (q := 52) (v := 99999) hc dd_X9_find_49 rfl iw_1261 ?_
          refine hb_istore (q := 54) (lv' := [some (.ref 42), some (.int v1), some (.int v2), some (.int v3), some (.int (-99999)), some (.int 99999), none, none]) hc dd_X9_find_52 rfl (Nat.le_of_ble_eq_true rfl) rfl ?_
          refine hb_iconst (q := 55) (v := 0) hc dd_X9_find_54 rfl ic_0 ?_
          refine hb_istore (q := 57) (lv' := [some (.ref 42), some (.int v1), some (.int v2), some (.int v3), some (.int (-99999)), some (.int 99999), some (.int 0), none]) hc dd_X9_find_55 rfl (Nat.le_of_ble_eq_true rfl) rfl ?_
          refine hb_bipush (q := 59) (v := 12) hc dd_X9_find_57 rfl bp_12 ?_
          refine hb_iload_n (q := 60) hc dd_X9_find_59 rfl rfl ?_
          refine hb_imul (q := 61) hc dd_X9_find_60 rfl ?_
          refine hb_istore (q := 63) (lv' := [some (.ref 42), some (.int v1), some (.int v2), some (.int v3), some (.int (-99999)), some (.int 99999), some (.int 0), some (.int (12 * v1))]) hc dd_X9_find_61 rfl (Nat.le_of_ble_eq_true rfl) rfl ?_
          exact hb_weak (lvs (lvs (lvs (lvs (lvs (lvs (lvs (lvs lvz)))))))) (h p l e s m args below meth c G hc)
        · replace h := h.2 z
          refine hb_bipush (q := 43) (v := (-11)) hc dd_X9_find_41 rfl bp_m11 ?_
          exact hb_iret hc rfl dd_X9_find_43 h
      · replace h := h.2 z
        refine hb_bipush (q := 31) (v := (-3)) hc dd_X9_find_29 rfl bp_m3 ?_
        exact hb_iret hc rfl dd_X9_find_31 h
  · replace h := h.2 z
    refine hb_bipush (q := 9) (v := (-2)) hc dd_X9_find_7 rfl bp_m2 ?_
    exact hb_iret hc rfl dd_X9_find_9 h
def lp_X9_strike_37 (d : Nat) (M : Mm) (v1 : Int32) (v2 : Int32) (v3 : Int32) (v4 : Int32) (K : Int32 → Mm → Prop) : Prop := AW (d + 1) X9_strike M 37 [some (.ref 42), some (.int v1), some (.int v2), some (.int v3), some (.int v4)] [] (QI K)
theorem z_X9_strike_37 {d : Nat} {M : Mm} {v1 : Int32} {v2 : Int32} {v3 : Int32} {v4 : Int32} {K : Int32 → Mm → Prop}  (h : vp_in v1 3 ∧ (((M.1 50 v1.toNatClampNeg) ≤ v4 → (vp_in v1 3 ∧ (vp_in v1 3 ∧ (K ((M.1 50 v1.toNatClampNeg) - v3) (wI M 50 v1.toNatClampNeg v3))))) ∧ (¬ (M.1 50 v1.toNatClampNeg) ≤ v4 → (vp_in ((12 * v1) + v4) 36 ∧ (((M.1 51 (((12 * v1) + v4).toNatClampNeg)) = v2 → (lp_X9_strike_37 d M v1 v2 v3 (v4 + 1) K)) ∧ (¬ (M.1 51 (((12 * v1) + v4).toNatClampNeg)) = v2 → (vp_in ((12 * v1) + v4) 36 ∧ (vp_in ((12 * v1) + v3) 36 ∧ (lp_X9_strike_37 d (wI M 51 (((12 * v1) + v3).toNatClampNeg) (M.1 51 (((12 * v1) + v4).toNatClampNeg))) v1 v2 (v3 + 1) (v4 + 1) K))))))))) : lp_X9_strike_37 d M v1 v2 v3 v4 K := by
  intro p l e s m args below meth c G hc
  refine hb_iload (q := 39) hc dd_X9_strike_37 rfl rfl ?_
  refine hb_aload_n (q := 40) hc dd_X9_strike_39 rfl rfl ?_
  refine hb_getR (q := 43) hc fl_X9_32 sh42 sl42 rfl dd_X9_strike_40 rfl ?_
  refine hb_iload_n (q := 44) hc dd_X9_strike_43 rfl rfl ?_
  obtain ⟨hi, h⟩ := h
  refine hb_iald (q := 45) (v := M.1 50 v1.toNatClampNeg) hc sh50 sl50 hi rfl rfl dd_X9_strike_44 rfl ?_
  refine hb_icmp_ge (q := 48) (tg := 96) hc dd_X9_strike_45 rfl (by decide) (fun z => ?_) (fun z => ?_)
  · replace h := h.1 z
    refine hb_aload_n (q := 97) hc dd_X9_strike_96 rfl rfl ?_
    refine hb_getR (q := 100) hc fl_X9_32 sh42 sl42 rfl dd_X9_strike_97 rfl ?_
    refine hb_iload_n (q := 101) hc dd_X9_strike_100 rfl rfl ?_
    obtain ⟨hi, h⟩ := h
    refine hb_iald (q := 102) (v := M.1 50 v1.toNatClampNeg) hc sh50 sl50 hi rfl rfl dd_X9_strike_101 rfl ?_
    refine hb_iload_n (q := 103) hc dd_X9_strike_102 rfl rfl ?_
    refine hb_isub (q := 104) hc dd_X9_strike_103 rfl ?_
    refine hb_istore (q := 106) (lv' := [some (.ref 42), some (.int v1), some (.int v2), some (.int v3), some (.int ((M.1 50 v1.toNatClampNeg) - v3))]) hc dd_X9_strike_104 rfl (Nat.le_of_ble_eq_true rfl) rfl ?_
    refine hb_aload_n (q := 107) hc dd_X9_strike_106 rfl rfl ?_
    refine hb_getR (q := 110) hc fl_X9_32 sh42 sl42 rfl dd_X9_strike_107 rfl ?_
    refine hb_iload_n (q := 111) hc dd_X9_strike_110 rfl rfl ?_
    refine hb_iload_n (q := 112) hc dd_X9_strike_111 rfl rfl ?_
    obtain ⟨hi, h⟩ := h
    refine hb_iast (q := 113) hc sh50 sl50 hi rfl dd_X9_strike_112 rfl ?_
    refine hb_iload (q := 115) hc dd_X9_strike_113 rfl rfl ?_
    exact hb_iret hc rfl dd_X9_strike_115 h
  · replace h := h.2 z
    refine hb_aload_n (q := 49) hc dd_X9_strike_48 rfl rfl ?_
    refine hb_getR (q := 52) hc fl_X9_35 sh42 sl42 rfl dd_X9_strike_49 rfl ?_
    refine hb_bipush (q := 54) (v := 12) hc dd_X9_strike_52 rfl bp_12 ?_
    refine hb_iload_n (q := 55) hc dd_X9_strike_54 rfl rfl ?_
    refine hb_imul (q := 56) hc dd_X9_strike_55 rfl ?_
    refine hb_iload (q := 58) hc dd_X9_strike_56 rfl rfl ?_
    refine hb_iadd (q := 59) hc dd_X9_strike_58 rfl ?_
    obtain ⟨hi, h⟩ := h
    refine hb_iald (q := 60) (v := M.1 51 (((12 * v1) + v4).toNatClampNeg)) hc sh51 sl51 hi rfl rfl dd_X9_strike_59 rfl ?_
    refine hb_iload_n (q := 61) hc dd_X9_strike_60 rfl rfl ?_
    refine hb_icmp_eq (q := 64) (tg := 90) hc dd_X9_strike_61 rfl (by decide) (fun z => ?_) (fun z => ?_)
    · replace h := h.1 z
      refine hb_iinc (q := 93) (v := v4 + 1) (lv' := [some (.ref 42), some (.int v1), some (.int v2), some (.int v3), some (.int (v4 + 1))]) hc dd_X9_strike_90 rfl rfl rfl (Nat.le_of_ble_eq_true rfl) rfl ?_
      refine hb_goto (tg := 37) hc dd_X9_strike_93 (by decide) ?_
      exact hb_weak (lvs (lvs (lvs (lvs (lvs lvz))))) (h p l e s m args below meth c G hc)
    · replace h := h.2 z
      refine hb_aload_n (q := 65) hc dd_X9_strike_64 rfl rfl ?_
      refine hb_getR (q := 68) hc fl_X9_35 sh42 sl42 rfl dd_X9_strike_65 rfl ?_
      refine hb_bipush (q := 70) (v := 12) hc dd_X9_strike_68 rfl bp_12 ?_
      refine hb_iload_n (q := 71) hc dd_X9_strike_70 rfl rfl ?_
      refine hb_imul (q := 72) hc dd_X9_strike_71 rfl ?_
      refine hb_iload_n (q := 73) hc dd_X9_strike_72 rfl rfl ?_
      refine hb_iadd (q := 74) hc dd_X9_strike_73 rfl ?_
      refine hb_aload_n (q := 75) hc dd_X9_strike_74 rfl rfl ?_
      refine hb_getR (q := 78) hc fl_X9_35 sh42 sl42 rfl dd_X9_strike_75 rfl ?_
      refine hb_bipush (q := 80) (v := 12) hc dd_X9_strike_78 rfl bp_12 ?_
      refine hb_iload_n (q := 81) hc dd_X9_strike_80 rfl rfl ?_
      refine hb_imul (q := 82) hc dd_X9_strike_81 rfl ?_
      refine hb_iload (q := 84) hc dd_X9_strike_82 rfl rfl ?_
      refine hb_iadd (q := 85) hc dd_X9_strike_84 rfl ?_
      obtain ⟨hi, h⟩ := h
      refine hb_iald (q := 86) (v := M.1 51 (((12 * v1) + v4).toNatClampNeg)) hc sh51 sl51 hi rfl rfl dd_X9_strike_85 rfl ?_
      obtain ⟨hi, h⟩ := h
      refine hb_iast (q := 87) hc sh51 sl51 hi rfl dd_X9_strike_86 rfl ?_
      refine hb_iinc (q := 90) (v := v3 + 1) (lv' := [some (.ref 42), some (.int v1), some (.int v2), some (.int (v3 + 1)), some (.int v4)]) hc dd_X9_strike_87 rfl rfl rfl (Nat.le_of_ble_eq_true rfl) rfl ?_
      refine hb_iinc (q := 93) (v := v4 + 1) (lv' := [some (.ref 42), some (.int v1), some (.int v2), some (.int (v3 + 1)), some (.int (v4 + 1))]) hc dd_X9_strike_90 rfl rfl rfl (Nat.le_of_ble_eq_true rfl) rfl ?_
      refine hb_goto (tg := 37) hc dd_X9_strike_93 (by decide) ?_
      exact hb_weak (lvs (lvs (lvs (lvs (lvs lvz))))) (h p l e s m args below meth c G hc)
theorem w_X9_strike {d : Nat} {M : Mm} {v1 : Int32} {v2 : Int32} {K : Int32 → Mm → Prop}  (h : ACi d X9_isTape [.int v1] M (fun r1 M1 => (¬ r1 = 0 → (ACi d X9_isNumber [.int v2] M1 (fun r2 M2 => (¬ r2 = 0 → (vp_in v1 3 ∧ ((0 ≤ (M2.1 50 v1.toNatClampNeg) → (lp_X9_strike_37 d M2 v1 v2 0 0 K)) ∧ (¬ 0 ≤ (M2.1 50 v1.toNatClampNeg) → (K (-11) M2))))) ∧ (r2 = 0 → (K (-3) M2))))) ∧ (r1 = 0 → (K (-2) M1)))) : ACi (d + 1) X9_strike [.ref 42, .int v1, .int v2] M K := by
  refine AC.ofW (lv := [some (.ref 42), some (.int v1), some (.int v2), none, none]) pn_X9 (Nat.le_of_ble_eq_true rfl) (show lvLe _ [some (.ref 42), some (.int v1), some (.int v2)] from (lvs (lvs (lvs (lve (lve lvz)))))) ?_
  intro p l e s m args below meth c G hc
  refine hb_iload_n (q := 1) hc dd_X9_strike_0 rfl rfl ?_
  refine hb_callSi (q := 4) (vs := [.int v1]) (st := []) hc mv_X9_286 h rfl rfl (Nat.le_of_ble_eq_true rfl) ⟨Nat.le_refl _, Nat.le_refl _⟩ ⟨Nat.le_refl _, Nat.le_refl _⟩ dd_X9_strike_1 rfl (fun r1 M1 h => ?_)
  refine hb_if_ne (q := 7) (tg := 10) hc dd_X9_strike_4 rfl (by decide) (fun z => ?_) (fun z => ?_)
  · replace h := h.1 z
    refine hb_iload_n (q := 11) hc dd_X9_strike_10 rfl rfl ?_
    refine hb_callSi (q := 14) (vs := [.int v2]) (st := []) hc mv_X9_289 h rfl rfl (Nat.le_of_ble_eq_true rfl) ⟨Nat.le_refl _, Nat.le_refl _⟩ ⟨Nat.le_refl _, Nat.le_refl _⟩ dd_X9_strike_11 rfl (fun r2 M2 h => ?_)
    refine hb_if_ne (q := 17) (tg := 20) hc dd_X9_strike_14 rfl (by decide) (fun z => ?_) (fun z => ?_)
    · replace h := h.1 z
      refine hb_aload_n (q := 21) hc dd_X9_strike_20 rfl rfl ?_
      refine hb_getR (q := 24) hc fl_X9_32 sh42 sl42 rfl dd_X9_strike_21 rfl ?_
      refine hb_iload_n (q := 25) hc dd_X9_strike_24 rfl rfl ?_
      obtain ⟨hi, h⟩ := h
      refine hb_iald (q := 26) (v := M2.1 50 v1.toNatClampNeg) hc sh50 sl50 hi rfl rfl dd_X9_strike_25 rfl ?_
      refine hb_if_ge (q := 29) (tg := 32) hc dd_X9_strike_26 rfl (by decide) (fun z => ?_) (fun z => ?_)
      · replace h := h.1 z
        refine hb_iconst (q := 33) (v := 0) hc dd_X9_strike_32 rfl ic_0 ?_
        refine hb_istore_n (q := 34) (lv' := [some (.ref 42), some (.int v1), some (.int v2), some (.int 0), none]) hc dd_X9_strike_33 rfl (Nat.le_of_ble_eq_true rfl) rfl ?_
        refine hb_iconst (q := 35) (v := 0) hc dd_X9_strike_34 rfl ic_0 ?_
        refine hb_istore (q := 37) (lv' := [some (.ref 42), some (.int v1), some (.int v2), some (.int 0), some (.int 0)]) hc dd_X9_strike_35 rfl (Nat.le_of_ble_eq_true rfl) rfl ?_
        exact hb_weak (lvs (lvs (lvs (lvs (lvs lvz))))) (h p l e s m args below meth c G hc)
      · replace h := h.2 z
        refine hb_bipush (q := 31) (v := (-11)) hc dd_X9_strike_29 rfl bp_m11 ?_
        exact hb_iret hc rfl dd_X9_strike_31 h
    · replace h := h.2 z
      refine hb_bipush (q := 19) (v := (-3)) hc dd_X9_strike_17 rfl bp_m3 ?_
      exact hb_iret hc rfl dd_X9_strike_19 h
  · replace h := h.2 z
    refine hb_bipush (q := 9) (v := (-2)) hc dd_X9_strike_7 rfl bp_m2 ?_
    exact hb_iret hc rfl dd_X9_strike_9 h
def lp_X9_load_71 (d : Nat) (M : Mm) (v1 : Int32) (v2 : Int32) (v3 : Int32) (v4 : Int32) (K : Int32 → Mm → Prop) : Prop := AW (d + 1) X9_load M 71 [some (.ref 42), some (.int v1), some (.int v2), some (.int v3), some (.int v4)] [] (QI K)
theorem z_X9_load_71 {d : Nat} {M : Mm} {v1 : Int32} {v2 : Int32} {v3 : Int32} {v4 : Int32} {K : Int32 → Mm → Prop}  (h : ((M.1 42 1) ≤ v4 → (vp_in v1 3 ∧ (K (M.1 50 v1.toNatClampNeg) M))) ∧ (¬ (M.1 42 1) ≤ v4 → (ACi d X9_beatOf [.ref 42, .int v2, .int (v3 + v4)] M (fun r1 M1 => ACv d X9_putAt [.ref 42, .int v1, .int 1, .int r1] M1 (fun M2 => lp_X9_load_71 d M2 v1 v2 v3 (v4 + 1) K))))) : lp_X9_load_71 d M v1 v2 v3 v4 K := by
  intro p l e s m args below meth c G hc
  refine hb_iload (q := 73) hc dd_X9_load_71 rfl rfl ?_
  refine hb_aload_n (q := 74) hc dd_X9_load_73 rfl rfl ?_
  refine hb_getI (q := 77) (v := M.1 42 1) hc fl_X9_86 sh42 sl42 rfl rfl dd_X9_load_74 rfl ?_
  refine hb_icmp_ge (q := 80) (tg := 101) hc dd_X9_load_77 rfl (by decide) (fun z => ?_) (fun z => ?_)
  · replace h := h.1 z
    refine hb_aload_n (q := 102) hc dd_X9_load_101 rfl rfl ?_
    refine hb_getR (q := 105) hc fl_X9_32 sh42 sl42 rfl dd_X9_load_102 rfl ?_
    refine hb_iload_n (q := 106) hc dd_X9_load_105 rfl rfl ?_
    obtain ⟨hi, h⟩ := h
    refine hb_iald (q := 107) (v := M.1 50 v1.toNatClampNeg) hc sh50 sl50 hi rfl rfl dd_X9_load_106 rfl ?_
    exact hb_iret hc rfl dd_X9_load_107 h
  · replace h := h.2 z
    refine hb_aload_n (q := 81) hc dd_X9_load_80 rfl rfl ?_
    refine hb_iload_n (q := 82) hc dd_X9_load_81 rfl rfl ?_
    refine hb_iconst (q := 83) (v := 1) hc dd_X9_load_82 rfl ic_1 ?_
    refine hb_aload_n (q := 84) hc dd_X9_load_83 rfl rfl ?_
    refine hb_iload_n (q := 85) hc dd_X9_load_84 rfl rfl ?_
    refine hb_iload_n (q := 86) hc dd_X9_load_85 rfl rfl ?_
    refine hb_iload (q := 88) hc dd_X9_load_86 rfl rfl ?_
    refine hb_iadd (q := 89) hc dd_X9_load_88 rfl ?_
    refine hb_callVi (q := 92) (vs := [.int v2, .int (v3 + v4)]) (st := [.int 1, .int v1, .ref 42]) hc mv_X9_186 h sh42 sl42 rfl rfl rfl (Nat.le_of_ble_eq_true rfl) ⟨Nat.le_refl _, Nat.le_refl _⟩ ⟨Nat.le_refl _, Nat.le_refl _⟩ dd_X9_load_89 rfl (fun r1 M1 h => ?_)
    refine hb_callVv (q := 95) (vs := [.int v1, .int 1, .int r1]) (st := []) hc mv_X9_292 h sh42 sl42 rfl rfl rfl (Nat.le_of_ble_eq_true rfl) ⟨Nat.le_refl _, Nat.le_refl _⟩ ⟨Nat.le_refl _, Nat.le_refl _⟩ dd_X9_load_92 rfl (fun M2 h => ?_)
    refine hb_iinc (q := 98) (v := v4 + 1) (lv' := [some (.ref 42), some (.int v1), some (.int v2), some (.int v3), some (.int (v4 + 1))]) hc dd_X9_load_95 rfl rfl rfl (Nat.le_of_ble_eq_true rfl) rfl ?_
    refine hb_goto (tg := 71) hc dd_X9_load_98 (by decide) ?_
    exact hb_weak (lvs (lvs (lvs (lvs (lvs lvz))))) (h p l e s m args below meth c G hc)
theorem w_X9_load {d : Nat} {M : Mm} {v1 : Int32} {v2 : Int32} {v3 : Int32} {K : Int32 → Mm → Prop}  (h : ACi d X9_isTape [.int v1] M (fun r1 M1 => (r1 = 0 → (K (-2) M1)) ∧ (¬ r1 = 0 → (ACi d X9_isRhythm [.ref 42, .int v2] M1 (fun r2 M2 => (¬ r2 = 0 → (ACi d X9_in [.long v3.toInt64, .long 0, .long (((M2.1 42 1) - 1).toInt64)] M2 (fun r3 M3 => (¬ r3 = 0 → (vp_in v1 3 ∧ ((0 ≤ (M3.1 50 v1.toNatClampNeg) → (vp_in v1 3 ∧ ((((M3.1 50 v1.toNatClampNeg) + (M3.1 42 1)) ≤ 12 → (lp_X9_load_71 d M3 v1 v2 v3 0 K)) ∧ (¬ ((M3.1 50 v1.toNatClampNeg) + (M3.1 42 1)) ≤ 12 → (K (-13) M3))))) ∧ (¬ 0 ≤ (M3.1 50 v1.toNatClampNeg) → (K (-11) M3))))) ∧ (r3 = 0 → (K (-3) M3))))) ∧ (r2 = 0 → (K (-2) M2))))))) : ACi (d + 1) X9_load [.ref 42, .int v1, .int v2, .int v3] M K := by
  refine AC.ofW (lv := [some (.ref 42), some (.int v1), some (.int v2), some (.int v3), none]) pn_X9 (Nat.le_of_ble_eq_true rfl) (show lvLe _ [some (.ref 42), some (.int v1), some (.int v2), some (.int v3)] from (lvs (lvs (lvs (lvs (lve lvz)))))) ?_
  intro p l e s m args below meth c G hc
  refine hb_iload_n (q := 1) hc dd_X9_load_0 rfl rfl ?_
  refine hb_callSi (q := 4) (vs := [.int v1]) (st := []) hc mv_X9_286 h rfl rfl (Nat.le_of_ble_eq_true rfl) ⟨Nat.le_refl _, Nat.le_refl _⟩ ⟨Nat.le_refl _, Nat.le_refl _⟩ dd_X9_load_1 rfl (fun r1 M1 h => ?_)
  refine hb_if_eq (q := 7) (tg := 15) hc dd_X9_load_4 rfl (by decide) (fun z => ?_) (fun z => ?_)
  · replace h := h.1 z
    refine hb_bipush (q := 17) (v := (-2)) hc dd_X9_load_15 rfl bp_m2 ?_
    exact hb_iret hc rfl dd_X9_load_17 h
  · replace h := h.2 z
    refine hb_aload_n (q := 8) hc dd_X9_load_7 rfl rfl ?_
    refine hb_iload_n (q := 9) hc dd_X9_load_8 rfl rfl ?_
    refine hb_callVi (q := 12) (vs := [.int v2]) (st := []) hc mv_X9_198 h sh42 sl42 rfl rfl rfl (Nat.le_of_ble_eq_true rfl) ⟨Nat.le_refl _, Nat.le_refl _⟩ ⟨Nat.le_refl _, Nat.le_refl _⟩ dd_X9_load_9 rfl (fun r2 M2 h => ?_)
    refine hb_if_ne (q := 15) (tg := 18) hc dd_X9_load_12 rfl (by decide) (fun z => ?_) (fun z => ?_)
    · replace h := h.1 z
      refine hb_iload_n (q := 19) hc dd_X9_load_18 rfl rfl ?_
      refine hb_i2l (q := 20) hc dd_X9_load_19 rfl ?_
      refine hb_lconst (q := 21) (v := 0) hc dd_X9_load_20 rfl lc_0 ?_
      refine hb_aload_n (q := 22) hc dd_X9_load_21 rfl rfl ?_
      refine hb_getI (q := 25) (v := M2.1 42 1) hc fl_X9_86 sh42 sl42 rfl rfl dd_X9_load_22 rfl ?_
      refine hb_iconst (q := 26) (v := 1) hc dd_X9_load_25 rfl ic_1 ?_
      refine hb_isub (q := 27) hc dd_X9_load_26 rfl ?_
      refine hb_i2l (q := 28) hc dd_X9_load_27 rfl ?_
      refine hb_callSi (q := 31) (vs := [.long v3.toInt64, .long 0, .long (((M2.1 42 1) - 1).toInt64)]) (st := []) hc mv_X9_104 h rfl rfl (Nat.le_of_ble_eq_true rfl) ⟨Nat.le_refl _, Nat.le_refl _⟩ ⟨Nat.le_refl _, Nat.le_refl _⟩ dd_X9_load_28 rfl (fun r3 M3 h => ?_)
      refine hb_if_ne (q := 34) (tg := 37) hc dd_X9_load_31 rfl (by decide) (fun z => ?_) (fun z => ?_)
      · replace h := h.1 z
        refine hb_aload_n (q := 38) hc dd_X9_load_37 rfl rfl ?_
        refine hb_getR (q := 41) hc fl_X9_32 sh42 sl42 rfl dd_X9_load_38 rfl ?_
        refine hb_iload_n (q := 42) hc dd_X9_load_41 rfl rfl ?_
        obtain ⟨hi, h⟩ := h
        refine hb_iald (q := 43) (v := M3.1 50 v1.toNatClampNeg) hc sh50 sl50 hi rfl rfl dd_X9_load_42 rfl ?_
        refine hb_if_ge (q := 46) (tg := 49) hc dd_X9_load_43 rfl (by decide) (fun z => ?_) (fun z => ?_)
        · replace h := h.1 z
          refine hb_aload_n (q := 50) hc dd_X9_load_49 rfl rfl ?_
          refine hb_getR (q := 53) hc fl_X9_32 sh42 sl42 rfl dd_X9_load_50 rfl ?_
          refine hb_iload_n (q := 54) hc dd_X9_load_53 rfl rfl ?_
          obtain ⟨hi, h⟩ := h
          refine hb_iald (q := 55) (v := M3.1 50 v1.toNatClampNeg) hc sh50 sl50 hi rfl rfl dd_X9_load_54 rfl ?_
          refine hb_aload_n (q := 56) hc dd_X9_load_55 rfl rfl ?_
          refine hb_getI (q := 59) (v := M3.1 42 1) hc fl_X9_86 sh42 sl42 rfl rfl dd_X9_load_56 rfl ?_
          refine hb_iadd (q := 60) hc dd_X9_load_59 rfl ?_
          refine hb_bipush (q := 62) (v := 12) hc dd_X9_load_60 rfl bp_12 ?_
          refine hb_icmp_le (q := 65) (tg := 68) hc dd_X9_load_62 rfl (by decide) (fun z => ?_) (fun z => ?_)
          · replace h := h.1 z
            refine hb_iconst (q := 69) (v := 0) hc dd_X9_load_68 rfl ic_0 ?_
            refine hb_istore (q := 71) (lv' := [some (.ref 42), some (.int v1), some (.int v2), some (.int v3), some (.int 0)]) hc dd_X9_load_69 rfl (Nat.le_of_ble_eq_true rfl) rfl ?_
            exact hb_weak (lvs (lvs (lvs (lvs (lvs lvz))))) (h p l e s m args below meth c G hc)
          · replace h := h.2 z
            refine hb_bipush (q := 67) (v := (-13)) hc dd_X9_load_65 rfl bp_m13 ?_
            exact hb_iret hc rfl dd_X9_load_67 h
        · replace h := h.2 z
          refine hb_bipush (q := 48) (v := (-11)) hc dd_X9_load_46 rfl bp_m11 ?_
          exact hb_iret hc rfl dd_X9_load_48 h
      · replace h := h.2 z
        refine hb_bipush (q := 36) (v := (-3)) hc dd_X9_load_34 rfl bp_m3 ?_
        exact hb_iret hc rfl dd_X9_load_36 h
    · replace h := h.2 z
      refine hb_bipush (q := 17) (v := (-2)) hc dd_X9_load_15 rfl bp_m2 ?_
      exact hb_iret hc rfl dd_X9_load_17 h
theorem w_X9_drop {d : Nat} {M : Mm} {v1 : Int32} {K : Int32 → Mm → Prop}  (h : ACi d X9_isTape [.int v1] M (fun r1 M1 => (¬ r1 = 0 → (vp_in v1 3 ∧ (vp_in v1 3 ∧ ((0 ≤ (M1.1 50 v1.toNatClampNeg) → (K (M1.1 50 v1.toNatClampNeg) (wI M1 50 v1.toNatClampNeg (-1)))) ∧ (¬ 0 ≤ (M1.1 50 v1.toNatClampNeg) → (K (-11) (wI M1 50 v1.toNatClampNeg (-1)))))))) ∧ (r1 = 0 → (K (-2) M1)))) : ACi (d + 1) X9_drop [.ref 42, .int v1] M K := by
  refine AC.ofW (lv := [some (.ref 42), some (.int v1), none]) pn_X9 (Nat.le_of_ble_eq_true rfl) (show lvLe _ [some (.ref 42), some (.int v1)] from (lvs (lvs (lve lvz)))) ?_
  intro p l e s m args below meth c G hc
  refine hb_iload_n (q := 1) hc dd_X9_drop_0 rfl rfl ?_
  refine hb_callSi (q := 4) (vs := [.int v1]) (st := []) hc mv_X9_286 h rfl rfl (Nat.le_of_ble_eq_true rfl) ⟨Nat.le_refl _, Nat.le_refl _⟩ ⟨Nat.le_refl _, Nat.le_refl _⟩ dd_X9_drop_1 rfl (fun r1 M1 h => ?_)
  refine hb_if_ne (q := 7) (tg := 10) hc dd_X9_drop_4 rfl (by decide) (fun z => ?_) (fun z => ?_)
  · replace h := h.1 z
    refine hb_aload_n (q := 11) hc dd_X9_drop_10 rfl rfl ?_
    refine hb_getR (q := 14) hc fl_X9_32 sh42 sl42 rfl dd_X9_drop_11 rfl ?_
    refine hb_iload_n (q := 15) hc dd_X9_drop_14 rfl rfl ?_
    obtain ⟨hi, h⟩ := h
    refine hb_iald (q := 16) (v := M1.1 50 v1.toNatClampNeg) hc sh50 sl50 hi rfl rfl dd_X9_drop_15 rfl ?_
    refine hb_istore_n (q := 17) (lv' := [some (.ref 42), some (.int v1), some (.int (M1.1 50 v1.toNatClampNeg))]) hc dd_X9_drop_16 rfl (Nat.le_of_ble_eq_true rfl) rfl ?_
    refine hb_aload_n (q := 18) hc dd_X9_drop_17 rfl rfl ?_
    refine hb_getR (q := 21) hc fl_X9_32 sh42 sl42 rfl dd_X9_drop_18 rfl ?_
    refine hb_iload_n (q := 22) hc dd_X9_drop_21 rfl rfl ?_
    refine hb_iconst (q := 23) (v := (-1)) hc dd_X9_drop_22 rfl ic_m1 ?_
    obtain ⟨hi, h⟩ := h
    refine hb_iast (q := 24) hc sh50 sl50 hi rfl dd_X9_drop_23 rfl ?_
    refine hb_iload_n (q := 25) hc dd_X9_drop_24 rfl rfl ?_
    refine hb_if_ge (q := 28) (tg := 33) hc dd_X9_drop_25 rfl (by decide) (fun z => ?_) (fun z => ?_)
    · replace h := h.1 z
      refine hb_iload_n (q := 34) hc dd_X9_drop_33 rfl rfl ?_
      exact hb_iret hc rfl dd_X9_drop_34 h
    · replace h := h.2 z
      refine hb_bipush (q := 30) (v := (-11)) hc dd_X9_drop_28 rfl bp_m11 ?_
      refine hb_goto (tg := 34) hc dd_X9_drop_30 (by decide) ?_
      exact hb_iret hc rfl dd_X9_drop_34 h
  · replace h := h.2 z
    refine hb_bipush (q := 9) (v := (-2)) hc dd_X9_drop_7 rfl bp_m2 ?_
    exact hb_iret hc rfl dd_X9_drop_9 h
def lp_X9_clashes_4 (d : Nat) (M : Mm) (v1 : Int32) (v2 : Int32) (K : Int32 → Mm → Prop) : Prop := AW (d + 1) X9_clashes M 4 [some (.ref 42), some (.int v1), some (.int v2), none] [] (QI K)
def lp_X9_clashes_14 (d : Nat) (M : Mm) (v1 : Int32) (v2 : Int32) (v3 : Int32) (K : Int32 → Mm → Prop) : Prop := AW (d + 1) X9_clashes M 14 [some (.ref 42), some (.int v1), some (.int v2), some (.int v3)] [] (QI K)
theorem z_X9_clashes_4 {d : Nat} {M : Mm} {v1 : Int32} {v2 : Int32} {K : Int32 → Mm → Prop}  (h : ((M.1 42 5) ≤ v2 → (K v1 M)) ∧ (¬ (M.1 42 5) ≤ v2 → (lp_X9_clashes_14 d M v1 v2 0 K))) : lp_X9_clashes_4 d M v1 v2 K := by
  intro p l e s m args below meth c G hc
  refine hb_iload_n (q := 5) hc dd_X9_clashes_4 rfl rfl ?_
  refine hb_aload_n (q := 6) hc dd_X9_clashes_5 rfl rfl ?_
  refine hb_getI (q := 9) (v := M.1 42 5) hc fl_X9_99 sh42 sl42 rfl rfl dd_X9_clashes_6 rfl ?_
  refine hb_icmp_ge (q := 12) (tg := 48) hc dd_X9_clashes_9 rfl (by decide) (fun z => ?_) (fun z => ?_)
  · replace h := h.1 z
    refine hb_iload_n (q := 49) hc dd_X9_clashes_48 rfl rfl ?_
    exact hb_iret hc rfl dd_X9_clashes_49 h
  · replace h := h.2 z
    refine hb_iconst (q := 13) (v := 0) hc dd_X9_clashes_12 rfl ic_0 ?_
    refine hb_istore_n (q := 14) (lv' := [some (.ref 42), some (.int v1), some (.int v2), some (.int 0)]) hc dd_X9_clashes_13 rfl (Nat.le_of_ble_eq_true rfl) rfl ?_
    exact hb_weak (lvs (lvs (lvs (lvs lvz)))) (h p l e s m args below meth c G hc)
theorem z_X9_clashes_14 {d : Nat} {M : Mm} {v1 : Int32} {v2 : Int32} {v3 : Int32} {K : Int32 → Mm → Prop}  (h : (v2 ≤ v3 → (lp_X9_clashes_4 d M v1 (v2 + 1) K)) ∧ (¬ v2 ≤ v3 → (ACi d X9_doClash [.ref 42, .int v2, .int v3] M (fun r1 M1 => (r1 = 0 → (lp_X9_clashes_14 d M1 (v1 + 0) v2 (v3 + 1) K)) ∧ (¬ r1 = 0 → (lp_X9_clashes_14 d M1 (v1 + 1) v2 (v3 + 1) K)))))) : lp_X9_clashes_14 d M v1 v2 v3 K := by
  intro p l e s m args below meth c G hc
  refine hb_iload_n (q := 15) hc dd_X9_clashes_14 rfl rfl ?_
  refine hb_iload_n (q := 16) hc dd_X9_clashes_15 rfl rfl ?_
  refine hb_icmp_ge (q := 19) (tg := 42) hc dd_X9_clashes_16 rfl (by decide) (fun z => ?_) (fun z => ?_)
  · replace h := h.1 z
    refine hb_iinc (q := 45) (v := v2 + 1) (lv' := [some (.ref 42), some (.int v1), some (.int (v2 + 1)), some (.int v3)]) hc dd_X9_clashes_42 rfl rfl rfl (Nat.le_of_ble_eq_true rfl) rfl ?_
    refine hb_goto (tg := 4) hc dd_X9_clashes_45 (by decide) ?_
    exact hb_weak (lvs (lvs (lvs (lvn lvz)))) (h p l e s m args below meth c G hc)
  · replace h := h.2 z
    refine hb_iload_n (q := 20) hc dd_X9_clashes_19 rfl rfl ?_
    refine hb_aload_n (q := 21) hc dd_X9_clashes_20 rfl rfl ?_
    refine hb_iload_n (q := 22) hc dd_X9_clashes_21 rfl rfl ?_
    refine hb_iload_n (q := 23) hc dd_X9_clashes_22 rfl rfl ?_
    refine hb_callVi (q := 26) (vs := [.int v2, .int v3]) (st := [.int v1]) hc mv_X9_221 h sh42 sl42 rfl rfl rfl (Nat.le_of_ble_eq_true rfl) ⟨Nat.le_refl _, Nat.le_refl _⟩ ⟨Nat.le_refl _, Nat.le_refl _⟩ dd_X9_clashes_23 rfl (fun r1 M1 h => ?_)
    refine hb_if_eq (q := 29) (tg := 33) hc dd_X9_clashes_26 rfl (by decide) (fun z => ?_) (fun z => ?_)
    · replace h := h.1 z
      refine hb_iconst (q := 34) (v := 0) hc dd_X9_clashes_33 rfl ic_0 ?_
      refine hb_iadd (q := 35) hc dd_X9_clashes_34 rfl ?_
      refine hb_istore_n (q := 36) (lv' := [some (.ref 42), some (.int (v1 + 0)), some (.int v2), some (.int v3)]) hc dd_X9_clashes_35 rfl (Nat.le_of_ble_eq_true rfl) rfl ?_
      refine hb_iinc (q := 39) (v := v3 + 1) (lv' := [some (.ref 42), some (.int (v1 + 0)), some (.int v2), some (.int (v3 + 1))]) hc dd_X9_clashes_36 rfl rfl rfl (Nat.le_of_ble_eq_true rfl) rfl ?_
      refine hb_goto (tg := 14) hc dd_X9_clashes_39 (by decide) ?_
      exact hb_weak (lvs (lvs (lvs (lvs lvz)))) (h p l e s m args below meth c G hc)
    · replace h := h.2 z
      refine hb_iconst (q := 30) (v := 1) hc dd_X9_clashes_29 rfl ic_1 ?_
      refine hb_goto (tg := 34) hc dd_X9_clashes_30 (by decide) ?_
      refine hb_iadd (q := 35) hc dd_X9_clashes_34 rfl ?_
      refine hb_istore_n (q := 36) (lv' := [some (.ref 42), some (.int (v1 + 1)), some (.int v2), some (.int v3)]) hc dd_X9_clashes_35 rfl (Nat.le_of_ble_eq_true rfl) rfl ?_
      refine hb_iinc (q := 39) (v := v3 + 1) (lv' := [some (.ref 42), some (.int (v1 + 1)), some (.int v2), some (.int (v3 + 1))]) hc dd_X9_clashes_36 rfl rfl rfl (Nat.le_of_ble_eq_true rfl) rfl ?_
      refine hb_goto (tg := 14) hc dd_X9_clashes_39 (by decide) ?_
      exact hb_weak (lvs (lvs (lvs (lvs lvz)))) (h p l e s m args below meth c G hc)
theorem w_X9_clashes {d : Nat} {M : Mm}  {K : Int32 → Mm → Prop}  (h : lp_X9_clashes_4 d M 0 0 K) : ACi (d + 1) X9_clashes [.ref 42] M K := by
  refine AC.ofW (lv := [some (.ref 42), none, none, none]) pn_X9 (Nat.le_of_ble_eq_true rfl) (show lvLe _ [some (.ref 42)] from (lvs (lve (lve (lve lvz))))) ?_
  intro p l e s m args below meth c G hc
  refine hb_iconst (q := 1) (v := 0) hc dd_X9_clashes_0 rfl ic_0 ?_
  refine hb_istore_n (q := 2) (lv' := [some (.ref 42), some (.int 0), none, none]) hc dd_X9_clashes_1 rfl (Nat.le_of_ble_eq_true rfl) rfl ?_
  refine hb_iconst (q := 3) (v := 0) hc dd_X9_clashes_2 rfl ic_0 ?_
  refine hb_istore_n (q := 4) (lv' := [some (.ref 42), some (.int 0), some (.int 0), none]) hc dd_X9_clashes_3 rfl (Nat.le_of_ble_eq_true rfl) rfl ?_
  exact hb_weak (lvs (lvs (lvs (lvn lvz)))) (h p l e s m args below meth c G hc)
def lp_X9_allNumbers_4 (d : Nat) (M : Mm) (v1 : Int32) (v2 : Int32) (K : Int32 → Mm → Prop) : Prop := AW (d + 1) X9_allNumbers M 4 [some (.ref 42), some (.int v1), some (.int v2)] [] (QI K)
theorem z_X9_allNumbers_4 {d : Nat} {M : Mm} {v1 : Int32} {v2 : Int32} {K : Int32 → Mm → Prop}  (h : (3 ≤ v2 → (K v1 M)) ∧ (¬ 3 ≤ v2 → (vp_in v2 3 ∧ ((0 ≤ (M.1 50 v2.toNatClampNeg) → (vp_in v2 3 ∧ (lp_X9_allNumbers_4 d M (v1 + (M.1 50 v2.toNatClampNeg)) (v2 + 1) K))) ∧ (¬ 0 ≤ (M.1 50 v2.toNatClampNeg) → (lp_X9_allNumbers_4 d M (v1 + 0) (v2 + 1) K)))))) : lp_X9_allNumbers_4 d M v1 v2 K := by
  intro p l e s m args below meth c G hc
  refine hb_iload_n (q := 5) hc dd_X9_allNumbers_4 rfl rfl ?_
  refine hb_iconst (q := 6) (v := 3) hc dd_X9_allNumbers_5 rfl ic_3 ?_
  refine hb_icmp_ge (q := 9) (tg := 37) hc dd_X9_allNumbers_6 rfl (by decide) (fun z => ?_) (fun z => ?_)
  · replace h := h.1 z
    refine hb_iload_n (q := 38) hc dd_X9_allNumbers_37 rfl rfl ?_
    exact hb_iret hc rfl dd_X9_allNumbers_38 h
  · replace h := h.2 z
    refine hb_iload_n (q := 10) hc dd_X9_allNumbers_9 rfl rfl ?_
    refine hb_aload_n (q := 11) hc dd_X9_allNumbers_10 rfl rfl ?_
    refine hb_getR (q := 14) hc fl_X9_32 sh42 sl42 rfl dd_X9_allNumbers_11 rfl ?_
    refine hb_iload_n (q := 15) hc dd_X9_allNumbers_14 rfl rfl ?_
    obtain ⟨hi, h⟩ := h
    refine hb_iald (q := 16) (v := M.1 50 v2.toNatClampNeg) hc sh50 sl50 hi rfl rfl dd_X9_allNumbers_15 rfl ?_
    refine hb_if_ge (q := 19) (tg := 23) hc dd_X9_allNumbers_16 rfl (by decide) (fun z => ?_) (fun z => ?_)
    · replace h := h.1 z
      refine hb_aload_n (q := 24) hc dd_X9_allNumbers_23 rfl rfl ?_
      refine hb_getR (q := 27) hc fl_X9_32 sh42 sl42 rfl dd_X9_allNumbers_24 rfl ?_
      refine hb_iload_n (q := 28) hc dd_X9_allNumbers_27 rfl rfl ?_
      obtain ⟨hi, h⟩ := h
      refine hb_iald (q := 29) (v := M.1 50 v2.toNatClampNeg) hc sh50 sl50 hi rfl rfl dd_X9_allNumbers_28 rfl ?_
      refine hb_iadd (q := 30) hc dd_X9_allNumbers_29 rfl ?_
      refine hb_istore_n (q := 31) (lv' := [some (.ref 42), some (.int (v1 + (M.1 50 v2.toNatClampNeg))), some (.int v2)]) hc dd_X9_allNumbers_30 rfl (Nat.le_of_ble_eq_true rfl) rfl ?_
      refine hb_iinc (q := 34) (v := v2 + 1) (lv' := [some (.ref 42), some (.int (v1 + (M.1 50 v2.toNatClampNeg))), some (.int (v2 + 1))]) hc dd_X9_allNumbers_31 rfl rfl rfl (Nat.le_of_ble_eq_true rfl) rfl ?_
      refine hb_goto (tg := 4) hc dd_X9_allNumbers_34 (by decide) ?_
      exact hb_weak (lvs (lvs (lvs lvz))) (h p l e s m args below meth c G hc)
    · replace h := h.2 z
      refine hb_iconst (q := 20) (v := 0) hc dd_X9_allNumbers_19 rfl ic_0 ?_
      refine hb_goto (tg := 29) hc dd_X9_allNumbers_20 (by decide) ?_
      refine hb_iadd (q := 30) hc dd_X9_allNumbers_29 rfl ?_
      refine hb_istore_n (q := 31) (lv' := [some (.ref 42), some (.int (v1 + 0)), some (.int v2)]) hc dd_X9_allNumbers_30 rfl (Nat.le_of_ble_eq_true rfl) rfl ?_
      refine hb_iinc (q := 34) (v := v2 + 1) (lv' := [some (.ref 42), some (.int (v1 + 0)), some (.int (v2 + 1))]) hc dd_X9_allNumbers_31 rfl rfl rfl (Nat.le_of_ble_eq_true rfl) rfl ?_
      refine hb_goto (tg := 4) hc dd_X9_allNumbers_34 (by decide) ?_
      exact hb_weak (lvs (lvs (lvs lvz))) (h p l e s m args below meth c G hc)
theorem w_X9_allNumbers {d : Nat} {M : Mm}  {K : Int32 → Mm → Prop}  (h : lp_X9_allNumbers_4 d M 0 0 K) : ACi (d + 1) X9_allNumbers [.ref 42] M K := by
  refine AC.ofW (lv := [some (.ref 42), none, none]) pn_X9 (Nat.le_of_ble_eq_true rfl) (show lvLe _ [some (.ref 42)] from (lvs (lve (lve lvz)))) ?_
  intro p l e s m args below meth c G hc
  refine hb_iconst (q := 1) (v := 0) hc dd_X9_allNumbers_0 rfl ic_0 ?_
  refine hb_istore_n (q := 2) (lv' := [some (.ref 42), some (.int 0), none]) hc dd_X9_allNumbers_1 rfl (Nat.le_of_ble_eq_true rfl) rfl ?_
  refine hb_iconst (q := 3) (v := 0) hc dd_X9_allNumbers_2 rfl ic_0 ?_
  refine hb_istore_n (q := 4) (lv' := [some (.ref 42), some (.int 0), some (.int 0)]) hc dd_X9_allNumbers_3 rfl (Nat.le_of_ble_eq_true rfl) rfl ?_
  exact hb_weak (lvs (lvs (lvs lvz))) (h p l e s m args below meth c G hc)
theorem w_X9_count {d : Nat} {M : Mm} {v1 : Int32} {K : Int32 → Mm → Prop}  (h : (v1 = 0 → (K (M.1 42 1) M)) ∧ (v1 = 1 → (K (M.1 42 2) M)) ∧ (v1 = 2 → (K (M.1 42 3) M)) ∧ (v1 = 3 → (K (M.1 42 4) M)) ∧ (v1 = 4 → (K (M.1 42 5) M)) ∧ (v1 = 5 → (ACi d X9_litOnes [.ref 42] M (fun r1 M1 => K r1 M1))) ∧ (v1 = 6 → (ACi d X9_clashes [.ref 42] M (fun r2 M2 => K r2 M2))) ∧ (v1 = 7 → (ACi d X9_pairsLeft [.ref 42] M (fun r3 M3 => K r3 M3))) ∧ (v1 = 8 → (ACi d X9_allNumbers [.ref 42] M (fun r4 M4 => K r4 M4))) ∧ (v1 = 9 → (K (M.1 42 7) M)) ∧ (v1 = 10 → (K (M.1 42 10) M)) ∧ (v1 < 0 ∨ nI 10 < v1 → (K (-3) M))) : ACi (d + 1) X9_count [.ref 42, .int v1] M K := by
  refine AC.ofW (lv := [some (.ref 42), some (.int v1)]) pn_X9 (Nat.le_of_ble_eq_true rfl) (show lvLe _ [some (.ref 42), some (.int v1)] from (lvs (lvs lvz))) ?_
  intro p l e s m args below meth c G hc
  refine hb_iload_n (q := 1) hc dd_X9_count_0 rfl rfl ?_
  by_cases zo : v1 < 0 ∨ nI 10 < v1
  · replace h := h.2.2.2.2.2.2.2.2.2.2.2 zo
    refine hb_tableOut (tg := 115) hc dd_X9_count_1 (sw_out (k := 10) (by decide) zo) (by decide) ?_
    refine hb_bipush (q := 117) (v := (-3)) hc dd_X9_count_115 rfl bp_m3 ?_
    exact hb_iret hc rfl dd_X9_count_117 h
  · have zi := sw_in10 zo
    rcases zi with z | z | z | z | z | z | z | z | z | z | z
    · replace h := h.1 z
      refine hb_tableIn (off := 59) (tg := 60) hc dd_X9_count_1 (by rw [z]; decide) (by rw [z]; decide) (by rw [z]; rfl) (by decide) ?_
      refine hb_aload_n (q := 61) hc dd_X9_count_60 rfl rfl ?_
      refine hb_getI (q := 64) (v := M.1 42 1) hc fl_X9_86 sh42 sl42 rfl rfl dd_X9_count_61 rfl ?_
      exact hb_iret hc rfl dd_X9_count_64 h
    · replace h := h.2.1 z
      refine hb_tableIn (off := 64) (tg := 65) hc dd_X9_count_1 (by rw [z]; decide) (by rw [z]; decide) (by rw [z]; rfl) (by decide) ?_
      refine hb_aload_n (q := 66) hc dd_X9_count_65 rfl rfl ?_
      refine hb_getI (q := 69) (v := M.1 42 2) hc fl_X9_90 sh42 sl42 rfl rfl dd_X9_count_66 rfl ?_
      exact hb_iret hc rfl dd_X9_count_69 h
    · replace h := h.2.2.1 z
      refine hb_tableIn (off := 69) (tg := 70) hc dd_X9_count_1 (by rw [z]; decide) (by rw [z]; decide) (by rw [z]; rfl) (by decide) ?_
      refine hb_aload_n (q := 71) hc dd_X9_count_70 rfl rfl ?_
      refine hb_getI (q := 74) (v := M.1 42 3) hc fl_X9_93 sh42 sl42 rfl rfl dd_X9_count_71 rfl ?_
      exact hb_iret hc rfl dd_X9_count_74 h
    · replace h := h.2.2.2.1 z
      refine hb_tableIn (off := 74) (tg := 75) hc dd_X9_count_1 (by rw [z]; decide) (by rw [z]; decide) (by rw [z]; rfl) (by decide) ?_
      refine hb_aload_n (q := 76) hc dd_X9_count_75 rfl rfl ?_
      refine hb_getI (q := 79) (v := M.1 42 4) hc fl_X9_96 sh42 sl42 rfl rfl dd_X9_count_76 rfl ?_
      exact hb_iret hc rfl dd_X9_count_79 h
    · replace h := h.2.2.2.2.1 z
      refine hb_tableIn (off := 79) (tg := 80) hc dd_X9_count_1 (by rw [z]; decide) (by rw [z]; decide) (by rw [z]; rfl) (by decide) ?_
      refine hb_aload_n (q := 81) hc dd_X9_count_80 rfl rfl ?_
      refine hb_getI (q := 84) (v := M.1 42 5) hc fl_X9_99 sh42 sl42 rfl rfl dd_X9_count_81 rfl ?_
      exact hb_iret hc rfl dd_X9_count_84 h
    · replace h := h.2.2.2.2.2.1 z
      refine hb_tableIn (off := 84) (tg := 85) hc dd_X9_count_1 (by rw [z]; decide) (by rw [z]; decide) (by rw [z]; rfl) (by decide) ?_
      refine hb_aload_n (q := 86) hc dd_X9_count_85 rfl rfl ?_
      refine hb_callVi (q := 89) (vs := []) (st := []) hc mv_X9_236 h sh42 sl42 rfl rfl rfl (Nat.le_of_ble_eq_true rfl) ⟨Nat.le_refl _, Nat.le_refl _⟩ ⟨Nat.le_refl _, Nat.le_refl _⟩ dd_X9_count_86 rfl (fun r1 M1 h => ?_)
      exact hb_iret hc rfl dd_X9_count_89 h
    · replace h := h.2.2.2.2.2.2.1 z
      refine hb_tableIn (off := 89) (tg := 90) hc dd_X9_count_1 (by rw [z]; decide) (by rw [z]; decide) (by rw [z]; rfl) (by decide) ?_
      refine hb_aload_n (q := 91) hc dd_X9_count_90 rfl rfl ?_
      refine hb_callVi (q := 94) (vs := []) (st := []) hc mv_X9_302 h sh42 sl42 rfl rfl rfl (Nat.le_of_ble_eq_true rfl) ⟨Nat.le_refl _, Nat.le_refl _⟩ ⟨Nat.le_refl _, Nat.le_refl _⟩ dd_X9_count_91 rfl (fun r2 M2 h => ?_)
      exact hb_iret hc rfl dd_X9_count_94 h
    · replace h := h.2.2.2.2.2.2.2.1 z
      refine hb_tableIn (off := 94) (tg := 95) hc dd_X9_count_1 (by rw [z]; decide) (by rw [z]; decide) (by rw [z]; rfl) (by decide) ?_
      refine hb_aload_n (q := 96) hc dd_X9_count_95 rfl rfl ?_
      refine hb_callVi (q := 99) (vs := []) (st := []) hc mv_X9_274 h sh42 sl42 rfl rfl rfl (Nat.le_of_ble_eq_true rfl) ⟨Nat.le_refl _, Nat.le_refl _⟩ ⟨Nat.le_refl _, Nat.le_refl _⟩ dd_X9_count_96 rfl (fun r3 M3 h => ?_)
      exact hb_iret hc rfl dd_X9_count_99 h
    · replace h := h.2.2.2.2.2.2.2.2.1 z
      refine hb_tableIn (off := 99) (tg := 100) hc dd_X9_count_1 (by rw [z]; decide) (by rw [z]; decide) (by rw [z]; rfl) (by decide) ?_
      refine hb_aload_n (q := 101) hc dd_X9_count_100 rfl rfl ?_
      refine hb_callVi (q := 104) (vs := []) (st := []) hc mv_X9_305 h sh42 sl42 rfl rfl rfl (Nat.le_of_ble_eq_true rfl) ⟨Nat.le_refl _, Nat.le_refl _⟩ ⟨Nat.le_refl _, Nat.le_refl _⟩ dd_X9_count_101 rfl (fun r4 M4 h => ?_)
      exact hb_iret hc rfl dd_X9_count_104 h
    · replace h := h.2.2.2.2.2.2.2.2.2.1 z
      refine hb_tableIn (off := 104) (tg := 105) hc dd_X9_count_1 (by rw [z]; decide) (by rw [z]; decide) (by rw [z]; rfl) (by decide) ?_
      refine hb_aload_n (q := 106) hc dd_X9_count_105 rfl rfl ?_
      refine hb_getI (q := 109) (v := M.1 42 7) hc fl_X9_180 sh42 sl42 rfl rfl dd_X9_count_106 rfl ?_
      exact hb_iret hc rfl dd_X9_count_109 h
    · replace h := h.2.2.2.2.2.2.2.2.2.2.1 z
      refine hb_tableIn (off := 109) (tg := 110) hc dd_X9_count_1 (by rw [z]; decide) (by rw [z]; decide) (by rw [z]; rfl) (by decide) ?_
      refine hb_aload_n (q := 111) hc dd_X9_count_110 rfl rfl ?_
      refine hb_getI (q := 114) (v := M.1 42 10) hc fl_X9_108 sh42 sl42 rfl rfl dd_X9_count_111 rfl ?_
      exact hb_iret hc rfl dd_X9_count_114 h
