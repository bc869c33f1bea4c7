set_option maxHeartbeats 4000000 in
set_option maxRecDepth 100000 in
theorem kL_acts (l : Launch) (G : Gl) (P : Nat → Nat) (V : Vt) (z : Int) (s : Int → Int) (hC : LC P V s) (hN : LN V s) (hH : HBr s) (sl : s 1 < 1000000) (hG0 : fv G = false) (sz : Nat) : Met l yL_acts wsL_acts ({ frames := 6, cells := 1, slots := 48, locals := 200 }) (va_Pc [.ref (ad G 10 0), .ref (ad G 16 0), .ref (ad G 17 0), .ref (ad G 18 0), .ref (ad G 19 0), .ref (ad G 20 0), .ref (ad G 21 0), .ref (ad G 22 0), .int (iI z)] (Sz G P V sz)) (Qk G mkI (fun r P' V' => r = 1 ∧ ∃ s' : Int → Int, LC P' V' s' ∧ LN V' s' ∧ HBr s' ∧ s' 1 ≤ s 1 + 1)) 1 48 (mqz G sz) := by
  refine z_metA (cc := cL_acts) (nL := 14) (ret := (some .boolean)) (own := RL) (by decide +kernel) rfl rfl (Nat.le_of_ble_eq_true rfl) (L := [some (.ref (ad G 10 0)), some (.ref (ad G 16 0)), some (.ref (ad G 17 0)), some (.ref (ad G 18 0)), some (.ref (ad G 19 0)), some (.ref (ad G 20 0)), some (.ref (ad G 21 0)), some (.ref (ad G 22 0)), some (.int (iI z)), none, none, none, none, none]) rfl ?_
  intro X E Er0 hEa
  have f0 : Cond.constant RL 92 (10000000) ∈ wsL_acts := by decide +kernel
  have f1 : Cond.constant RL 91 (-1000002) ∈ wsL_acts := by decide +kernel
  have hB := hC.B
  have hM := hC.M
  have hz := hM.z
  have g0 := hN.g0
  have ms1 := hM.s1
  refine z_iload E dL_acts_0 rfl ?_
  refine z_iconst E dL_acts_2 ?_
  refine z_ishrN E dL_acts_3 (fun y_1 hy_1 => ?_)
  refine z_ldc E 10000000 f0 rfl dL_acts_4 ?_
  refine z_callS E (n := 2) (st := []) [.int (iI y_1), .int (iI 10000000)] (kL_low l G P V y_1 10000000 (by omega) (by omega)) gL_acts_L_low rfl ⟨rfl, rfl⟩ (by decide +kernel) ⟨Nat.le_of_ble_eq_true rfl, Nat.le_of_ble_eq_true rfl⟩ rfl rfl (Nat.le_of_ble_eq_true rfl) rfl dL_acts_6 (z_exI (fun r_2 P_2 V_2 h_2 => ?_))
  obtain ⟨hP_2, hV_2, hl_2, hh_2⟩ := h_2
  rw [hP_2, hV_2]
  obtain ⟨y, hx_y⟩ : ∃ z : Int, z = r_2 := ⟨_, rfl⟩
  rw [← hx_y]
  have hy0 : 0 ≤ y ∧ y < 10000000 := by omega
  refine z_istore E dL_acts_9 (L' := [some (.ref (ad G 10 0)), some (.ref (ad G 16 0)), some (.ref (ad G 17 0)), some (.ref (ad G 18 0)), some (.ref (ad G 19 0)), some (.ref (ad G 20 0)), some (.ref (ad G 21 0)), some (.ref (ad G 22 0)), some (.int (iI z)), some (.int (iI y)), none, none, none, none]) (Nat.le_of_ble_eq_true rfl) rfl ?_
  refine z_iload E dL_acts_11 rfl ?_
  refine z_bipush E dL_acts_13 rfl ?_
  refine z_callS E (n := 2) (st := []) [.int (iI z), .int (iI 32)] (kL_low l G P V z 32 (by omega) (by omega)) gL_acts_L_low rfl ⟨rfl, rfl⟩ (by decide +kernel) ⟨Nat.le_of_ble_eq_true rfl, Nat.le_of_ble_eq_true rfl⟩ rfl rfl (Nat.le_of_ble_eq_true rfl) rfl dL_acts_15 (z_exI (fun r_3 P_3 V_3 h_3 => ?_))
  obtain ⟨hP_3, hV_3, hl_3, hh_3⟩ := h_3
  rw [hP_3, hV_3]
  obtain ⟨way, hx_way⟩ : ∃ z : Int, z = r_3 := ⟨_, rfl⟩
  rw [← hx_way]
  have hy1 : 0 ≤ way ∧ way < 32 := by omega
  refine z_istore E dL_acts_18 (L' := [some (.ref (ad G 10 0)), some (.ref (ad G 16 0)), some (.ref (ad G 17 0)), some (.ref (ad G 18 0)), some (.ref (ad G 19 0)), some (.ref (ad G 20 0)), some (.ref (ad G 21 0)), some (.ref (ad G 22 0)), some (.int (iI z)), some (.int (iI y)), some (.int (iI way)), none, none, none]) (Nat.le_of_ble_eq_true rfl) rfl ?_
  refine z_iload E dL_acts_20 rfl ?_
  refine z_bipush E dL_acts_22 rfl ?_
  refine z_icmp_ge E 79 dL_acts_24 rfl (by omega) (by omega) (fun c_4 => ?_) (fun c_4 => ?_)
  · skip
    refine z_iload E dL_acts_79 rfl ?_
    refine z_bipush E dL_acts_81 rfl ?_
    refine z_icmp_ge E 121 dL_acts_83 rfl (by omega) (by omega) (fun c_5 => ?_) (fun c_5 => ?_)
    · skip
      refine z_iload E dL_acts_121 rfl ?_
      refine z_bipush E dL_acts_123 rfl ?_
      refine z_icmp_ge E 205 dL_acts_125 rfl (by omega) (by omega) (fun c_6 => ?_) (fun c_6 => ?_)
      · skip
        refine z_iload E dL_acts_205 rfl ?_
        refine z_bipush E dL_acts_207 rfl ?_
        refine z_icmp_ne E 239 dL_acts_209 rfl (by omega) (by omega) (fun c_7 => ?_) (fun c_7 => ?_)
        · skip
          refine z_aload_n E dL_acts_239 1 rfl rfl ?_
          refine z_iconst E dL_acts_240 ?_
          refine z_iald E (rfl : vl G 16 0 = true) 6 rfl (by omega) (by omega) (by omega) dL_acts_241 ?_
          refine z_istore E dL_acts_242 (L' := [some (.ref (ad G 10 0)), some (.ref (ad G 16 0)), some (.ref (ad G 17 0)), some (.ref (ad G 18 0)), some (.ref (ad G 19 0)), some (.ref (ad G 20 0)), some (.ref (ad G 21 0)), some (.ref (ad G 22 0)), some (.int (iI z)), some (.int (iI y)), some (.int (iI way)), some (.int (iI (V 16 0 5))), none, none]) (Nat.le_of_ble_eq_true rfl) rfl ?_
          refine z_aload_n E dL_acts_244 1 rfl rfl ?_
          refine z_iconst E dL_acts_245 ?_
          refine z_iload E dL_acts_246 rfl ?_
          refine z_iconst E dL_acts_248 ?_
          refine z_irem E dL_acts_249 (by omega) (by omega) (by decide) (by decide) ?_
          refine z_iast E (rfl : vl G 16 0 = true) 6 (fun _ => rfl) (by omega) (by omega) (by omega) dL_acts_250 ?_
          obtain ⟨V8, hV8⟩ : ∃ Z : Vt, Z = up V 16 0 (updI (V 16 0) 5 (y % 2)) := ⟨_, rfl⟩
          rw [← hV8]
          have hB8 : BV V8 := hV8 ▸ BV_up hB (fun hz => absurd (by simp [ctr]) hz)
          have hC1 : LC P V8 s := hC.law hB8 (fun r w hr => by rw [hV8, up_r (by omega)])
          have hNq : LN V8 (updI s 5 (y % 2)) := LN_5 hN (V' := V8) (by rw [hV8, up_s]) (fun r a b => by rw [hV8, up_r (by omega)])
          have hHq : HBr (updI s 5 (y % 2)) := HBr_5 hH
          have hsq : updI s 5 (y % 2) 1 ≤ s 1 + 1 := by rw [updI_n (by omega)]; omega
          refine z_aload_n E dL_acts_251 0 rfl rfl ?_
          refine z_iconst E dL_acts_252 ?_
          refine z_iload E dL_acts_253 rfl ?_
          refine z_iconst E dL_acts_255 ?_
          refine z_irem E dL_acts_256 (by omega) (by omega) (by decide) (by decide) ?_
          refine z_callV E (ci := 5) (N := 4) (C := RX5) (T := TX5) (n := 2) (st := []) (rfl : vl G 10 0 = true) rfl rfl [.int (iI 0), .int (iI (y % 2))] (kX5_set l G P V8 0 (y % 2) hC1.w0 hB8 hC1.n0 hC1.n1 hC1.L hC1.U hC1.h5 hC1.cm hC1.w1 hC1.uw hC1.o hC1.z (by omega) (by omega)) gL_acts_X5_set rfl ⟨rfl, rfl⟩ (by decide +kernel) ⟨Nat.le_of_ble_eq_true rfl, Nat.le_of_ble_eq_true rfl⟩ rfl rfl (Nat.le_of_ble_eq_true rfl) rfl dL_acts_257 (z_exI (fun r_9 P_9 V_9 h_9 => ?_))
          obtain ⟨sa, qa, hCa, hfa⟩ := o_set hC1 sl h_9
          have hB_9 := hCa.B
          obtain ⟨ea, ea2⟩ := t_se (by omega) qa
          rw [ea2] at hCa
          refine z_iload E dL_acts_260 rfl ?_
          refine z_icne_e E (ea.trans (hN.g 5 (by omega) (by omega)).symm) dL_acts_262 269 rfl ?_
          refine z_iconst E dL_acts_265 ?_
          refine z_goto E 270 dL_acts_266 rfl ?_
          exact z_zret E Er0 dL_acts_270 (by first | decide | omega) (⟨rfl, _, hCa, hNq.cg (fun r a b => hfa r 0 (by omega)), hHq, hsq⟩) (hw := ⟨Nat.zero_le _, Nat.zero_le _⟩)
        · skip
          refine z_aload_n E dL_acts_212 1 rfl rfl ?_
          refine z_aload E dL_acts_213 rfl ?_
          refine z_aload E dL_acts_215 rfl ?_
          refine z_aload E dL_acts_217 rfl ?_
          refine z_callS E (n := 4) (st := []) [.ref (ad G 16 0), .ref (ad G 20 0), .ref (ad G 21 0), .ref (ad G 22 0)] (kL_share l G P V  hB (by omega) hN.vr hN.va hN.vb (fun k p a b c d => hN.th hM a (by omega) c d)) gL_acts_L_share rfl ⟨rfl, rfl⟩ (by decide +kernel) ⟨Nat.le_of_ble_eq_true rfl, Nat.le_of_ble_eq_true rfl⟩ rfl rfl (Nat.le_of_ble_eq_true rfl) rfl dL_acts_219 (z_exI (fun r_11 P_11 V_11 h_11 => ?_))
          obtain ⟨hP_11, hB_11, h_11⟩ := h_11
          rw [hP_11]
          obtain ⟨Vm, m1, m2, m3, mr, mv⟩ := h_11
          have hNm : LN Vm (shX s) := hN.shx hM (fun r a b c => m1 r 0 (by omega)) m2 m3
          have u0 : shX s 0 = s 0 := shX_o hM (by omega)
          have hNq : LN V_11 (swS (shX s) 40) := hNm.sweep (by omega) (V' := V_11) (fun r a b => by rw [mv, up_r (by omega)]) (by rw [mv, up_s])
          have hC1 : LC P V_11 s := hC.law hB_11 (fun r w hr => by rw [mv, up_r (by omega)]; exact m1 r w (by omega))
          have hHq := HBr_sh hM hH
          have erq := mr.trans hNm.swept
          have hsq : swS (shX s) 40 1 ≤ s 1 + 1 := by rw [sw_lo (by omega)]; have e2 : shX s 1 = s 1 := shX_o hM (by omega); omega
          refine z_istore E dL_acts_222 (L' := [some (.ref (ad G 10 0)), some (.ref (ad G 16 0)), some (.ref (ad G 17 0)), some (.ref (ad G 18 0)), some (.ref (ad G 19 0)), some (.ref (ad G 20 0)), some (.ref (ad G 21 0)), some (.ref (ad G 22 0)), some (.int (iI z)), some (.int (iI y)), some (.int (iI way)), some (.int (iI r_11)), none, none]) (Nat.le_of_ble_eq_true rfl) rfl ?_
          refine z_aload_n E dL_acts_224 0 rfl rfl ?_
          refine z_callV E (ci := 5) (N := 4) (C := RX5) (T := TX5) (n := 0) (st := []) (rfl : vl G 10 0 = true) rfl rfl [] (kX5_share l G P V_11  hC1.w0 hB_11 hC1.n0 hC1.n1 hC1.L hC1.U hC1.h5 hC1.cm hC1.w1 hC1.uw hC1.o hC1.z) gL_acts_X5_share rfl ⟨rfl, rfl⟩ (by decide +kernel) ⟨Nat.le_of_ble_eq_true rfl, Nat.le_of_ble_eq_true rfl⟩ rfl rfl (Nat.le_of_ble_eq_true rfl) rfl dL_acts_225 (z_exI (fun r_12 P_12 V_12 h_12 => ?_))
          obtain ⟨sa, qa, hCa, hfa⟩ := o_share hC1 sl h_12
          have hB_12 := hCa.B
          obtain ⟨ea, ea2⟩ := id qa
          rw [ea2] at hCa
          refine z_iload E dL_acts_228 rfl ?_
          refine z_icne_e E (ea.trans erq.symm) dL_acts_230 237 rfl ?_
          refine z_iconst E dL_acts_233 ?_
          refine z_goto E 238 dL_acts_234 rfl ?_
          exact z_zret E Er0 dL_acts_238 (by first | decide | omega) (⟨rfl, _, hCa, hNq.cg (fun r a b => hfa r 0 (by omega)), hHq, hsq⟩) (hw := ⟨Nat.zero_le _, Nat.zero_le _⟩)
      · skip
        refine z_iload E dL_acts_128 rfl ?_
        refine z_aload_n E dL_acts_130 1 rfl rfl ?_
        refine z_iconst E dL_acts_131 ?_
        refine z_iald E (rfl : vl G 16 0 = true) 6 rfl (by omega) (by omega) (by omega) dL_acts_132 ?_
        refine z_irem E dL_acts_133 (by omega) (by omega) (by omega) (by omega) ?_
        obtain ⟨k, hx_k⟩ : ∃ z : Int, z = y % (V 16 0 0) := ⟨_, rfl⟩
        rw [← hx_k]
        have hki := emod_in (x := y) (n := V 16 0 0) (by omega)
        refine z_istore E dL_acts_134 (L' := [some (.ref (ad G 10 0)), some (.ref (ad G 16 0)), some (.ref (ad G 17 0)), some (.ref (ad G 18 0)), some (.ref (ad G 19 0)), some (.ref (ad G 20 0)), some (.ref (ad G 21 0)), some (.ref (ad G 22 0)), some (.int (iI z)), some (.int (iI y)), some (.int (iI way)), some (.int (iI k)), none, none]) (Nat.le_of_ble_eq_true rfl) rfl ?_
        refine z_aload_n E dL_acts_136 3 rfl rfl ?_
        refine z_iload E dL_acts_137 rfl ?_
        refine z_iald E (rfl : vl G 18 0 = true) 16 rfl (by omega) (by omega) (by omega) dL_acts_139 ?_
        have hr_14 := hB.g 18 0 k rfl
        obtain ⟨x, hx_x⟩ : ∃ z : Int, z = V 18 0 k := ⟨_, rfl⟩
        rw [← hx_x]
        have hxs := hN.st hM (k := k) (by omega) (by omega)
        rw [← hx_x] at hxs
        refine z_istore E dL_acts_140 (L' := [some (.ref (ad G 10 0)), some (.ref (ad G 16 0)), some (.ref (ad G 17 0)), some (.ref (ad G 18 0)), some (.ref (ad G 19 0)), some (.ref (ad G 20 0)), some (.ref (ad G 21 0)), some (.ref (ad G 22 0)), some (.int (iI z)), some (.int (iI y)), some (.int (iI way)), some (.int (iI k)), some (.int (iI x)), none]) (Nat.le_of_ble_eq_true rfl) rfl ?_
        refine z_iload E dL_acts_142 rfl ?_
        refine z_if_eq E 156 dL_acts_144 rfl (by omega) (fun c_15 => ?_) (fun c_15 => ?_)
        · skip
          refine z_aload_n E dL_acts_156 0 rfl rfl ?_
          refine z_iload E dL_acts_157 rfl ?_
          refine z_callV E (ci := 5) (N := 4) (C := RX5) (T := TX5) (n := 1) (st := []) (rfl : vl G 10 0 = true) rfl rfl [.int (iI x)] (kX5_forget l G P V x hC.w0 hB hC.n0 hC.n1 hC.L hC.U hC.h5 hC.cm hC.w1 hC.uw hC.o hC.z (by omega)) gL_acts_X5_forget rfl ⟨rfl, rfl⟩ (by decide +kernel) ⟨Nat.le_of_ble_eq_true rfl, Nat.le_of_ble_eq_true rfl⟩ rfl rfl (Nat.le_of_ble_eq_true rfl) rfl dL_acts_159 (z_exI (fun r_16 P_16 V_16 h_16 => ?_))
          have hnf : ¬ (0 < x ∧ ∀ d, 0 ≤ d → d < 4 → ¬ mh s d = x) := by intro z; first | (exfalso; omega) | (have a0 := z.2 0 (by omega) (by omega); have a1 := z.2 1 (by omega) (by omega); have a2 := z.2 2 (by omega) (by omega); have a3 := z.2 3 (by omega) (by omega); rw [← hN.h 0 (by omega) (by omega)] at a0; rw [← hN.h 1 (by omega) (by omega)] at a1; rw [← hN.h 2 (by omega) (by omega)] at a2; rw [← hN.h 3 (by omega) (by omega)] at a3; omega)
          obtain ⟨sa, qa, hCa, hfa⟩ := o_forget hC sl h_16
          have hB_16 := hCa.B
          obtain ⟨ea, ea2⟩ := t_fo0 hxs.1 hnf qa
          rw [ea2] at hCa
          refine z_ldc E (-1000002) f1 rfl dL_acts_162 ?_
          refine z_icne_e E (ea) dL_acts_164 171 rfl ?_
          refine z_iconst E dL_acts_167 ?_
          refine z_goto E 172 dL_acts_168 rfl ?_
          exact z_zret E Er0 dL_acts_172 (by first | decide | omega) (⟨rfl, s, hCa, hN.cg (fun r a b => hfa r 0 (by omega)), hH, by omega⟩) (hw := ⟨Nat.zero_le _, Nat.zero_le _⟩)
        · skip
          refine z_aload_n E dL_acts_147 2 rfl rfl ?_
          refine z_iload E dL_acts_148 rfl ?_
          refine z_callS E (n := 2) (st := []) [.ref (ad G 17 0), .int (iI x)] (kL_stands l G P V x hB (by omega)) gL_acts_L_stands rfl ⟨rfl, rfl⟩ (by decide +kernel) ⟨Nat.le_of_ble_eq_true rfl, Nat.le_of_ble_eq_true rfl⟩ rfl rfl (Nat.le_of_ble_eq_true rfl) rfl dL_acts_150 (z_dtI ?_)
          refine z_ifeq_b E 173 dL_acts_153 rfl (fun c_19 => ?_) (fun c_19 => ?_)
          · skip
            refine z_aload_n E dL_acts_173 1 rfl rfl ?_
            refine z_aload_n E dL_acts_174 3 rfl rfl ?_
            refine z_aload E dL_acts_175 rfl ?_
            refine z_aload E dL_acts_177 rfl ?_
            refine z_aload E dL_acts_179 rfl ?_
            refine z_iload E dL_acts_181 rfl ?_
            refine z_callS E (n := 6) (st := []) [.ref (ad G 16 0), .ref (ad G 18 0), .ref (ad G 19 0), .ref (ad G 20 0), .ref (ad G 22 0), .int (iI k)] (kL_forget l G P V k hB (by have e := (hM.i.nn hxs.1).2.2; have e2 := hxs.2.2.2.2; omega) (by omega) hN.vr hN.vb) gL_acts_L_forget rfl ⟨rfl, rfl⟩ (by decide +kernel) ⟨Nat.le_of_ble_eq_true rfl, Nat.le_of_ble_eq_true rfl⟩ rfl rfl (Nat.le_of_ble_eq_true rfl) rfl dL_acts_183 (z_exI (fun r_20 P_20 V_20 h_20 => ?_))
            obtain ⟨hP_20, hB_20, h_20⟩ := h_20
            rw [hP_20]
            obtain ⟨Vm, m1, m16, m18, m19, m20, mr, mv⟩ := h_20
            have ek : mS s x = k := hxs.2.2.2.2
            have hF : FG s x := ⟨hM, hxs.1, by omega, fun d d0 d1 z => by rw [← hN.h d d0 d1] at z; rcases (show d = 0 ∨ d = 1 ∨ d = 2 ∨ d = 3 by omega) with rfl | rfl | rfl | rfl <;> omega⟩
            have hNm : LN Vm (fgX s x) := hN.fg hF m16 (m1 17 0 (by omega)) (by rw [ek]; exact m18) (by rw [ek, hx_x]; exact m19) (by rw [ek]; exact m20) (m1 21 0 (by omega)) (m1 22 0 (by omega))
            have u0 : fgX s x 0 = s 0 - 1 := fgM_0 (by omega)
            have hNq : LN V_20 (swS (fgX s x) 40) := hNm.sweep (by omega) (V' := V_20) (fun r a b => by rw [mv, up_r (by omega)]) (by rw [mv, up_s])
            have hC1 : LC P V_20 s := hC.law hB_20 (fun r w hr => by rw [mv, up_r (by omega)]; exact m1 r w (by omega))
            have hHq := HBr_fg hF hH
            have erq := mr.trans hNm.swept
            have hsq : swS (fgX s x) 40 1 ≤ s 1 + 1 := by rw [sw_lo (by omega)]; have e := fg_lo (s := s) (x := x) (par := mo s (mS s x) 1) (a := mS s x) (n := s 0) (j := 1) (by omega) (by omega) (by omega); have e2 : fgX s x 1 = s 1 := e; omega
            refine z_istore E dL_acts_186 (L' := [some (.ref (ad G 10 0)), some (.ref (ad G 16 0)), some (.ref (ad G 17 0)), some (.ref (ad G 18 0)), some (.ref (ad G 19 0)), some (.ref (ad G 20 0)), some (.ref (ad G 21 0)), some (.ref (ad G 22 0)), some (.int (iI z)), some (.int (iI y)), some (.int (iI way)), some (.int (iI k)), some (.int (iI x)), some (.int (iI r_20))]) (Nat.le_of_ble_eq_true rfl) rfl ?_
            refine z_aload_n E dL_acts_188 0 rfl rfl ?_
            refine z_iload E dL_acts_189 rfl ?_
            refine z_callV E (ci := 5) (N := 4) (C := RX5) (T := TX5) (n := 1) (st := []) (rfl : vl G 10 0 = true) rfl rfl [.int (iI x)] (kX5_forget l G P V_20 x hC1.w0 hB_20 hC1.n0 hC1.n1 hC1.L hC1.U hC1.h5 hC1.cm hC1.w1 hC1.uw hC1.o hC1.z (by omega)) gL_acts_X5_forget rfl ⟨rfl, rfl⟩ (by decide +kernel) ⟨Nat.le_of_ble_eq_true rfl, Nat.le_of_ble_eq_true rfl⟩ rfl rfl (Nat.le_of_ble_eq_true rfl) rfl dL_acts_191 (z_exI (fun r_21 P_21 V_21 h_21 => ?_))
            obtain ⟨sa, qa, hCa, hfa⟩ := o_forget hC1 sl h_21
            have hB_21 := hCa.B
            obtain ⟨ea, ea2⟩ := t_fo hF qa
            rw [ea2] at hCa
            refine z_iload E dL_acts_194 rfl ?_
            refine z_icne_e E (ea.trans erq.symm) dL_acts_196 203 rfl ?_
            refine z_iconst E dL_acts_199 ?_
            refine z_goto E 204 dL_acts_200 rfl ?_
            exact z_zret E Er0 dL_acts_204 (by first | decide | omega) (⟨rfl, _, hCa, hNq.cg (fun r a b => hfa r 0 (by omega)), hHq, hsq⟩) (hw := ⟨Nat.zero_le _, Nat.zero_le _⟩)
          · skip
            refine z_aload_n E dL_acts_156 0 rfl rfl ?_
            refine z_iload E dL_acts_157 rfl ?_
            refine z_callV E (ci := 5) (N := 4) (C := RX5) (T := TX5) (n := 1) (st := []) (rfl : vl G 10 0 = true) rfl rfl [.int (iI x)] (kX5_forget l G P V x hC.w0 hB hC.n0 hC.n1 hC.L hC.U hC.h5 hC.cm hC.w1 hC.uw hC.o hC.z (by omega)) gL_acts_X5_forget rfl ⟨rfl, rfl⟩ (by decide +kernel) ⟨Nat.le_of_ble_eq_true rfl, Nat.le_of_ble_eq_true rfl⟩ rfl rfl (Nat.le_of_ble_eq_true rfl) rfl dL_acts_159 (z_exI (fun r_23 P_23 V_23 h_23 => ?_))
            have hnf : ¬ (0 < x ∧ ∀ d, 0 ≤ d → d < 4 → ¬ mh s d = x) := by intro z; first | (exfalso; omega) | (have a0 := z.2 0 (by omega) (by omega); have a1 := z.2 1 (by omega) (by omega); have a2 := z.2 2 (by omega) (by omega); have a3 := z.2 3 (by omega) (by omega); rw [← hN.h 0 (by omega) (by omega)] at a0; rw [← hN.h 1 (by omega) (by omega)] at a1; rw [← hN.h 2 (by omega) (by omega)] at a2; rw [← hN.h 3 (by omega) (by omega)] at a3; omega)
            obtain ⟨sa, qa, hCa, hfa⟩ := o_forget hC sl h_23
            have hB_23 := hCa.B
            obtain ⟨ea, ea2⟩ := t_fo0 hxs.1 hnf qa
            rw [ea2] at hCa
            refine z_ldc E (-1000002) f1 rfl dL_acts_162 ?_
            refine z_icne_e E (ea) dL_acts_164 171 rfl ?_
            refine z_iconst E dL_acts_167 ?_
            refine z_goto E 172 dL_acts_168 rfl ?_
            exact z_zret E Er0 dL_acts_172 (by first | decide | omega) (⟨rfl, s, hCa, hN.cg (fun r a b => hfa r 0 (by omega)), hH, by omega⟩) (hw := ⟨Nat.zero_le _, Nat.zero_le _⟩)
    · skip
      refine z_aload_n E dL_acts_86 0 rfl rfl ?_
      refine z_aload_n E dL_acts_87 1 rfl rfl ?_
      refine z_aload_n E dL_acts_88 2 rfl rfl ?_
      refine z_aload_n E dL_acts_89 3 rfl rfl ?_
      refine z_aload E dL_acts_90 rfl ?_
      refine z_iload E dL_acts_92 rfl ?_
      refine z_bipush E dL_acts_94 rfl ?_
      refine z_icmp_ge E 103 dL_acts_96 rfl (by omega) (by omega) (fun c_25 => ?_) (fun c_25 => ?_)
      · skip
        refine z_iload E dL_acts_103 rfl ?_
        refine z_bipush E dL_acts_105 rfl ?_
        refine z_icmp_ne E 114 dL_acts_107 rfl (by omega) (by omega) (fun c_26 => ?_) (fun c_26 => ?_)
        · skip
          refine z_iconst E dL_acts_114 ?_
          refine z_iload E dL_acts_115 rfl ?_
          refine z_callS E (n := 7) (st := []) [.ref (ad G 10 0), .ref (ad G 16 0), .ref (ad G 17 0), .ref (ad G 18 0), .ref (ad G 19 0), .int (iI 2), .int (iI y)] (kL_branches l G P V 2 y s hC hN hH sl (by omega) (by omega)) gL_acts_L_branches rfl ⟨rfl, rfl⟩ (by decide +kernel) ⟨Nat.le_of_ble_eq_true rfl, Nat.le_of_ble_eq_true rfl⟩ rfl rfl (Nat.le_of_ble_eq_true rfl) rfl dL_acts_117 (z_exI (fun r_27 P_27 V_27 h_27 => ?_))
          have hret := h_27
          have hr1 := hret.1
          exact z_zret E Er0 dL_acts_120 (by first | decide | omega) (hret) (hw := ⟨Nat.zero_le _, Nat.zero_le _⟩)
        · skip
          refine z_iconst E dL_acts_110 ?_
          refine z_goto E 115 dL_acts_111 rfl ?_
          refine z_iload E dL_acts_115 rfl ?_
          refine z_callS E (n := 7) (st := []) [.ref (ad G 10 0), .ref (ad G 16 0), .ref (ad G 17 0), .ref (ad G 18 0), .ref (ad G 19 0), .int (iI 1), .int (iI y)] (kL_branches l G P V 1 y s hC hN hH sl (by omega) (by omega)) gL_acts_L_branches rfl ⟨rfl, rfl⟩ (by decide +kernel) ⟨Nat.le_of_ble_eq_true rfl, Nat.le_of_ble_eq_true rfl⟩ rfl rfl (Nat.le_of_ble_eq_true rfl) rfl dL_acts_117 (z_exI (fun r_28 P_28 V_28 h_28 => ?_))
          have hret := h_28
          have hr1 := hret.1
          exact z_zret E Er0 dL_acts_120 (by first | decide | omega) (hret) (hw := ⟨Nat.zero_le _, Nat.zero_le _⟩)
      · skip
        refine z_iconst E dL_acts_99 ?_
        refine z_goto E 115 dL_acts_100 rfl ?_
        refine z_iload E dL_acts_115 rfl ?_
        refine z_callS E (n := 7) (st := []) [.ref (ad G 10 0), .ref (ad G 16 0), .ref (ad G 17 0), .ref (ad G 18 0), .ref (ad G 19 0), .int (iI 0), .int (iI y)] (kL_branches l G P V 0 y s hC hN hH sl (by omega) (by omega)) gL_acts_L_branches rfl ⟨rfl, rfl⟩ (by decide +kernel) ⟨Nat.le_of_ble_eq_true rfl, Nat.le_of_ble_eq_true rfl⟩ rfl rfl (Nat.le_of_ble_eq_true rfl) rfl dL_acts_117 (z_exI (fun r_29 P_29 V_29 h_29 => ?_))
        have hret := h_29
        have hr1 := hret.1
        exact z_zret E Er0 dL_acts_120 (by first | decide | omega) (hret) (hw := ⟨Nat.zero_le _, Nat.zero_le _⟩)
  · skip
    refine z_aload_n E dL_acts_27 0 rfl rfl ?_
    refine z_aload_n E dL_acts_28 1 rfl rfl ?_
    refine z_aload_n E dL_acts_29 2 rfl rfl ?_
    refine z_aload_n E dL_acts_30 3 rfl rfl ?_
    refine z_aload E dL_acts_31 rfl ?_
    refine z_aload E dL_acts_33 rfl ?_
    refine z_aload E dL_acts_35 rfl ?_
    refine z_aload E dL_acts_37 rfl ?_
    refine z_iload E dL_acts_39 rfl ?_
    refine z_bipush E dL_acts_41 rfl ?_
    refine z_icmp_ge E 50 dL_acts_43 rfl (by omega) (by omega) (fun c_30 => ?_) (fun c_30 => ?_)
    · skip
      refine z_iload E dL_acts_50 rfl ?_
      refine z_bipush E dL_acts_52 rfl ?_
      refine z_icmp_ge E 61 dL_acts_54 rfl (by omega) (by omega) (fun c_31 => ?_) (fun c_31 => ?_)
      · skip
        refine z_iload E dL_acts_61 rfl ?_
        refine z_bipush E dL_acts_63 rfl ?_
        refine z_icmp_ge E 72 dL_acts_65 rfl (by omega) (by omega) (fun c_32 => ?_) (fun c_32 => ?_)
        · skip
          refine z_iconst E dL_acts_72 ?_
          refine z_iload E dL_acts_73 rfl ?_
          refine z_callSA E hEa (c1 := 1) (s1 := 48) (n := 10) (st := []) [.ref (ad G 10 0), .ref (ad G 16 0), .ref (ad G 17 0), .ref (ad G 18 0), .ref (ad G 19 0), .ref (ad G 20 0), .ref (ad G 21 0), .ref (ad G 22 0), .int (iI 3), .int (iI y)] (kL_writes l G P V 3 y s hC hN hH sl (by omega) (by omega) hG0) gL_acts_L_writes rfl ⟨rfl, rfl⟩ (by decide +kernel) ⟨Nat.le_of_ble_eq_true rfl, Nat.le_of_ble_eq_true rfl⟩ rfl rfl (Nat.le_of_ble_eq_true rfl) rfl dL_acts_75 ⟨Nat.le_of_ble_eq_true rfl, Nat.le_of_ble_eq_true rfl⟩ (z_exI (fun r_33 P_33 V_33 h_33 => ?_))
          have hret := h_33
          have hr1 := hret.1
          exact z_zret E Er0 dL_acts_78 (by first | decide | omega) (hret)
        · skip
          refine z_iconst E dL_acts_68 ?_
          refine z_goto E 73 dL_acts_69 rfl ?_
          refine z_iload E dL_acts_73 rfl ?_
          refine z_callSA E hEa (c1 := 1) (s1 := 48) (n := 10) (st := []) [.ref (ad G 10 0), .ref (ad G 16 0), .ref (ad G 17 0), .ref (ad G 18 0), .ref (ad G 19 0), .ref (ad G 20 0), .ref (ad G 21 0), .ref (ad G 22 0), .int (iI 2), .int (iI y)] (kL_writes l G P V 2 y s hC hN hH sl (by omega) (by omega) hG0) gL_acts_L_writes rfl ⟨rfl, rfl⟩ (by decide +kernel) ⟨Nat.le_of_ble_eq_true rfl, Nat.le_of_ble_eq_true rfl⟩ rfl rfl (Nat.le_of_ble_eq_true rfl) rfl dL_acts_75 ⟨Nat.le_of_ble_eq_true rfl, Nat.le_of_ble_eq_true rfl⟩ (z_exI (fun r_34 P_34 V_34 h_34 => ?_))
          have hret := h_34
          have hr1 := hret.1
          exact z_zret E Er0 dL_acts_78 (by first | decide | omega) (hret)
      · skip
        refine z_iconst E dL_acts_57 ?_
        refine z_goto E 73 dL_acts_58 rfl ?_
        refine z_iload E dL_acts_73 rfl ?_
        refine z_callSA E hEa (c1 := 1) (s1 := 48) (n := 10) (st := []) [.ref (ad G 10 0), .ref (ad G 16 0), .ref (ad G 17 0), .ref (ad G 18 0), .ref (ad G 19 0), .ref (ad G 20 0), .ref (ad G 21 0), .ref (ad G 22 0), .int (iI 1), .int (iI y)] (kL_writes l G P V 1 y s hC hN hH sl (by omega) (by omega) hG0) gL_acts_L_writes rfl ⟨rfl, rfl⟩ (by decide +kernel) ⟨Nat.le_of_ble_eq_true rfl, Nat.le_of_ble_eq_true rfl⟩ rfl rfl (Nat.le_of_ble_eq_true rfl) rfl dL_acts_75 ⟨Nat.le_of_ble_eq_true rfl, Nat.le_of_ble_eq_true rfl⟩ (z_exI (fun r_35 P_35 V_35 h_35 => ?_))
        have hret := h_35
        have hr1 := hret.1
        exact z_zret E Er0 dL_acts_78 (by first | decide | omega) (hret)
    · skip
      refine z_iconst E dL_acts_46 ?_
      refine z_goto E 73 dL_acts_47 rfl ?_
      refine z_iload E dL_acts_73 rfl ?_
      refine z_callSA E hEa (c1 := 1) (s1 := 48) (n := 10) (st := []) [.ref (ad G 10 0), .ref (ad G 16 0), .ref (ad G 17 0), .ref (ad G 18 0), .ref (ad G 19 0), .ref (ad G 20 0), .ref (ad G 21 0), .ref (ad G 22 0), .int (iI 0), .int (iI y)] (kL_writes l G P V 0 y s hC hN hH sl (by omega) (by omega) hG0) gL_acts_L_writes rfl ⟨rfl, rfl⟩ (by decide +kernel) ⟨Nat.le_of_ble_eq_true rfl, Nat.le_of_ble_eq_true rfl⟩ rfl rfl (Nat.le_of_ble_eq_true rfl) rfl dL_acts_75 ⟨Nat.le_of_ble_eq_true rfl, Nat.le_of_ble_eq_true rfl⟩ (z_exI (fun r_36 P_36 V_36 h_36 => ?_))
      have hret := h_36
      have hr1 := hret.1
      exact z_zret E Er0 dL_acts_78 (by first | decide | omega) (hret)

set_option maxHeartbeats 4000000 in
set_option maxRecDepth 100000 in
theorem kL_areBlocks (l : Launch) (G : Gl) (P : Nat → Nat) (V : Vt) (s : Int → Int) (hC : LC P V s) (hN : LN V s) : Met l yL_areBlocks wsL_areBlocks ({ frames := 4, cells := 0, slots := 0, locals := 92 }) (va_Pc [.ref (ad G 10 0), .ref (ad G 16 0), .ref (ad G 20 0), .ref (ad G 21 0), .ref (ad G 22 0)] (Sg G P V)) (Qk G mkI (fun r P' V' => r = 1 ∧ P' = P ∧ V' = V)) 0 0 (mem G) := by
  refine z_met (cc := cL_areBlocks) (nL := 12) (ret := (some .boolean)) (own := RL) (by decide +kernel) rfl rfl (Nat.le_of_ble_eq_true rfl) (L := [some (.ref (ad G 10 0)), some (.ref (ad G 16 0)), some (.ref (ad G 20 0)), some (.ref (ad G 21 0)), some (.ref (ad G 22 0)), none, none, none, none, none, none, none]) rfl ?_
  intro X E Er0
  have f0 : Cond.constant RL 84 (-1000001) ∈ wsL_areBlocks := by decide +kernel
  have f1 : Cond.constant RL 127 (-1000004) ∈ wsL_areBlocks := by decide +kernel
  have hB := hC.B
  have hM := hC.M
  have hz := hM.z
  have g0 := hN.g0
  have ms1 := hM.s1
  have sb := hC.s1
  refine z_iconst E dL_areBlocks_0 ?_
  refine z_istore E dL_areBlocks_1 (L' := [some (.ref (ad G 10 0)), some (.ref (ad G 16 0)), some (.ref (ad G 20 0)), some (.ref (ad G 21 0)), some (.ref (ad G 22 0)), some (.int (iI 0)), none, none, none, none, none, none]) (Nat.le_of_ble_eq_true rfl) rfl ?_
  refine z_aload_n E dL_areBlocks_3 0 rfl rfl ?_
  refine z_bipush E dL_areBlocks_4 rfl ?_
  refine z_iconst E dL_areBlocks_6 ?_
  refine z_callV E (ci := 5) (N := 4) (C := RX5) (T := TX5) (n := 2) (st := []) (rfl : vl G 10 0 = true) rfl rfl [.int (iI 40), .int (iI 0)] (kX5_blockOf l G P V 40 0 hC.w0 hB hC.n0 hC.n1 hC.L (by omega) (by omega)) gL_areBlocks_X5_blockOf rfl ⟨rfl, rfl⟩ (by decide +kernel) ⟨Nat.le_of_ble_eq_true rfl, Nat.le_of_ble_eq_true rfl⟩ rfl rfl (Nat.le_of_ble_eq_true rfl) rfl dL_areBlocks_7 (z_dtI ?_)
  refine z_ldc E (-1000001) f0 rfl dL_areBlocks_10 ?_
  refine z_icne_e E ((bo_40 (V := V) (w := P 0))) dL_areBlocks_12 30 rfl ?_
  refine z_aload_n E dL_areBlocks_15 0 rfl rfl ?_
  refine z_iconst E dL_areBlocks_16 ?_
  refine z_iconst E dL_areBlocks_17 ?_
  refine z_callV E (ci := 5) (N := 4) (C := RX5) (T := TX5) (n := 2) (st := []) (rfl : vl G 10 0 = true) rfl rfl [.int (iI (-1)), .int (iI 0)] (kX5_blockOf l G P V (-1) 0 hC.w0 hB hC.n0 hC.n1 hC.L (by omega) (by omega)) gL_areBlocks_X5_blockOf rfl ⟨rfl, rfl⟩ (by decide +kernel) ⟨Nat.le_of_ble_eq_true rfl, Nat.le_of_ble_eq_true rfl⟩ rfl rfl (Nat.le_of_ble_eq_true rfl) rfl dL_areBlocks_18 (z_dtI ?_)
  refine z_ldc E (-1000001) f0 rfl dL_areBlocks_21 ?_
  refine z_icne_e E ((bo_m1 (V := V) (w := P 0))) dL_areBlocks_23 30 rfl ?_
  refine z_iconst E dL_areBlocks_26 ?_
  refine z_goto E 31 dL_areBlocks_27 rfl ?_
  refine z_istore E dL_areBlocks_31 (L' := [some (.ref (ad G 10 0)), some (.ref (ad G 16 0)), some (.ref (ad G 20 0)), some (.ref (ad G 21 0)), some (.ref (ad G 22 0)), some (.int (iI 0)), some (.int (iI 1)), none, none, none, none, none]) (Nat.le_of_ble_eq_true rfl) rfl ?_
  refine z_iconst E dL_areBlocks_33 ?_
  refine z_istore E dL_areBlocks_34 (L' := [some (.ref (ad G 10 0)), some (.ref (ad G 16 0)), some (.ref (ad G 20 0)), some (.ref (ad G 21 0)), some (.ref (ad G 22 0)), some (.int (iI 0)), some (.int (iI 1)), some (.int (iI 0)), none, none, none, none]) (Nat.le_of_ble_eq_true rfl) rfl ?_
  have lp_36_5 : ∀ (fuel : Nat) (sh : Int) (kz : Int), (0 ≤ kz) → (kz ≤ 40) → (sh = sm kz (fun b => b2i (pDb (V 21 0) (V 22 0) b))) → (40 - kz : Int).toNat < fuel → Kz X G P V 0 0 [some (.ref (ad G 10 0)), some (.ref (ad G 16 0)), some (.ref (ad G 20 0)), some (.ref (ad G 21 0)), some (.ref (ad G 22 0)), some (.int (iI sh)), some (.int (iI 1)), some (.int (iI kz)), none, none, none, none] 36 [] := by
    intro fuel
    induction fuel with
    | zero => intro sh kz hk0 hk1 hs hf_36; exact absurd hf_36 (Nat.not_lt_zero _)
    | succ fuel ih_36 =>
      intro sh kz hk0 hk1 hs hf_36
      refine z_iload E dL_areBlocks_36 rfl ?_
      refine z_bipush E dL_areBlocks_38 rfl ?_
      refine z_icmp_ge E 298 dL_areBlocks_40 rfl (by omega) (by omega) (fun c_6 => ?_) (fun c_6 => ?_)
      · skip
        refine z_iload E dL_areBlocks_298 rfl ?_
        refine z_if_eq E 330 dL_areBlocks_300 rfl (by omega) (fun c => absurd c (by decide)) (fun _ => ?_)
        refine z_aload_n E dL_areBlocks_303 0 rfl rfl ?_
        refine z_iconst E dL_areBlocks_304 ?_
        refine z_callV E (ci := 5) (N := 4) (C := RX5) (T := TX5) (n := 1) (st := []) (rfl : vl G 10 0 = true) rfl rfl [.int (iI 2)] (kX5_count l G P V 2 hC.w0 hB hC.n0 hC.n1 hC.L (by omega)) gL_areBlocks_X5_count rfl ⟨rfl, rfl⟩ (by decide +kernel) ⟨Nat.le_of_ble_eq_true rfl, Nat.le_of_ble_eq_true rfl⟩ rfl rfl (Nat.le_of_ble_eq_true rfl) rfl dL_areBlocks_305 (z_dtI ?_)
        refine z_aload E dL_areBlocks_308 rfl ?_
        refine z_callS E (n := 1) (st := [.int (iI (if 2 = 0 then V 4 (P 0) 3 else if 2 = 1 then sm 4 (fun b => b2i (¬ V 8 (P 0) b = -1)) else if 2 = 2 then sm 40 (fun b => b2i (0 < V 3 (P 0) b)) else if 2 = 3 then V 4 (P 0) 3 * 6 else if 2 = 4 then sm 40 (fun b => b2i (0 < V 3 (P 0) b ∧ fnd 40 (fun a => V 3 (P 0) a ≠ 0 ∧ eq8 (V 2 (P 0)) (V 2 (P 0)) (a * 8) (b * 8)) < b)) else if 2 = 5 then V 4 (P 0) 4 else if 2 = 6 then V 1 (P 0) 2 else if 2 = 7 then V 1 (P 0) 3 else if 2 = 8 then V 0 (P 0) 5 else if 2 = 9 then V 11 0 2 else if 2 = 10 then V 13 0 2 else if 2 = 20 then V 0 (P 0) 4 else -1000001))]) [.ref (ad G 22 0)] (kL_blocks l G P V  hN.vb) gL_areBlocks_L_blocks rfl ⟨rfl, rfl⟩ (by decide +kernel) ⟨Nat.le_of_ble_eq_true rfl, Nat.le_of_ble_eq_true rfl⟩ rfl rfl (Nat.le_of_ble_eq_true rfl) rfl dL_areBlocks_310 (z_dtI ?_)
        refine z_icne_e E ((cq_2 hC.R hN)) dL_areBlocks_313 330 rfl ?_
        refine z_aload_n E dL_areBlocks_316 0 rfl rfl ?_
        refine z_iconst E dL_areBlocks_317 ?_
        refine z_callV E (ci := 5) (N := 4) (C := RX5) (T := TX5) (n := 1) (st := []) (rfl : vl G 10 0 = true) rfl rfl [.int (iI 4)] (kX5_count l G P V 4 hC.w0 hB hC.n0 hC.n1 hC.L (by omega)) gL_areBlocks_X5_count rfl ⟨rfl, rfl⟩ (by decide +kernel) ⟨Nat.le_of_ble_eq_true rfl, Nat.le_of_ble_eq_true rfl⟩ rfl rfl (Nat.le_of_ble_eq_true rfl) rfl dL_areBlocks_318 (z_dtI ?_)
        refine z_iload E dL_areBlocks_321 rfl ?_
        refine z_icne_e E (((cq_4 hC.R hN).trans (by rw [hs, show kz = 40 by omega]))) dL_areBlocks_323 330 rfl ?_
        refine z_iconst E dL_areBlocks_326 ?_
        refine z_goto E 331 dL_areBlocks_327 rfl ?_
        exact z_zret E Er0 dL_areBlocks_331 (by first | decide | omega) (⟨rfl, rfl, rfl⟩)
      · skip
        refine z_iload E dL_areBlocks_43 rfl ?_
        refine z_if_eq E 298 dL_areBlocks_45 rfl (by omega) (fun c => absurd c (by decide)) (fun _ => ?_)
        refine z_aload E dL_areBlocks_48 rfl ?_
        refine z_iload E dL_areBlocks_50 rfl ?_
        refine z_lald E (rfl : vl G 22 0 = true) 40 rfl (by omega) (by omega) (by omega) dL_areBlocks_52 ?_
        have hr_14 := hN.vb kz
        refine z_lconst E 0 rfl dL_areBlocks_53 ?_
        refine z_lcmp E (by omega) (by omega) dL_areBlocks_54 ?_
        refine z_ifge_c E 80 dL_areBlocks_55 rfl (fun c_15 => ?_) (fun c_15 => ?_)
        · skip
          refine z_iconst E dL_areBlocks_80 ?_
          refine z_istore E dL_areBlocks_81 (L' := [some (.ref (ad G 10 0)), some (.ref (ad G 16 0)), some (.ref (ad G 20 0)), some (.ref (ad G 21 0)), some (.ref (ad G 22 0)), some (.int (iI sh)), some (.int (iI 1)), some (.int (iI kz)), some (.int (iI 0)), none, none, none]) (Nat.le_of_ble_eq_true rfl) rfl ?_
          refine z_iconst E dL_areBlocks_83 ?_
          refine z_istore E dL_areBlocks_84 (L' := [some (.ref (ad G 10 0)), some (.ref (ad G 16 0)), some (.ref (ad G 20 0)), some (.ref (ad G 21 0)), some (.ref (ad G 22 0)), some (.int (iI sh)), some (.int (iI 1)), some (.int (iI kz)), some (.int (iI 0)), some (.int (iI 0)), none, none]) (Nat.le_of_ble_eq_true rfl) rfl ?_
          refine z_iconst E dL_areBlocks_86 ?_
          refine z_istore E dL_areBlocks_87 (L' := [some (.ref (ad G 10 0)), some (.ref (ad G 16 0)), some (.ref (ad G 20 0)), some (.ref (ad G 21 0)), some (.ref (ad G 22 0)), some (.int (iI sh)), some (.int (iI 1)), some (.int (iI kz)), some (.int (iI 0)), some (.int (iI 0)), some (.int (iI 0)), none]) (Nat.le_of_ble_eq_true rfl) rfl ?_
          have lp_89_16 : ∀ (fuel : Nat) (su : Int) (se : Int) (c : Int), (0 ≤ c) → (c ≤ 8) → (su = sm c (fun c => cB (V 21 0 kz) (V 22 0 kz) c)) → (se = bits c (fun c => 0 < cB (V 21 0 kz) (V 22 0 kz) c)) → (8 - c : Int).toNat < fuel → Kz X G P V 0 0 [some (.ref (ad G 10 0)), some (.ref (ad G 16 0)), some (.ref (ad G 20 0)), some (.ref (ad G 21 0)), some (.ref (ad G 22 0)), some (.int (iI sh)), some (.int (iI 1)), some (.int (iI kz)), some (.int (iI su)), some (.int (iI se)), some (.int (iI c)), none] 89 [] := by
            intro fuel
            induction fuel with
            | zero => intro su se c hc0 hc1 hsu hse hf_89; exact absurd hf_89 (Nat.not_lt_zero _)
            | succ fuel ih_89 =>
              intro su se c hc0 hc1 hsu hse hf_89
              have hsb := bits_bd (fun c => 0 < cB (V 21 0 kz) (V 22 0 kz) c) hc0
              rw [← hse] at hsb
              refine z_iload E dL_areBlocks_89 rfl ?_
              refine z_bipush E dL_areBlocks_91 rfl ?_
              refine z_icmp_ge E 139 dL_areBlocks_93 rfl (by omega) (by omega) (fun c_17 => ?_) (fun c_17 => ?_)
              · skip
                refine z_aload_n E dL_areBlocks_139 3 rfl rfl ?_
                refine z_aload E dL_areBlocks_140 rfl ?_
                refine z_aload_n E dL_areBlocks_142 3 rfl rfl ?_
                refine z_iload E dL_areBlocks_143 rfl ?_
                refine z_lald E (rfl : vl G 21 0 = true) 40 rfl (by omega) (by omega) (by omega) dL_areBlocks_145 ?_
                have hr_18 := hN.va kz
                refine z_aload E dL_areBlocks_146 rfl ?_
                refine z_iload E dL_areBlocks_148 rfl ?_
                refine z_lald E (rfl : vl G 22 0 = true) 40 rfl (by omega) (by omega) (by omega) dL_areBlocks_150 ?_
                have hr_19 := hN.vb kz
                refine z_iload E dL_areBlocks_151 rfl ?_
                refine z_callS E (n := 5) (st := []) [.ref (ad G 21 0), .ref (ad G 22 0), .long (iL (V 21 0 kz)), .long (iL (V 22 0 kz)), .int (iI kz)] (kL_like l G P V (V 21 0 kz) (V 22 0 kz) kz hN.va hN.vb (by omega) (by omega) (by omega)) gL_areBlocks_L_like rfl ⟨rfl, rfl⟩ (by decide +kernel) ⟨Nat.le_of_ble_eq_true rfl, Nat.le_of_ble_eq_true rfl⟩ rfl rfl (Nat.le_of_ble_eq_true rfl) rfl dL_areBlocks_153 (z_dtI ?_)
                have h_20a := lkF_bd (A := V 21 0) (B := V 22 0) (low := (V 21 0 kz)) (high := (V 22 0 kz)) (bt := kz)
                refine z_istore E dL_areBlocks_156 (L' := [some (.ref (ad G 10 0)), some (.ref (ad G 16 0)), some (.ref (ad G 20 0)), some (.ref (ad G 21 0)), some (.ref (ad G 22 0)), some (.int (iI sh)), some (.int (iI 1)), some (.int (iI kz)), some (.int (iI su)), some (.int (iI se)), some (.int (iI (lkF (V 21 0) (V 22 0) (V 21 0 kz) (V 22 0 kz) kz))), none]) (Nat.le_of_ble_eq_true rfl) rfl ?_
                refine z_iload E dL_areBlocks_158 rfl ?_
                refine z_iload E dL_areBlocks_160 rfl ?_
                refine z_if_lt E 176 dL_areBlocks_162 rfl (by omega) (fun c_21 => ?_) (fun c_21 => ?_)
                · skip
                  refine z_iconst E dL_areBlocks_176 ?_
                  refine z_iadd E dL_areBlocks_177 ?_
                  refine z_istore E dL_areBlocks_178 (L' := [some (.ref (ad G 10 0)), some (.ref (ad G 16 0)), some (.ref (ad G 20 0)), some (.ref (ad G 21 0)), some (.ref (ad G 22 0)), some (.int (iI (sh + 0))), some (.int (iI 1)), some (.int (iI kz)), some (.int (iI su)), some (.int (iI se)), some (.int (iI (lkF (V 21 0) (V 22 0) (V 21 0 kz) (V 22 0 kz) kz))), none]) (Nat.le_of_ble_eq_true rfl) rfl ?_
                  refine z_aload_n E dL_areBlocks_180 1 rfl rfl ?_
                  refine z_aload_n E dL_areBlocks_181 2 rfl rfl ?_
                  refine z_iload E dL_areBlocks_182 rfl ?_
                  refine z_iconst E dL_areBlocks_184 ?_
                  refine z_callS E (n := 4) (st := []) [.ref (ad G 16 0), .ref (ad G 20 0), .int (iI kz), .int (iI 0)] (kL_uses l G P V kz 0 (by omega) hN.vr (by omega) (by omega)) gL_areBlocks_L_uses rfl ⟨rfl, rfl⟩ (by decide +kernel) ⟨Nat.le_of_ble_eq_true rfl, Nat.le_of_ble_eq_true rfl⟩ rfl rfl (Nat.le_of_ble_eq_true rfl) rfl dL_areBlocks_185 (z_dtI ?_)
                  have hup := lU_pos hM hN hk0 (by omega) (by omega)
                  have hub := lU_bd (n := V 16 0 0) (R := V 20 0) (st := 0) (b := kz) (by omega) (by omega)
                  refine z_if_le E 289 dL_areBlocks_188 rfl (by omega) (fun c_23 => ?_) (fun c_23 => ?_)
                  · skip
                    exfalso; omega
                  · skip
                    refine z_aload_n E dL_areBlocks_191 0 rfl rfl ?_
                    refine z_iload E dL_areBlocks_192 rfl ?_
                    refine z_iconst E dL_areBlocks_194 ?_
                    refine z_callV E (ci := 5) (N := 4) (C := RX5) (T := TX5) (n := 2) (st := []) (rfl : vl G 10 0 = true) rfl rfl [.int (iI kz), .int (iI 0)] (kX5_blockOf l G P V kz 0 hC.w0 hB hC.n0 hC.n1 hC.L (by omega) (by omega)) gL_areBlocks_X5_blockOf rfl ⟨rfl, rfl⟩ (by decide +kernel) ⟨Nat.le_of_ble_eq_true rfl, Nat.le_of_ble_eq_true rfl⟩ rfl rfl (Nat.le_of_ble_eq_true rfl) rfl dL_areBlocks_195 (z_dtI ?_)
                    refine z_aload_n E dL_areBlocks_198 1 rfl rfl ?_
                    refine z_aload_n E dL_areBlocks_199 2 rfl rfl ?_
                    refine z_iload E dL_areBlocks_200 rfl ?_
                    refine z_iconst E dL_areBlocks_202 ?_
                    refine z_callS E (n := 4) (st := [.int (iI (if ¬ (0 ≤ kz ∧ kz < 40 ∧ 0 < V 3 (P 0) kz) then -1000001 else if 0 = 0 then V 3 (P 0) kz else if 0 = 1 then sm (V 4 (P 0) 3) (fun k => b2i (0 < sm 6 (fun p => b2i (V 7 (P 0) (k * 6 + p) = kz)))) else if 0 = 2 then sm 8 (fun i => V 2 (P 0) (kz * 8 + i)) else if 0 = 3 then bits 8 (fun i => V 2 (P 0) (kz * 8 + i) ≠ 0) else if 0 = 4 then fO (fnd 40 (fun o => o ≠ kz ∧ V 3 (P 0) o ≠ 0 ∧ eq8 (V 2 (P 0)) (V 2 (P 0)) (o * 8) (kz * 8))) else -1000001))]) [.ref (ad G 16 0), .ref (ad G 20 0), .int (iI kz), .int (iI 0)] (kL_uses l G P V kz 0 (by omega) hN.vr (by omega) (by omega)) gL_areBlocks_L_uses rfl ⟨rfl, rfl⟩ (by decide +kernel) ⟨Nat.le_of_ble_eq_true rfl, Nat.le_of_ble_eq_true rfl⟩ rfl rfl (Nat.le_of_ble_eq_true rfl) rfl dL_areBlocks_203 (z_dtI ?_)
                    refine z_icne_e E ((bo_0 hC.R hN hk0 (by omega) (by omega))) dL_areBlocks_206 289 rfl ?_
                    refine z_aload_n E dL_areBlocks_209 0 rfl rfl ?_
                    refine z_iload E dL_areBlocks_210 rfl ?_
                    refine z_iconst E dL_areBlocks_212 ?_
                    refine z_callV E (ci := 5) (N := 4) (C := RX5) (T := TX5) (n := 2) (st := []) (rfl : vl G 10 0 = true) rfl rfl [.int (iI kz), .int (iI 1)] (kX5_blockOf l G P V kz 1 hC.w0 hB hC.n0 hC.n1 hC.L (by omega) (by omega)) gL_areBlocks_X5_blockOf rfl ⟨rfl, rfl⟩ (by decide +kernel) ⟨Nat.le_of_ble_eq_true rfl, Nat.le_of_ble_eq_true rfl⟩ rfl rfl (Nat.le_of_ble_eq_true rfl) rfl dL_areBlocks_213 (z_dtI ?_)
                    refine z_aload_n E dL_areBlocks_216 1 rfl rfl ?_
                    refine z_aload_n E dL_areBlocks_217 2 rfl rfl ?_
                    refine z_iload E dL_areBlocks_218 rfl ?_
                    refine z_iconst E dL_areBlocks_220 ?_
                    refine z_callS E (n := 4) (st := [.int (iI (if ¬ (0 ≤ kz ∧ kz < 40 ∧ 0 < V 3 (P 0) kz) then -1000001 else if 1 = 0 then V 3 (P 0) kz else if 1 = 1 then sm (V 4 (P 0) 3) (fun k => b2i (0 < sm 6 (fun p => b2i (V 7 (P 0) (k * 6 + p) = kz)))) else if 1 = 2 then sm 8 (fun i => V 2 (P 0) (kz * 8 + i)) else if 1 = 3 then bits 8 (fun i => V 2 (P 0) (kz * 8 + i) ≠ 0) else if 1 = 4 then fO (fnd 40 (fun o => o ≠ kz ∧ V 3 (P 0) o ≠ 0 ∧ eq8 (V 2 (P 0)) (V 2 (P 0)) (o * 8) (kz * 8))) else -1000001))]) [.ref (ad G 16 0), .ref (ad G 20 0), .int (iI kz), .int (iI 1)] (kL_uses l G P V kz 1 (by omega) hN.vr (by omega) (by omega)) gL_areBlocks_L_uses rfl ⟨rfl, rfl⟩ (by decide +kernel) ⟨Nat.le_of_ble_eq_true rfl, Nat.le_of_ble_eq_true rfl⟩ rfl rfl (Nat.le_of_ble_eq_true rfl) rfl dL_areBlocks_221 (z_dtI ?_)
                    refine z_icne_e E ((bo_1 hC.R hN hk0 (by omega) (by omega))) dL_areBlocks_224 289 rfl ?_
                    refine z_aload_n E dL_areBlocks_227 0 rfl rfl ?_
                    refine z_iload E dL_areBlocks_228 rfl ?_
                    refine z_iconst E dL_areBlocks_230 ?_
                    refine z_callV E (ci := 5) (N := 4) (C := RX5) (T := TX5) (n := 2) (st := []) (rfl : vl G 10 0 = true) rfl rfl [.int (iI kz), .int (iI 2)] (kX5_blockOf l G P V kz 2 hC.w0 hB hC.n0 hC.n1 hC.L (by omega) (by omega)) gL_areBlocks_X5_blockOf rfl ⟨rfl, rfl⟩ (by decide +kernel) ⟨Nat.le_of_ble_eq_true rfl, Nat.le_of_ble_eq_true rfl⟩ rfl rfl (Nat.le_of_ble_eq_true rfl) rfl dL_areBlocks_231 (z_dtI ?_)
                    refine z_iload E dL_areBlocks_234 rfl ?_
                    refine z_icne_e E (((bo_2 hC.R hN hk0 (by omega) (by omega)).trans (by rw [hsu, show c = 8 by omega]))) dL_areBlocks_236 289 rfl ?_
                    refine z_aload_n E dL_areBlocks_239 0 rfl rfl ?_
                    refine z_iload E dL_areBlocks_240 rfl ?_
                    refine z_iconst E dL_areBlocks_242 ?_
                    refine z_callV E (ci := 5) (N := 4) (C := RX5) (T := TX5) (n := 2) (st := []) (rfl : vl G 10 0 = true) rfl rfl [.int (iI kz), .int (iI 3)] (kX5_blockOf l G P V kz 3 hC.w0 hB hC.n0 hC.n1 hC.L (by omega) (by omega)) gL_areBlocks_X5_blockOf rfl ⟨rfl, rfl⟩ (by decide +kernel) ⟨Nat.le_of_ble_eq_true rfl, Nat.le_of_ble_eq_true rfl⟩ rfl rfl (Nat.le_of_ble_eq_true rfl) rfl dL_areBlocks_243 (z_dtI ?_)
                    refine z_iload E dL_areBlocks_246 rfl ?_
                    refine z_icne_e E (((bo_3 hC.R hN hk0 (by omega) (by omega)).trans (by rw [hse, show c = 8 by omega]))) dL_areBlocks_248 289 rfl ?_
                    refine z_aload_n E dL_areBlocks_251 0 rfl rfl ?_
                    refine z_iload E dL_areBlocks_252 rfl ?_
                    refine z_iconst E dL_areBlocks_254 ?_
                    refine z_callV E (ci := 5) (N := 4) (C := RX5) (T := TX5) (n := 2) (st := []) (rfl : vl G 10 0 = true) rfl rfl [.int (iI kz), .int (iI 4)] (kX5_blockOf l G P V kz 4 hC.w0 hB hC.n0 hC.n1 hC.L (by omega) (by omega)) gL_areBlocks_X5_blockOf rfl ⟨rfl, rfl⟩ (by decide +kernel) ⟨Nat.le_of_ble_eq_true rfl, Nat.le_of_ble_eq_true rfl⟩ rfl rfl (Nat.le_of_ble_eq_true rfl) rfl dL_areBlocks_255 (z_dtI ?_)
                    refine z_iload E dL_areBlocks_258 rfl ?_
                    refine z_if_ge E 268 dL_areBlocks_260 rfl (by omega) (fun c_35 => ?_) (fun c_35 => ?_)
                    · skip
                      refine z_iload E dL_areBlocks_268 rfl ?_
                      refine z_icne_e E ((by first | exact (bo_4 hC.R hN hk0 (by omega) (by omega)).trans (fO_f (by omega)) | exact (bo_4 hC.R hN hk0 (by omega) (by omega)).trans (fO_t (by omega)))) dL_areBlocks_270 289 rfl ?_
                      refine z_aload_n E dL_areBlocks_273 0 rfl rfl ?_
                      refine z_iload E dL_areBlocks_274 rfl ?_
                      refine z_iconst E dL_areBlocks_276 ?_
                      refine z_callV E (ci := 5) (N := 4) (C := RX5) (T := TX5) (n := 2) (st := []) (rfl : vl G 10 0 = true) rfl rfl [.int (iI kz), .int (iI 5)] (kX5_blockOf l G P V kz 5 hC.w0 hB hC.n0 hC.n1 hC.L (by omega) (by omega)) gL_areBlocks_X5_blockOf rfl ⟨rfl, rfl⟩ (by decide +kernel) ⟨Nat.le_of_ble_eq_true rfl, Nat.le_of_ble_eq_true rfl⟩ rfl rfl (Nat.le_of_ble_eq_true rfl) rfl dL_areBlocks_277 (z_dtI ?_)
                      refine z_ldc E (-1000001) f0 rfl dL_areBlocks_280 ?_
                      refine z_icne_e E ((bo_5 hC.R hN hk0 (by omega) (by omega))) dL_areBlocks_282 289 rfl ?_
                      refine z_iconst E dL_areBlocks_285 ?_
                      refine z_goto E 290 dL_areBlocks_286 rfl ?_
                      refine z_istore E dL_areBlocks_290 (L' := [some (.ref (ad G 10 0)), some (.ref (ad G 16 0)), some (.ref (ad G 20 0)), some (.ref (ad G 21 0)), some (.ref (ad G 22 0)), some (.int (iI (sh + 0))), some (.int (iI 1)), some (.int (iI kz)), some (.int (iI su)), some (.int (iI se)), some (.int (iI (lkF (V 21 0) (V 22 0) (V 21 0 kz) (V 22 0 kz) kz))), none]) (Nat.le_of_ble_eq_true rfl) rfl ?_
                      refine z_iinc E kz dL_areBlocks_292 (L' := [some (.ref (ad G 10 0)), some (.ref (ad G 16 0)), some (.ref (ad G 20 0)), some (.ref (ad G 21 0)), some (.ref (ad G 22 0)), some (.int (iI (sh + 0))), some (.int (iI 1)), some (.int (iI (kz + 1))), some (.int (iI su)), some (.int (iI se)), some (.int (iI (lkF (V 21 0) (V 22 0) (V 21 0 kz) (V 22 0 kz) kz))), none]) (Nat.le_of_ble_eq_true rfl) rfl rfl ?_
                      refine z_goto E 36 dL_areBlocks_295 rfl ?_
                      refine Kz.drop 8 (L' := [some (.ref (ad G 10 0)), some (.ref (ad G 16 0)), some (.ref (ad G 20 0)), some (.ref (ad G 21 0)), some (.ref (ad G 22 0)), some (.int (iI (sh + 0))), some (.int (iI 1)), some (.int (iI (kz + 1))), none, some (.int (iI se)), some (.int (iI (lkF (V 21 0) (V 22 0) (V 21 0 kz) (V 22 0 kz) kz))), none]) rfl ?_
                      refine Kz.drop 9 (L' := [some (.ref (ad G 10 0)), some (.ref (ad G 16 0)), some (.ref (ad G 20 0)), some (.ref (ad G 21 0)), some (.ref (ad G 22 0)), some (.int (iI (sh + 0))), some (.int (iI 1)), some (.int (iI (kz + 1))), none, none, some (.int (iI (lkF (V 21 0) (V 22 0) (V 21 0 kz) (V 22 0 kz) kz))), none]) rfl ?_
                      refine Kz.drop 10 (L' := [some (.ref (ad G 10 0)), some (.ref (ad G 16 0)), some (.ref (ad G 20 0)), some (.ref (ad G 21 0)), some (.ref (ad G 22 0)), some (.int (iI (sh + 0))), some (.int (iI 1)), some (.int (iI (kz + 1))), none, none, none, none]) rfl ?_
                      exact ih_36 (sh + 0) (kz + 1) (by omega) (by omega) (by first | exact smb_t hs hk0 (by unfold pDb; omega) | exact smb_f hs hk0 (by unfold pDb; omega) | exact smb_f0 hs hk0 (by unfold pDb; omega)) (by omega)
                    · skip
                      refine z_ldc E (-1000004) f1 rfl dL_areBlocks_263 ?_
                      refine z_goto E 270 dL_areBlocks_265 rfl ?_
                      refine z_icne_e E ((by first | exact (bo_4 hC.R hN hk0 (by omega) (by omega)).trans (fO_f (by omega)) | exact (bo_4 hC.R hN hk0 (by omega) (by omega)).trans (fO_t (by omega)))) dL_areBlocks_270 289 rfl ?_
                      refine z_aload_n E dL_areBlocks_273 0 rfl rfl ?_
                      refine z_iload E dL_areBlocks_274 rfl ?_
                      refine z_iconst E dL_areBlocks_276 ?_
                      refine z_callV E (ci := 5) (N := 4) (C := RX5) (T := TX5) (n := 2) (st := []) (rfl : vl G 10 0 = true) rfl rfl [.int (iI kz), .int (iI 5)] (kX5_blockOf l G P V kz 5 hC.w0 hB hC.n0 hC.n1 hC.L (by omega) (by omega)) gL_areBlocks_X5_blockOf rfl ⟨rfl, rfl⟩ (by decide +kernel) ⟨Nat.le_of_ble_eq_true rfl, Nat.le_of_ble_eq_true rfl⟩ rfl rfl (Nat.le_of_ble_eq_true rfl) rfl dL_areBlocks_277 (z_dtI ?_)
                      refine z_ldc E (-1000001) f0 rfl dL_areBlocks_280 ?_
                      refine z_icne_e E ((bo_5 hC.R hN hk0 (by omega) (by omega))) dL_areBlocks_282 289 rfl ?_
                      refine z_iconst E dL_areBlocks_285 ?_
                      refine z_goto E 290 dL_areBlocks_286 rfl ?_
                      refine z_istore E dL_areBlocks_290 (L' := [some (.ref (ad G 10 0)), some (.ref (ad G 16 0)), some (.ref (ad G 20 0)), some (.ref (ad G 21 0)), some (.ref (ad G 22 0)), some (.int (iI (sh + 0))), some (.int (iI 1)), some (.int (iI kz)), some (.int (iI su)), some (.int (iI se)), some (.int (iI (lkF (V 21 0) (V 22 0) (V 21 0 kz) (V 22 0 kz) kz))), none]) (Nat.le_of_ble_eq_true rfl) rfl ?_
                      refine z_iinc E kz dL_areBlocks_292 (L' := [some (.ref (ad G 10 0)), some (.ref (ad G 16 0)), some (.ref (ad G 20 0)), some (.ref (ad G 21 0)), some (.ref (ad G 22 0)), some (.int (iI (sh + 0))), some (.int (iI 1)), some (.int (iI (kz + 1))), some (.int (iI su)), some (.int (iI se)), some (.int (iI (lkF (V 21 0) (V 22 0) (V 21 0 kz) (V 22 0 kz) kz))), none]) (Nat.le_of_ble_eq_true rfl) rfl rfl ?_
                      refine z_goto E 36 dL_areBlocks_295 rfl ?_
                      refine Kz.drop 8 (L' := [some (.ref (ad G 10 0)), some (.ref (ad G 16 0)), some (.ref (ad G 20 0)), some (.ref (ad G 21 0)), some (.ref (ad G 22 0)), some (.int (iI (sh + 0))), some (.int (iI 1)), some (.int (iI (kz + 1))), none, some (.int (iI se)), some (.int (iI (lkF (V 21 0) (V 22 0) (V 21 0 kz) (V 22 0 kz) kz))), none]) rfl ?_
                      refine Kz.drop 9 (L' := [some (.ref (ad G 10 0)), some (.ref (ad G 16 0)), some (.ref (ad G 20 0)), some (.ref (ad G 21 0)), some (.ref (ad G 22 0)), some (.int (iI (sh + 0))), some (.int (iI 1)), some (.int (iI (kz + 1))), none, none, some (.int (iI (lkF (V 21 0) (V 22 0) (V 21 0 kz) (V 22 0 kz) kz))), none]) rfl ?_
                      refine Kz.drop 10 (L' := [some (.ref (ad G 10 0)), some (.ref (ad G 16 0)), some (.ref (ad G 20 0)), some (.ref (ad G 21 0)), some (.ref (ad G 22 0)), some (.int (iI (sh + 0))), some (.int (iI 1)), some (.int (iI (kz + 1))), none, none, none, none]) rfl ?_
                      exact ih_36 (sh + 0) (kz + 1) (by omega) (by omega) (by first | exact smb_t hs hk0 (by unfold pDb; omega) | exact smb_f hs hk0 (by unfold pDb; omega) | exact smb_f0 hs hk0 (by unfold pDb; omega)) (by omega)
                · skip
                  refine z_iload E dL_areBlocks_165 rfl ?_
                  refine z_iload E dL_areBlocks_167 rfl ?_
                  refine z_icmp_ge E 176 dL_areBlocks_169 rfl (by omega) (by omega) (fun c_42 => ?_) (fun c_42 => ?_)
                  · skip
                    refine z_iconst E dL_areBlocks_176 ?_
                    refine z_iadd E dL_areBlocks_177 ?_
                    refine z_istore E dL_areBlocks_178 (L' := [some (.ref (ad G 10 0)), some (.ref (ad G 16 0)), some (.ref (ad G 20 0)), some (.ref (ad G 21 0)), some (.ref (ad G 22 0)), some (.int (iI (sh + 0))), some (.int (iI 1)), some (.int (iI kz)), some (.int (iI su)), some (.int (iI se)), some (.int (iI (lkF (V 21 0) (V 22 0) (V 21 0 kz) (V 22 0 kz) kz))), none]) (Nat.le_of_ble_eq_true rfl) rfl ?_
                    refine z_aload_n E dL_areBlocks_180 1 rfl rfl ?_
                    refine z_aload_n E dL_areBlocks_181 2 rfl rfl ?_
                    refine z_iload E dL_areBlocks_182 rfl ?_
                    refine z_iconst E dL_areBlocks_184 ?_
                    refine z_callS E (n := 4) (st := []) [.ref (ad G 16 0), .ref (ad G 20 0), .int (iI kz), .int (iI 0)] (kL_uses l G P V kz 0 (by omega) hN.vr (by omega) (by omega)) gL_areBlocks_L_uses rfl ⟨rfl, rfl⟩ (by decide +kernel) ⟨Nat.le_of_ble_eq_true rfl, Nat.le_of_ble_eq_true rfl⟩ rfl rfl (Nat.le_of_ble_eq_true rfl) rfl dL_areBlocks_185 (z_dtI ?_)
                    have hup := lU_pos hM hN hk0 (by omega) (by omega)
                    have hub := lU_bd (n := V 16 0 0) (R := V 20 0) (st := 0) (b := kz) (by omega) (by omega)
                    refine z_if_le E 289 dL_areBlocks_188 rfl (by omega) (fun c_44 => ?_) (fun c_44 => ?_)
                    · skip
                      exfalso; omega
                    · skip
                      refine z_aload_n E dL_areBlocks_191 0 rfl rfl ?_
                      refine z_iload E dL_areBlocks_192 rfl ?_
                      refine z_iconst E dL_areBlocks_194 ?_
                      refine z_callV E (ci := 5) (N := 4) (C := RX5) (T := TX5) (n := 2) (st := []) (rfl : vl G 10 0 = true) rfl rfl [.int (iI kz), .int (iI 0)] (kX5_blockOf l G P V kz 0 hC.w0 hB hC.n0 hC.n1 hC.L (by omega) (by omega)) gL_areBlocks_X5_blockOf rfl ⟨rfl, rfl⟩ (by decide +kernel) ⟨Nat.le_of_ble_eq_true rfl, Nat.le_of_ble_eq_true rfl⟩ rfl rfl (Nat.le_of_ble_eq_true rfl) rfl dL_areBlocks_195 (z_dtI ?_)
                      refine z_aload_n E dL_areBlocks_198 1 rfl rfl ?_
                      refine z_aload_n E dL_areBlocks_199 2 rfl rfl ?_
                      refine z_iload E dL_areBlocks_200 rfl ?_
                      refine z_iconst E dL_areBlocks_202 ?_
                      refine z_callS E (n := 4) (st := [.int (iI (if ¬ (0 ≤ kz ∧ kz < 40 ∧ 0 < V 3 (P 0) kz) then -1000001 else if 0 = 0 then V 3 (P 0) kz else if 0 = 1 then sm (V 4 (P 0) 3) (fun k => b2i (0 < sm 6 (fun p => b2i (V 7 (P 0) (k * 6 + p) = kz)))) else if 0 = 2 then sm 8 (fun i => V 2 (P 0) (kz * 8 + i)) else if 0 = 3 then bits 8 (fun i => V 2 (P 0) (kz * 8 + i) ≠ 0) else if 0 = 4 then fO (fnd 40 (fun o => o ≠ kz ∧ V 3 (P 0) o ≠ 0 ∧ eq8 (V 2 (P 0)) (V 2 (P 0)) (o * 8) (kz * 8))) else -1000001))]) [.ref (ad G 16 0), .ref (ad G 20 0), .int (iI kz), .int (iI 0)] (kL_uses l G P V kz 0 (by omega) hN.vr (by omega) (by omega)) gL_areBlocks_L_uses rfl ⟨rfl, rfl⟩ (by decide +kernel) ⟨Nat.le_of_ble_eq_true rfl, Nat.le_of_ble_eq_true rfl⟩ rfl rfl (Nat.le_of_ble_eq_true rfl) rfl dL_areBlocks_203 (z_dtI ?_)
                      refine z_icne_e E ((bo_0 hC.R hN hk0 (by omega) (by omega))) dL_areBlocks_206 289 rfl ?_
                      refine z_aload_n E dL_areBlocks_209 0 rfl rfl ?_
                      refine z_iload E dL_areBlocks_210 rfl ?_
                      refine z_iconst E dL_areBlocks_212 ?_
                      refine z_callV E (ci := 5) (N := 4) (C := RX5) (T := TX5) (n := 2) (st := []) (rfl : vl G 10 0 = true) rfl rfl [.int (iI kz), .int (iI 1)] (kX5_blockOf l G P V kz 1 hC.w0 hB hC.n0 hC.n1 hC.L (by omega) (by omega)) gL_areBlocks_X5_blockOf rfl ⟨rfl, rfl⟩ (by decide +kernel) ⟨Nat.le_of_ble_eq_true rfl, Nat.le_of_ble_eq_true rfl⟩ rfl rfl (Nat.le_of_ble_eq_true rfl) rfl dL_areBlocks_213 (z_dtI ?_)
                      refine z_aload_n E dL_areBlocks_216 1 rfl rfl ?_
                      refine z_aload_n E dL_areBlocks_217 2 rfl rfl ?_
                      refine z_iload E dL_areBlocks_218 rfl ?_
                      refine z_iconst E dL_areBlocks_220 ?_
                      refine z_callS E (n := 4) (st := [.int (iI (if ¬ (0 ≤ kz ∧ kz < 40 ∧ 0 < V 3 (P 0) kz) then -1000001 else if 1 = 0 then V 3 (P 0) kz else if 1 = 1 then sm (V 4 (P 0) 3) (fun k => b2i (0 < sm 6 (fun p => b2i (V 7 (P 0) (k * 6 + p) = kz)))) else if 1 = 2 then sm 8 (fun i => V 2 (P 0) (kz * 8 + i)) else if 1 = 3 then bits 8 (fun i => V 2 (P 0) (kz * 8 + i) ≠ 0) else if 1 = 4 then fO (fnd 40 (fun o => o ≠ kz ∧ V 3 (P 0) o ≠ 0 ∧ eq8 (V 2 (P 0)) (V 2 (P 0)) (o * 8) (kz * 8))) else -1000001))]) [.ref (ad G 16 0), .ref (ad G 20 0), .int (iI kz), .int (iI 1)] (kL_uses l G P V kz 1 (by omega) hN.vr (by omega) (by omega)) gL_areBlocks_L_uses rfl ⟨rfl, rfl⟩ (by decide +kernel) ⟨Nat.le_of_ble_eq_true rfl, Nat.le_of_ble_eq_true rfl⟩ rfl rfl (Nat.le_of_ble_eq_true rfl) rfl dL_areBlocks_221 (z_dtI ?_)
                      refine z_icne_e E ((bo_1 hC.R hN hk0 (by omega) (by omega))) dL_areBlocks_224 289 rfl ?_
                      refine z_aload_n E dL_areBlocks_227 0 rfl rfl ?_
                      refine z_iload E dL_areBlocks_228 rfl ?_
                      refine z_iconst E dL_areBlocks_230 ?_
                      refine z_callV E (ci := 5) (N := 4) (C := RX5) (T := TX5) (n := 2) (st := []) (rfl : vl G 10 0 = true) rfl rfl [.int (iI kz), .int (iI 2)] (kX5_blockOf l G P V kz 2 hC.w0 hB hC.n0 hC.n1 hC.L (by omega) (by omega)) gL_areBlocks_X5_blockOf rfl ⟨rfl, rfl⟩ (by decide +kernel) ⟨Nat.le_of_ble_eq_true rfl, Nat.le_of_ble_eq_true rfl⟩ rfl rfl (Nat.le_of_ble_eq_true rfl) rfl dL_areBlocks_231 (z_dtI ?_)
                      refine z_iload E dL_areBlocks_234 rfl ?_
                      refine z_icne_e E (((bo_2 hC.R hN hk0 (by omega) (by omega)).trans (by rw [hsu, show c = 8 by omega]))) dL_areBlocks_236 289 rfl ?_
                      refine z_aload_n E dL_areBlocks_239 0 rfl rfl ?_
                      refine z_iload E dL_areBlocks_240 rfl ?_
                      refine z_iconst E dL_areBlocks_242 ?_
                      refine z_callV E (ci := 5) (N := 4) (C := RX5) (T := TX5) (n := 2) (st := []) (rfl : vl G 10 0 = true) rfl rfl [.int (iI kz), .int (iI 3)] (kX5_blockOf l G P V kz 3 hC.w0 hB hC.n0 hC.n1 hC.L (by omega) (by omega)) gL_areBlocks_X5_blockOf rfl ⟨rfl, rfl⟩ (by decide +kernel) ⟨Nat.le_of_ble_eq_true rfl, Nat.le_of_ble_eq_true rfl⟩ rfl rfl (Nat.le_of_ble_eq_true rfl) rfl dL_areBlocks_243 (z_dtI ?_)
                      refine z_iload E dL_areBlocks_246 rfl ?_
                      refine z_icne_e E (((bo_3 hC.R hN hk0 (by omega) (by omega)).trans (by rw [hse, show c = 8 by omega]))) dL_areBlocks_248 289 rfl ?_
                      refine z_aload_n E dL_areBlocks_251 0 rfl rfl ?_
                      refine z_iload E dL_areBlocks_252 rfl ?_
                      refine z_iconst E dL_areBlocks_254 ?_
                      refine z_callV E (ci := 5) (N := 4) (C := RX5) (T := TX5) (n := 2) (st := []) (rfl : vl G 10 0 = true) rfl rfl [.int (iI kz), .int (iI 4)] (kX5_blockOf l G P V kz 4 hC.w0 hB hC.n0 hC.n1 hC.L (by omega) (by omega)) gL_areBlocks_X5_blockOf rfl ⟨rfl, rfl⟩ (by decide +kernel) ⟨Nat.le_of_ble_eq_true rfl, Nat.le_of_ble_eq_true rfl⟩ rfl rfl (Nat.le_of_ble_eq_true rfl) rfl dL_areBlocks_255 (z_dtI ?_)
                      refine z_iload E dL_areBlocks_258 rfl ?_
                      refine z_if_ge E 268 dL_areBlocks_260 rfl (by omega) (fun c_56 => ?_) (fun c_56 => ?_)
                      · skip
                        refine z_iload E dL_areBlocks_268 rfl ?_
                        refine z_icne_e E ((by first | exact (bo_4 hC.R hN hk0 (by omega) (by omega)).trans (fO_f (by omega)) | exact (bo_4 hC.R hN hk0 (by omega) (by omega)).trans (fO_t (by omega)))) dL_areBlocks_270 289 rfl ?_
                        refine z_aload_n E dL_areBlocks_273 0 rfl rfl ?_
                        refine z_iload E dL_areBlocks_274 rfl ?_
                        refine z_iconst E dL_areBlocks_276 ?_
                        refine z_callV E (ci := 5) (N := 4) (C := RX5) (T := TX5) (n := 2) (st := []) (rfl : vl G 10 0 = true) rfl rfl [.int (iI kz), .int (iI 5)] (kX5_blockOf l G P V kz 5 hC.w0 hB hC.n0 hC.n1 hC.L (by omega) (by omega)) gL_areBlocks_X5_blockOf rfl ⟨rfl, rfl⟩ (by decide +kernel) ⟨Nat.le_of_ble_eq_true rfl, Nat.le_of_ble_eq_true rfl⟩ rfl rfl (Nat.le_of_ble_eq_true rfl) rfl dL_areBlocks_277 (z_dtI ?_)
                        refine z_ldc E (-1000001) f0 rfl dL_areBlocks_280 ?_
                        refine z_icne_e E ((bo_5 hC.R hN hk0 (by omega) (by omega))) dL_areBlocks_282 289 rfl ?_
                        refine z_iconst E dL_areBlocks_285 ?_
                        refine z_goto E 290 dL_areBlocks_286 rfl ?_
                        refine z_istore E dL_areBlocks_290 (L' := [some (.ref (ad G 10 0)), some (.ref (ad G 16 0)), some (.ref (ad G 20 0)), some (.ref (ad G 21 0)), some (.ref (ad G 22 0)), some (.int (iI (sh + 0))), some (.int (iI 1)), some (.int (iI kz)), some (.int (iI su)), some (.int (iI se)), some (.int (iI (lkF (V 21 0) (V 22 0) (V 21 0 kz) (V 22 0 kz) kz))), none]) (Nat.le_of_ble_eq_true rfl) rfl ?_
                        refine z_iinc E kz dL_areBlocks_292 (L' := [some (.ref (ad G 10 0)), some (.ref (ad G 16 0)), some (.ref (ad G 20 0)), some (.ref (ad G 21 0)), some (.ref (ad G 22 0)), some (.int (iI (sh + 0))), some (.int (iI 1)), some (.int (iI (kz + 1))), some (.int (iI su)), some (.int (iI se)), some (.int (iI (lkF (V 21 0) (V 22 0) (V 21 0 kz) (V 22 0 kz) kz))), none]) (Nat.le_of_ble_eq_true rfl) rfl rfl ?_
                        refine z_goto E 36 dL_areBlocks_295 rfl ?_
                        refine Kz.drop 8 (L' := [some (.ref (ad G 10 0)), some (.ref (ad G 16 0)), some (.ref (ad G 20 0)), some (.ref (ad G 21 0)), some (.ref (ad G 22 0)), some (.int (iI (sh + 0))), some (.int (iI 1)), some (.int (iI (kz + 1))), none, some (.int (iI se)), some (.int (iI (lkF (V 21 0) (V 22 0) (V 21 0 kz) (V 22 0 kz) kz))), none]) rfl ?_
                        refine Kz.drop 9 (L' := [some (.ref (ad G 10 0)), some (.ref (ad G 16 0)), some (.ref (ad G 20 0)), some (.ref (ad G 21 0)), some (.ref (ad G 22 0)), some (.int (iI (sh + 0))), some (.int (iI 1)), some (.int (iI (kz + 1))), none, none, some (.int (iI (lkF (V 21 0) (V 22 0) (V 21 0 kz) (V 22 0 kz) kz))), none]) rfl ?_
                        refine Kz.drop 10 (L' := [some (.ref (ad G 10 0)), some (.ref (ad G 16 0)), some (.ref (ad G 20 0)), some (.ref (ad G 21 0)), some (.ref (ad G 22 0)), some (.int (iI (sh + 0))), some (.int (iI 1)), some (.int (iI (kz + 1))), none, none, none, none]) rfl ?_
                        exact ih_36 (sh + 0) (kz + 1) (by omega) (by omega) (by first | exact smb_t hs hk0 (by unfold pDb; omega) | exact smb_f hs hk0 (by unfold pDb; omega) | exact smb_f0 hs hk0 (by unfold pDb; omega)) (by omega)
                      · skip
                        refine z_ldc E (-1000004) f1 rfl dL_areBlocks_263 ?_
                        refine z_goto E 270 dL_areBlocks_265 rfl ?_
                        refine z_icne_e E ((by first | exact (bo_4 hC.R hN hk0 (by omega) (by omega)).trans (fO_f (by omega)) | exact (bo_4 hC.R hN hk0 (by omega) (by omega)).trans (fO_t (by omega)))) dL_areBlocks_270 289 rfl ?_
                        refine z_aload_n E dL_areBlocks_273 0 rfl rfl ?_
                        refine z_iload E dL_areBlocks_274 rfl ?_
                        refine z_iconst E dL_areBlocks_276 ?_
                        refine z_callV E (ci := 5) (N := 4) (C := RX5) (T := TX5) (n := 2) (st := []) (rfl : vl G 10 0 = true) rfl rfl [.int (iI kz), .int (iI 5)] (kX5_blockOf l G P V kz 5 hC.w0 hB hC.n0 hC.n1 hC.L (by omega) (by omega)) gL_areBlocks_X5_blockOf rfl ⟨rfl, rfl⟩ (by decide +kernel) ⟨Nat.le_of_ble_eq_true rfl, Nat.le_of_ble_eq_true rfl⟩ rfl rfl (Nat.le_of_ble_eq_true rfl) rfl dL_areBlocks_277 (z_dtI ?_)
                        refine z_ldc E (-1000001) f0 rfl dL_areBlocks_280 ?_
                        refine z_icne_e E ((bo_5 hC.R hN hk0 (by omega) (by omega))) dL_areBlocks_282 289 rfl ?_
                        refine z_iconst E dL_areBlocks_285 ?_
                        refine z_goto E 290 dL_areBlocks_286 rfl ?_
                        refine z_istore E dL_areBlocks_290 (L' := [some (.ref (ad G 10 0)), some (.ref (ad G 16 0)), some (.ref (ad G 20 0)), some (.ref (ad G 21 0)), some (.ref (ad G 22 0)), some (.int (iI (sh + 0))), some (.int (iI 1)), some (.int (iI kz)), some (.int (iI su)), some (.int (iI se)), some (.int (iI (lkF (V 21 0) (V 22 0) (V 21 0 kz) (V 22 0 kz) kz))), none]) (Nat.le_of_ble_eq_true rfl) rfl ?_
                        refine z_iinc E kz dL_areBlocks_292 (L' := [some (.ref (ad G 10 0)), some (.ref (ad G 16 0)), some (.ref (ad G 20 0)), some (.ref (ad G 21 0)), some (.ref (ad G 22 0)), some (.int (iI (sh + 0))), some (.int (iI 1)), some (.int (iI (kz + 1))), some (.int (iI su)), some (.int (iI se)), some (.int (iI (lkF (V 21 0) (V 22 0) (V 21 0 kz) (V 22 0 kz) kz))), none]) (Nat.le_of_ble_eq_true rfl) rfl rfl ?_
                        refine z_goto E 36 dL_areBlocks_295 rfl ?_
                        refine Kz.drop 8 (L' := [some (.ref (ad G 10 0)), some (.ref (ad G 16 0)), some (.ref (ad G 20 0)), some (.ref (ad G 21 0)), some (.ref (ad G 22 0)), some (.int (iI (sh + 0))), some (.int (iI 1)), some (.int (iI (kz + 1))), none, some (.int (iI se)), some (.int (iI (lkF (V 21 0) (V 22 0) (V 21 0 kz) (V 22 0 kz) kz))), none]) rfl ?_
                        refine Kz.drop 9 (L' := [some (.ref (ad G 10 0)), some (.ref (ad G 16 0)), some (.ref (ad G 20 0)), some (.ref (ad G 21 0)), some (.ref (ad G 22 0)), some (.int (iI (sh + 0))), some (.int (iI 1)), some (.int (iI (kz + 1))), none, none, some (.int (iI (lkF (V 21 0) (V 22 0) (V 21 0 kz) (V 22 0 kz) kz))), none]) rfl ?_
                        refine Kz.drop 10 (L' := [some (.ref (ad G 10 0)), some (.ref (ad G 16 0)), some (.ref (ad G 20 0)), some (.ref (ad G 21 0)), some (.ref (ad G 22 0)), some (.int (iI (sh + 0))), some (.int (iI 1)), some (.int (iI (kz + 1))), none, none, none, none]) rfl ?_
                        exact ih_36 (sh + 0) (kz + 1) (by omega) (by omega) (by first | exact smb_t hs hk0 (by unfold pDb; omega) | exact smb_f hs hk0 (by unfold pDb; omega) | exact smb_f0 hs hk0 (by unfold pDb; omega)) (by omega)
                  · skip
                    refine z_iconst E dL_areBlocks_172 ?_
                    refine z_goto E 177 dL_areBlocks_173 rfl ?_
                    refine z_iadd E dL_areBlocks_177 ?_
                    refine z_istore E dL_areBlocks_178 (L' := [some (.ref (ad G 10 0)), some (.ref (ad G 16 0)), some (.ref (ad G 20 0)), some (.ref (ad G 21 0)), some (.ref (ad G 22 0)), some (.int (iI (sh + 1))), some (.int (iI 1)), some (.int (iI kz)), some (.int (iI su)), some (.int (iI se)), some (.int (iI (lkF (V 21 0) (V 22 0) (V 21 0 kz) (V 22 0 kz) kz))), none]) (Nat.le_of_ble_eq_true rfl) rfl ?_
                    refine z_aload_n E dL_areBlocks_180 1 rfl rfl ?_
                    refine z_aload_n E dL_areBlocks_181 2 rfl rfl ?_
                    refine z_iload E dL_areBlocks_182 rfl ?_
                    refine z_iconst E dL_areBlocks_184 ?_
                    refine z_callS E (n := 4) (st := []) [.ref (ad G 16 0), .ref (ad G 20 0), .int (iI kz), .int (iI 0)] (kL_uses l G P V kz 0 (by omega) hN.vr (by omega) (by omega)) gL_areBlocks_L_uses rfl ⟨rfl, rfl⟩ (by decide +kernel) ⟨Nat.le_of_ble_eq_true rfl, Nat.le_of_ble_eq_true rfl⟩ rfl rfl (Nat.le_of_ble_eq_true rfl) rfl dL_areBlocks_185 (z_dtI ?_)
                    have hup := lU_pos hM hN hk0 (by omega) (by omega)
                    have hub := lU_bd (n := V 16 0 0) (R := V 20 0) (st := 0) (b := kz) (by omega) (by omega)
                    refine z_if_le E 289 dL_areBlocks_188 rfl (by omega) (fun c_64 => ?_) (fun c_64 => ?_)
                    · skip
                      exfalso; omega
                    · skip
                      refine z_aload_n E dL_areBlocks_191 0 rfl rfl ?_
                      refine z_iload E dL_areBlocks_192 rfl ?_
                      refine z_iconst E dL_areBlocks_194 ?_
                      refine z_callV E (ci := 5) (N := 4) (C := RX5) (T := TX5) (n := 2) (st := []) (rfl : vl G 10 0 = true) rfl rfl [.int (iI kz), .int (iI 0)] (kX5_blockOf l G P V kz 0 hC.w0 hB hC.n0 hC.n1 hC.L (by omega) (by omega)) gL_areBlocks_X5_blockOf rfl ⟨rfl, rfl⟩ (by decide +kernel) ⟨Nat.le_of_ble_eq_true rfl, Nat.le_of_ble_eq_true rfl⟩ rfl rfl (Nat.le_of_ble_eq_true rfl) rfl dL_areBlocks_195 (z_dtI ?_)
                      refine z_aload_n E dL_areBlocks_198 1 rfl rfl ?_
                      refine z_aload_n E dL_areBlocks_199 2 rfl rfl ?_
                      refine z_iload E dL_areBlocks_200 rfl ?_
                      refine z_iconst E dL_areBlocks_202 ?_
                      refine z_callS E (n := 4) (st := [.int (iI (if ¬ (0 ≤ kz ∧ kz < 40 ∧ 0 < V 3 (P 0) kz) then -1000001 else if 0 = 0 then V 3 (P 0) kz else if 0 = 1 then sm (V 4 (P 0) 3) (fun k => b2i (0 < sm 6 (fun p => b2i (V 7 (P 0) (k * 6 + p) = kz)))) else if 0 = 2 then sm 8 (fun i => V 2 (P 0) (kz * 8 + i)) else if 0 = 3 then bits 8 (fun i => V 2 (P 0) (kz * 8 + i) ≠ 0) else if 0 = 4 then fO (fnd 40 (fun o => o ≠ kz ∧ V 3 (P 0) o ≠ 0 ∧ eq8 (V 2 (P 0)) (V 2 (P 0)) (o * 8) (kz * 8))) else -1000001))]) [.ref (ad G 16 0), .ref (ad G 20 0), .int (iI kz), .int (iI 0)] (kL_uses l G P V kz 0 (by omega) hN.vr (by omega) (by omega)) gL_areBlocks_L_uses rfl ⟨rfl, rfl⟩ (by decide +kernel) ⟨Nat.le_of_ble_eq_true rfl, Nat.le_of_ble_eq_true rfl⟩ rfl rfl (Nat.le_of_ble_eq_true rfl) rfl dL_areBlocks_203 (z_dtI ?_)
                      refine z_icne_e E ((bo_0 hC.R hN hk0 (by omega) (by omega))) dL_areBlocks_206 289 rfl ?_
                      refine z_aload_n E dL_areBlocks_209 0 rfl rfl ?_
                      refine z_iload E dL_areBlocks_210 rfl ?_
                      refine z_iconst E dL_areBlocks_212 ?_
                      refine z_callV E (ci := 5) (N := 4) (C := RX5) (T := TX5) (n := 2) (st := []) (rfl : vl G 10 0 = true) rfl rfl [.int (iI kz), .int (iI 1)] (kX5_blockOf l G P V kz 1 hC.w0 hB hC.n0 hC.n1 hC.L (by omega) (by omega)) gL_areBlocks_X5_blockOf rfl ⟨rfl, rfl⟩ (by decide +kernel) ⟨Nat.le_of_ble_eq_true rfl, Nat.le_of_ble_eq_true rfl⟩ rfl rfl (Nat.le_of_ble_eq_true rfl) rfl dL_areBlocks_213 (z_dtI ?_)
                      refine z_aload_n E dL_areBlocks_216 1 rfl rfl ?_
                      refine z_aload_n E dL_areBlocks_217 2 rfl rfl ?_
                      refine z_iload E dL_areBlocks_218 rfl ?_
                      refine z_iconst E dL_areBlocks_220 ?_
                      refine z_callS E (n := 4) (st := [.int (iI (if ¬ (0 ≤ kz ∧ kz < 40 ∧ 0 < V 3 (P 0) kz) then -1000001 else if 1 = 0 then V 3 (P 0) kz else if 1 = 1 then sm (V 4 (P 0) 3) (fun k => b2i (0 < sm 6 (fun p => b2i (V 7 (P 0) (k * 6 + p) = kz)))) else if 1 = 2 then sm 8 (fun i => V 2 (P 0) (kz * 8 + i)) else if 1 = 3 then bits 8 (fun i => V 2 (P 0) (kz * 8 + i) ≠ 0) else if 1 = 4 then fO (fnd 40 (fun o => o ≠ kz ∧ V 3 (P 0) o ≠ 0 ∧ eq8 (V 2 (P 0)) (V 2 (P 0)) (o * 8) (kz * 8))) else -1000001))]) [.ref (ad G 16 0), .ref (ad G 20 0), .int (iI kz), .int (iI 1)] (kL_uses l G P V kz 1 (by omega) hN.vr (by omega) (by omega)) gL_areBlocks_L_uses rfl ⟨rfl, rfl⟩ (by decide +kernel) ⟨Nat.le_of_ble_eq_true rfl, Nat.le_of_ble_eq_true rfl⟩ rfl rfl (Nat.le_of_ble_eq_true rfl) rfl dL_areBlocks_221 (z_dtI ?_)
                      refine z_icne_e E ((bo_1 hC.R hN hk0 (by omega) (by omega))) dL_areBlocks_224 289 rfl ?_
                      refine z_aload_n E dL_areBlocks_227 0 rfl rfl ?_
                      refine z_iload E dL_areBlocks_228 rfl ?_
                      refine z_iconst E dL_areBlocks_230 ?_
                      refine z_callV E (ci := 5) (N := 4) (C := RX5) (T := TX5) (n := 2) (st := []) (rfl : vl G 10 0 = true) rfl rfl [.int (iI kz), .int (iI 2)] (kX5_blockOf l G P V kz 2 hC.w0 hB hC.n0 hC.n1 hC.L (by omega) (by omega)) gL_areBlocks_X5_blockOf rfl ⟨rfl, rfl⟩ (by decide +kernel) ⟨Nat.le_of_ble_eq_true rfl, Nat.le_of_ble_eq_true rfl⟩ rfl rfl (Nat.le_of_ble_eq_true rfl) rfl dL_areBlocks_231 (z_dtI ?_)
                      refine z_iload E dL_areBlocks_234 rfl ?_
                      refine z_icne_e E (((bo_2 hC.R hN hk0 (by omega) (by omega)).trans (by rw [hsu, show c = 8 by omega]))) dL_areBlocks_236 289 rfl ?_
                      refine z_aload_n E dL_areBlocks_239 0 rfl rfl ?_
                      refine z_iload E dL_areBlocks_240 rfl ?_
                      refine z_iconst E dL_areBlocks_242 ?_
                      refine z_callV E (ci := 5) (N := 4) (C := RX5) (T := TX5) (n := 2) (st := []) (rfl : vl G 10 0 = true) rfl rfl [.int (iI kz), .int (iI 3)] (kX5_blockOf l G P V kz 3 hC.w0 hB hC.n0 hC.n1 hC.L (by omega) (by omega)) gL_areBlocks_X5_blockOf rfl ⟨rfl, rfl⟩ (by decide +kernel) ⟨Nat.le_of_ble_eq_true rfl, Nat.le_of_ble_eq_true rfl⟩ rfl rfl (Nat.le_of_ble_eq_true rfl) rfl dL_areBlocks_243 (z_dtI ?_)
                      refine z_iload E dL_areBlocks_246 rfl ?_
                      refine z_icne_e E (((bo_3 hC.R hN hk0 (by omega) (by omega)).trans (by rw [hse, show c = 8 by omega]))) dL_areBlocks_248 289 rfl ?_
                      refine z_aload_n E dL_areBlocks_251 0 rfl rfl ?_
                      refine z_iload E dL_areBlocks_252 rfl ?_
                      refine z_iconst E dL_areBlocks_254 ?_
                      refine z_callV E (ci := 5) (N := 4) (C := RX5) (T := TX5) (n := 2) (st := []) (rfl : vl G 10 0 = true) rfl rfl [.int (iI kz), .int (iI 4)] (kX5_blockOf l G P V kz 4 hC.w0 hB hC.n0 hC.n1 hC.L (by omega) (by omega)) gL_areBlocks_X5_blockOf rfl ⟨rfl, rfl⟩ (by decide +kernel) ⟨Nat.le_of_ble_eq_true rfl, Nat.le_of_ble_eq_true rfl⟩ rfl rfl (Nat.le_of_ble_eq_true rfl) rfl dL_areBlocks_255 (z_dtI ?_)
                      refine z_iload E dL_areBlocks_258 rfl ?_
                      refine z_if_ge E 268 dL_areBlocks_260 rfl (by omega) (fun c_76 => ?_) (fun c_76 => ?_)
                      · skip
                        refine z_iload E dL_areBlocks_268 rfl ?_
                        refine z_icne_e E ((by first | exact (bo_4 hC.R hN hk0 (by omega) (by omega)).trans (fO_f (by omega)) | exact (bo_4 hC.R hN hk0 (by omega) (by omega)).trans (fO_t (by omega)))) dL_areBlocks_270 289 rfl ?_
                        refine z_aload_n E dL_areBlocks_273 0 rfl rfl ?_
                        refine z_iload E dL_areBlocks_274 rfl ?_
                        refine z_iconst E dL_areBlocks_276 ?_
                        refine z_callV E (ci := 5) (N := 4) (C := RX5) (T := TX5) (n := 2) (st := []) (rfl : vl G 10 0 = true) rfl rfl [.int (iI kz), .int (iI 5)] (kX5_blockOf l G P V kz 5 hC.w0 hB hC.n0 hC.n1 hC.L (by omega) (by omega)) gL_areBlocks_X5_blockOf rfl ⟨rfl, rfl⟩ (by decide +kernel) ⟨Nat.le_of_ble_eq_true rfl, Nat.le_of_ble_eq_true rfl⟩ rfl rfl (Nat.le_of_ble_eq_true rfl) rfl dL_areBlocks_277 (z_dtI ?_)
                        refine z_ldc E (-1000001) f0 rfl dL_areBlocks_280 ?_
                        refine z_icne_e E ((bo_5 hC.R hN hk0 (by omega) (by omega))) dL_areBlocks_282 289 rfl ?_
                        refine z_iconst E dL_areBlocks_285 ?_
                        refine z_goto E 290 dL_areBlocks_286 rfl ?_
                        refine z_istore E dL_areBlocks_290 (L' := [some (.ref (ad G 10 0)), some (.ref (ad G 16 0)), some (.ref (ad G 20 0)), some (.ref (ad G 21 0)), some (.ref (ad G 22 0)), some (.int (iI (sh + 1))), some (.int (iI 1)), some (.int (iI kz)), some (.int (iI su)), some (.int (iI se)), some (.int (iI (lkF (V 21 0) (V 22 0) (V 21 0 kz) (V 22 0 kz) kz))), none]) (Nat.le_of_ble_eq_true rfl) rfl ?_
                        refine z_iinc E kz dL_areBlocks_292 (L' := [some (.ref (ad G 10 0)), some (.ref (ad G 16 0)), some (.ref (ad G 20 0)), some (.ref (ad G 21 0)), some (.ref (ad G 22 0)), some (.int (iI (sh + 1))), some (.int (iI 1)), some (.int (iI (kz + 1))), some (.int (iI su)), some (.int (iI se)), some (.int (iI (lkF (V 21 0) (V 22 0) (V 21 0 kz) (V 22 0 kz) kz))), none]) (Nat.le_of_ble_eq_true rfl) rfl rfl ?_
                        refine z_goto E 36 dL_areBlocks_295 rfl ?_
                        refine Kz.drop 8 (L' := [some (.ref (ad G 10 0)), some (.ref (ad G 16 0)), some (.ref (ad G 20 0)), some (.ref (ad G 21 0)), some (.ref (ad G 22 0)), some (.int (iI (sh + 1))), some (.int (iI 1)), some (.int (iI (kz + 1))), none, some (.int (iI se)), some (.int (iI (lkF (V 21 0) (V 22 0) (V 21 0 kz) (V 22 0 kz) kz))), none]) rfl ?_
                        refine Kz.drop 9 (L' := [some (.ref (ad G 10 0)), some (.ref (ad G 16 0)), some (.ref (ad G 20 0)), some (.ref (ad G 21 0)), some (.ref (ad G 22 0)), some (.int (iI (sh + 1))), some (.int (iI 1)), some (.int (iI (kz + 1))), none, none, some (.int (iI (lkF (V 21 0) (V 22 0) (V 21 0 kz) (V 22 0 kz) kz))), none]) rfl ?_
                        refine Kz.drop 10 (L' := [some (.ref (ad G 10 0)), some (.ref (ad G 16 0)), some (.ref (ad G 20 0)), some (.ref (ad G 21 0)), some (.ref (ad G 22 0)), some (.int (iI (sh + 1))), some (.int (iI 1)), some (.int (iI (kz + 1))), none, none, none, none]) rfl ?_
                        exact ih_36 (sh + 1) (kz + 1) (by omega) (by omega) (by first | exact smb_t hs hk0 (by unfold pDb; omega) | exact smb_f hs hk0 (by unfold pDb; omega) | exact smb_f0 hs hk0 (by unfold pDb; omega)) (by omega)
                      · skip
                        refine z_ldc E (-1000004) f1 rfl dL_areBlocks_263 ?_
                        refine z_goto E 270 dL_areBlocks_265 rfl ?_
                        refine z_icne_e E ((by first | exact (bo_4 hC.R hN hk0 (by omega) (by omega)).trans (fO_f (by omega)) | exact (bo_4 hC.R hN hk0 (by omega) (by omega)).trans (fO_t (by omega)))) dL_areBlocks_270 289 rfl ?_
                        refine z_aload_n E dL_areBlocks_273 0 rfl rfl ?_
                        refine z_iload E dL_areBlocks_274 rfl ?_
                        refine z_iconst E dL_areBlocks_276 ?_
                        refine z_callV E (ci := 5) (N := 4) (C := RX5) (T := TX5) (n := 2) (st := []) (rfl : vl G 10 0 = true) rfl rfl [.int (iI kz), .int (iI 5)] (kX5_blockOf l G P V kz 5 hC.w0 hB hC.n0 hC.n1 hC.L (by omega) (by omega)) gL_areBlocks_X5_blockOf rfl ⟨rfl, rfl⟩ (by decide +kernel) ⟨Nat.le_of_ble_eq_true rfl, Nat.le_of_ble_eq_true rfl⟩ rfl rfl (Nat.le_of_ble_eq_true rfl) rfl dL_areBlocks_277 (z_dtI ?_)
                        refine z_ldc E (-1000001) f0 rfl dL_areBlocks_280 ?_
                        refine z_icne_e E ((bo_5 hC.R hN hk0 (by omega) (by omega))) dL_areBlocks_282 289 rfl ?_
                        refine z_iconst E dL_areBlocks_285 ?_
                        refine z_goto E 290 dL_areBlocks_286 rfl ?_
                        refine z_istore E dL_areBlocks_290 (L' := [some (.ref (ad G 10 0)), some (.ref (ad G 16 0)), some (.ref (ad G 20 0)), some (.ref (ad G 21 0)), some (.ref (ad G 22 0)), some (.int (iI (sh + 1))), some (.int (iI 1)), some (.int (iI kz)), some (.int (iI su)), some (.int (iI se)), some (.int (iI (lkF (V 21 0) (V 22 0) (V 21 0 kz) (V 22 0 kz) kz))), none]) (Nat.le_of_ble_eq_true rfl) rfl ?_
                        refine z_iinc E kz dL_areBlocks_292 (L' := [some (.ref (ad G 10 0)), some (.ref (ad G 16 0)), some (.ref (ad G 20 0)), some (.ref (ad G 21 0)), some (.ref (ad G 22 0)), some (.int (iI (sh + 1))), some (.int (iI 1)), some (.int (iI (kz + 1))), some (.int (iI su)), some (.int (iI se)), some (.int (iI (lkF (V 21 0) (V 22 0) (V 21 0 kz) (V 22 0 kz) kz))), none]) (Nat.le_of_ble_eq_true rfl) rfl rfl ?_
                        refine z_goto E 36 dL_areBlocks_295 rfl ?_
                        refine Kz.drop 8 (L' := [some (.ref (ad G 10 0)), some (.ref (ad G 16 0)), some (.ref (ad G 20 0)), some (.ref (ad G 21 0)), some (.ref (ad G 22 0)), some (.int (iI (sh + 1))), some (.int (iI 1)), some (.int (iI (kz + 1))), none, some (.int (iI se)), some (.int (iI (lkF (V 21 0) (V 22 0) (V 21 0 kz) (V 22 0 kz) kz))), none]) rfl ?_
                        refine Kz.drop 9 (L' := [some (.ref (ad G 10 0)), some (.ref (ad G 16 0)), some (.ref (ad G 20 0)), some (.ref (ad G 21 0)), some (.ref (ad G 22 0)), some (.int (iI (sh + 1))), some (.int (iI 1)), some (.int (iI (kz + 1))), none, none, some (.int (iI (lkF (V 21 0) (V 22 0) (V 21 0 kz) (V 22 0 kz) kz))), none]) rfl ?_
                        refine Kz.drop 10 (L' := [some (.ref (ad G 10 0)), some (.ref (ad G 16 0)), some (.ref (ad G 20 0)), some (.ref (ad G 21 0)), some (.ref (ad G 22 0)), some (.int (iI (sh + 1))), some (.int (iI 1)), some (.int (iI (kz + 1))), none, none, none, none]) rfl ?_
                        exact ih_36 (sh + 1) (kz + 1) (by omega) (by omega) (by first | exact smb_t hs hk0 (by unfold pDb; omega) | exact smb_f hs hk0 (by unfold pDb; omega) | exact smb_f0 hs hk0 (by unfold pDb; omega)) (by omega)
              · skip
                refine z_aload_n E dL_areBlocks_96 3 rfl rfl ?_
                refine z_aload E dL_areBlocks_97 rfl ?_
                refine z_iload E dL_areBlocks_99 rfl ?_
                refine z_iload E dL_areBlocks_101 rfl ?_
                refine z_callS E (n := 4) (st := []) [.ref (ad G 21 0), .ref (ad G 22 0), .int (iI kz), .int (iI c)] (kL_inBlock l G P V kz c (by omega) (by omega) (hN.va _) ⟨by omega, (hN.vb _).2⟩) gL_areBlocks_L_inBlock rfl ⟨rfl, rfl⟩ (by decide +kernel) ⟨Nat.le_of_ble_eq_true rfl, Nat.le_of_ble_eq_true rfl⟩ rfl rfl (Nat.le_of_ble_eq_true rfl) rfl dL_areBlocks_103 (z_dtI ?_)
                have hcb := cB_bd (a := V 21 0 kz) (b := V 22 0 kz) (c := c)
                refine z_istore E dL_areBlocks_106 (L' := [some (.ref (ad G 10 0)), some (.ref (ad G 16 0)), some (.ref (ad G 20 0)), some (.ref (ad G 21 0)), some (.ref (ad G 22 0)), some (.int (iI sh)), some (.int (iI 1)), some (.int (iI kz)), some (.int (iI su)), some (.int (iI se)), some (.int (iI c)), some (.int (iI (cB (V 21 0 kz) (V 22 0 kz) c)))]) (Nat.le_of_ble_eq_true rfl) rfl ?_
                refine z_iload E dL_areBlocks_108 rfl ?_
                refine z_iload E dL_areBlocks_110 rfl ?_
                refine z_iadd E dL_areBlocks_112 ?_
                refine z_istore E dL_areBlocks_113 (L' := [some (.ref (ad G 10 0)), some (.ref (ad G 16 0)), some (.ref (ad G 20 0)), some (.ref (ad G 21 0)), some (.ref (ad G 22 0)), some (.int (iI sh)), some (.int (iI 1)), some (.int (iI kz)), some (.int (iI (su + (cB (V 21 0 kz) (V 22 0 kz) c)))), some (.int (iI se)), some (.int (iI c)), some (.int (iI (cB (V 21 0 kz) (V 22 0 kz) c)))]) (Nat.le_of_ble_eq_true rfl) rfl ?_
                refine z_iload E dL_areBlocks_115 rfl ?_
                refine z_iload E dL_areBlocks_117 rfl ?_
                refine z_if_le E 129 dL_areBlocks_119 rfl (by omega) (fun c_84 => ?_) (fun c_84 => ?_)
                · skip
                  refine z_iconst E dL_areBlocks_129 ?_
                  refine z_ior0 E dL_areBlocks_130 ?_
                  refine z_istore E dL_areBlocks_131 (L' := [some (.ref (ad G 10 0)), some (.ref (ad G 16 0)), some (.ref (ad G 20 0)), some (.ref (ad G 21 0)), some (.ref (ad G 22 0)), some (.int (iI sh)), some (.int (iI 1)), some (.int (iI kz)), some (.int (iI (su + (cB (V 21 0 kz) (V 22 0 kz) c)))), some (.int (iI se)), some (.int (iI c)), some (.int (iI (cB (V 21 0 kz) (V 22 0 kz) c)))]) (Nat.le_of_ble_eq_true rfl) rfl ?_
                  refine z_iinc E c dL_areBlocks_133 (L' := [some (.ref (ad G 10 0)), some (.ref (ad G 16 0)), some (.ref (ad G 20 0)), some (.ref (ad G 21 0)), some (.ref (ad G 22 0)), some (.int (iI sh)), some (.int (iI 1)), some (.int (iI kz)), some (.int (iI (su + (cB (V 21 0 kz) (V 22 0 kz) c)))), some (.int (iI se)), some (.int (iI (c + 1))), some (.int (iI (cB (V 21 0 kz) (V 22 0 kz) c)))]) (Nat.le_of_ble_eq_true rfl) rfl rfl ?_
                  refine z_goto E 89 dL_areBlocks_136 rfl ?_
                  refine Kz.drop 11 (L' := [some (.ref (ad G 10 0)), some (.ref (ad G 16 0)), some (.ref (ad G 20 0)), some (.ref (ad G 21 0)), some (.ref (ad G 22 0)), some (.int (iI sh)), some (.int (iI 1)), some (.int (iI kz)), some (.int (iI (su + (cB (V 21 0 kz) (V 22 0 kz) c)))), some (.int (iI se)), some (.int (iI (c + 1))), none]) rfl ?_
                  exact ih_89 (su + (cB (V 21 0 kz) (V 22 0 kz) c)) se (c + 1) (by omega) (by omega) (by rw [sm_s hc0, ← hsu]) (by first | exact bits_t hse hc0 (by assumption) | exact bits_f hse hc0 (by omega)) (by omega)
                · skip
                  refine z_iconst E dL_areBlocks_122 ?_
                  refine z_iload E dL_areBlocks_123 rfl ?_
                  refine z_ishl E dL_areBlocks_125 (by omega) (by omega) ?_
                  refine z_goto E 130 dL_areBlocks_126 rfl ?_
                  refine z_iorS E dL_areBlocks_130 (by omega) (hsb.1) (hsb.2) ?_
                  refine z_istore E dL_areBlocks_131 (L' := [some (.ref (ad G 10 0)), some (.ref (ad G 16 0)), some (.ref (ad G 20 0)), some (.ref (ad G 21 0)), some (.ref (ad G 22 0)), some (.int (iI sh)), some (.int (iI 1)), some (.int (iI kz)), some (.int (iI (su + (cB (V 21 0 kz) (V 22 0 kz) c)))), some (.int (iI (se + (2 ^ c.toNat)))), some (.int (iI c)), some (.int (iI (cB (V 21 0 kz) (V 22 0 kz) c)))]) (Nat.le_of_ble_eq_true rfl) rfl ?_
                  refine z_iinc E c dL_areBlocks_133 (L' := [some (.ref (ad G 10 0)), some (.ref (ad G 16 0)), some (.ref (ad G 20 0)), some (.ref (ad G 21 0)), some (.ref (ad G 22 0)), some (.int (iI sh)), some (.int (iI 1)), some (.int (iI kz)), some (.int (iI (su + (cB (V 21 0 kz) (V 22 0 kz) c)))), some (.int (iI (se + (2 ^ c.toNat)))), some (.int (iI (c + 1))), some (.int (iI (cB (V 21 0 kz) (V 22 0 kz) c)))]) (Nat.le_of_ble_eq_true rfl) rfl rfl ?_
                  refine z_goto E 89 dL_areBlocks_136 rfl ?_
                  refine Kz.drop 11 (L' := [some (.ref (ad G 10 0)), some (.ref (ad G 16 0)), some (.ref (ad G 20 0)), some (.ref (ad G 21 0)), some (.ref (ad G 22 0)), some (.int (iI sh)), some (.int (iI 1)), some (.int (iI kz)), some (.int (iI (su + (cB (V 21 0 kz) (V 22 0 kz) c)))), some (.int (iI (se + (2 ^ c.toNat)))), some (.int (iI (c + 1))), none]) rfl ?_
                  exact ih_89 (su + (cB (V 21 0 kz) (V 22 0 kz) c)) (se + (2 ^ c.toNat)) (c + 1) (by omega) (by omega) (by rw [sm_s hc0, ← hsu]) (by first | exact bits_t hse hc0 (by assumption) | exact bits_f hse hc0 (by omega)) (by omega)
          exact lp_89_16 ((8 - 0 : Int).toNat + 1) 0 0 0 (by omega) (by omega) (sm_0 (by omega)).symm bits_0.symm (Nat.lt_succ_self _)
        · skip
          refine z_aload_n E dL_areBlocks_58 0 rfl rfl ?_
          refine z_iload E dL_areBlocks_59 rfl ?_
          refine z_iconst E dL_areBlocks_61 ?_
          refine z_callV E (ci := 5) (N := 4) (C := RX5) (T := TX5) (n := 2) (st := []) (rfl : vl G 10 0 = true) rfl rfl [.int (iI kz), .int (iI 0)] (kX5_blockOf l G P V kz 0 hC.w0 hB hC.n0 hC.n1 hC.L (by omega) (by omega)) gL_areBlocks_X5_blockOf rfl ⟨rfl, rfl⟩ (by decide +kernel) ⟨Nat.le_of_ble_eq_true rfl, Nat.le_of_ble_eq_true rfl⟩ rfl rfl (Nat.le_of_ble_eq_true rfl) rfl dL_areBlocks_62 (z_dtI ?_)
          refine z_ldc E (-1000001) f0 rfl dL_areBlocks_65 ?_
          refine z_icne_e E ((bo_none hC.R hN hk0 (by omega) (by omega))) dL_areBlocks_67 74 rfl ?_
          refine z_iconst E dL_areBlocks_70 ?_
          refine z_goto E 75 dL_areBlocks_71 rfl ?_
          refine z_istore E dL_areBlocks_75 (L' := [some (.ref (ad G 10 0)), some (.ref (ad G 16 0)), some (.ref (ad G 20 0)), some (.ref (ad G 21 0)), some (.ref (ad G 22 0)), some (.int (iI sh)), some (.int (iI 1)), some (.int (iI kz)), none, none, none, none]) (Nat.le_of_ble_eq_true rfl) rfl ?_
          refine z_goto E 292 dL_areBlocks_77 rfl ?_
          refine z_iinc E kz dL_areBlocks_292 (L' := [some (.ref (ad G 10 0)), some (.ref (ad G 16 0)), some (.ref (ad G 20 0)), some (.ref (ad G 21 0)), some (.ref (ad G 22 0)), some (.int (iI sh)), some (.int (iI 1)), some (.int (iI (kz + 1))), none, none, none, none]) (Nat.le_of_ble_eq_true rfl) rfl rfl ?_
          refine z_goto E 36 dL_areBlocks_295 rfl ?_
          exact ih_36 sh (kz + 1) (by omega) (by omega) (by first | exact smb_t hs hk0 (by unfold pDb; omega) | exact smb_f hs hk0 (by unfold pDb; omega) | exact smb_f0 hs hk0 (by unfold pDb; omega)) (by omega)
  exact lp_36_5 ((40 - 0 : Int).toNat + 1) 0 0 (by omega) (by omega) (sm_0 (by omega)).symm (Nat.lt_succ_self _)

set_option maxHeartbeats 4000000 in
set_option maxRecDepth 100000 in
theorem kL_areStates (l : Launch) (G : Gl) (P : Nat → Nat) (V : Vt) (s : Int → Int) (hC : LC P V s) (hN : LN V s) : Met l yL_areStates wsL_areStates ({ frames := 5, cells := 0, slots := 0, locals := 116 }) (va_Pc [.ref (ad G 10 0), .ref (ad G 16 0), .ref (ad G 17 0), .ref (ad G 18 0), .ref (ad G 19 0), .ref (ad G 20 0), .ref (ad G 21 0), .ref (ad G 22 0)] (Sg G P V)) (Qk G mkI (fun r P' V' => r = 1 ∧ P' = P ∧ V' = V)) 0 0 (mem G) := by
  refine z_met (cc := cL_areStates) (nL := 21) (ret := (some .boolean)) (own := RL) (by decide +kernel) rfl rfl (Nat.le_of_ble_eq_true rfl) (L := [some (.ref (ad G 10 0)), some (.ref (ad G 16 0)), some (.ref (ad G 17 0)), some (.ref (ad G 18 0)), some (.ref (ad G 19 0)), some (.ref (ad G 20 0)), some (.ref (ad G 21 0)), some (.ref (ad G 22 0)), none, none, none, none, none, none, none, none, none, none, none, none, none]) rfl ?_
  intro X E Er0
  have f0 : Cond.constant RL 127 (-1000004) ∈ wsL_areStates := by decide +kernel
  have f1 : Cond.constant RL 84 (-1000001) ∈ wsL_areStates := by decide +kernel
  have hB := hC.B
  have hM := hC.M
  have hz := hM.z
  have g0 := hN.g0
  have ms1 := hM.s1
  have sb := hC.s1
  have g1 := hN.g 1 (by omega) (by omega)
  refine z_aload_n E dL_areStates_0 0 rfl rfl ?_
  refine z_aload_n E dL_areStates_1 1 rfl rfl ?_
  refine z_iconst E dL_areStates_2 ?_
  refine z_iald E (rfl : vl G 16 0 = true) 6 rfl (by omega) (by omega) (by omega) dL_areStates_3 ?_
  refine z_callV E (ci := 5) (N := 4) (C := RX5) (T := TX5) (n := 1) (st := []) (rfl : vl G 10 0 = true) rfl rfl [.int (iI (V 16 0 0))] (kX5_number l G P V (V 16 0 0) hC.w0 hB hC.n0 hC.n1 (by omega)) gL_areStates_X5_number rfl ⟨rfl, rfl⟩ (by decide +kernel) ⟨Nat.le_of_ble_eq_true rfl, Nat.le_of_ble_eq_true rfl⟩ rfl rfl (Nat.le_of_ble_eq_true rfl) rfl dL_areStates_4 (z_dtI ?_)
  refine z_ldc E (-1000004) f0 rfl dL_areStates_7 ?_
  refine z_icne_e E ((by have e := nu_end hC.R; rw [← g0] at e; exact e)) dL_areStates_9 39 rfl ?_
  refine z_aload_n E dL_areStates_12 0 rfl rfl ?_
  refine z_iconst E dL_areStates_13 ?_
  refine z_callV E (ci := 5) (N := 4) (C := RX5) (T := TX5) (n := 1) (st := []) (rfl : vl G 10 0 = true) rfl rfl [.int (iI (-1))] (kX5_number l G P V (-1) hC.w0 hB hC.n0 hC.n1 (by omega)) gL_areStates_X5_number rfl ⟨rfl, rfl⟩ (by decide +kernel) ⟨Nat.le_of_ble_eq_true rfl, Nat.le_of_ble_eq_true rfl⟩ rfl rfl (Nat.le_of_ble_eq_true rfl) rfl dL_areStates_14 (z_dtI ?_)
  refine z_ldc E (-1000001) f1 rfl dL_areStates_17 ?_
  refine z_icne_e E ((nu_neg (V := V) (w := P 0))) dL_areStates_19 39 rfl ?_
  refine z_aload_n E dL_areStates_22 0 rfl rfl ?_
  refine z_aload_n E dL_areStates_23 1 rfl rfl ?_
  refine z_iconst E dL_areStates_24 ?_
  refine z_iald E (rfl : vl G 16 0 = true) 6 rfl (by omega) (by omega) (by omega) dL_areStates_25 ?_
  refine z_iconst E dL_areStates_26 ?_
  refine z_callV E (ci := 5) (N := 4) (C := RX5) (T := TX5) (n := 2) (st := []) (rfl : vl G 10 0 = true) rfl rfl [.int (iI (V 16 0 1)), .int (iI 0)] (kX5_stateOf l G P V (V 16 0 1) 0 hC.w0 hB hC.n0 hC.n1 hC.L hC.ps (by omega) (by omega)) gL_areStates_X5_stateOf rfl ⟨rfl, rfl⟩ (by decide +kernel) ⟨Nat.le_of_ble_eq_true rfl, Nat.le_of_ble_eq_true rfl⟩ rfl rfl (Nat.le_of_ble_eq_true rfl) rfl dL_areStates_27 (z_dtI ?_)
  refine z_ldc E (-1000001) f1 rfl dL_areStates_30 ?_
  refine z_icne_e E ((by have e := so_none hC.R; rw [← g1] at e; exact e)) dL_areStates_32 39 rfl ?_
  refine z_iconst E dL_areStates_35 ?_
  refine z_goto E 40 dL_areStates_36 rfl ?_
  refine z_istore E dL_areStates_40 (L' := [some (.ref (ad G 10 0)), some (.ref (ad G 16 0)), some (.ref (ad G 17 0)), some (.ref (ad G 18 0)), some (.ref (ad G 19 0)), some (.ref (ad G 20 0)), some (.ref (ad G 21 0)), some (.ref (ad G 22 0)), some (.int (iI 1)), none, none, none, none, none, none, none, none, none, none, none, none]) (Nat.le_of_ble_eq_true rfl) rfl ?_
  refine z_iconst E dL_areStates_42 ?_
  refine z_istore E dL_areStates_43 (L' := [some (.ref (ad G 10 0)), some (.ref (ad G 16 0)), some (.ref (ad G 17 0)), some (.ref (ad G 18 0)), some (.ref (ad G 19 0)), some (.ref (ad G 20 0)), some (.ref (ad G 21 0)), some (.ref (ad G 22 0)), some (.int (iI 1)), some (.int (iI 0)), none, none, none, none, none, none, none, none, none, none, none]) (Nat.le_of_ble_eq_true rfl) rfl ?_
  have lp_45_7 : ∀ (fuel : Nat) (kz : Int), (0 ≤ kz) → (kz ≤ s 0) → (s 0 - kz : Int).toNat < fuel → Kz X G P V 0 0 [some (.ref (ad G 10 0)), some (.ref (ad G 16 0)), some (.ref (ad G 17 0)), some (.ref (ad G 18 0)), some (.ref (ad G 19 0)), some (.ref (ad G 20 0)), some (.ref (ad G 21 0)), some (.ref (ad G 22 0)), some (.int (iI 1)), some (.int (iI kz)), none, none, none, none, none, none, none, none, none, none, none] 45 [] := by
    intro fuel
    induction fuel with
    | zero => intro kz hk0 hk1 hf_45; exact absurd hf_45 (Nat.not_lt_zero _)
    | succ fuel ih_45 =>
      intro kz hk0 hk1 hf_45
      refine z_iload E dL_areStates_45 rfl ?_
      refine z_aload_n E dL_areStates_47 1 rfl rfl ?_
      refine z_iconst E dL_areStates_48 ?_
      refine z_iald E (rfl : vl G 16 0 = true) 6 rfl (by omega) (by omega) (by omega) dL_areStates_49 ?_
      refine z_icmp_ge E 645 dL_areStates_50 rfl (by omega) (by omega) (fun c_8 => ?_) (fun c_8 => ?_)
      · skip
        refine z_iload E dL_areStates_645 rfl ?_
        exact z_zret E Er0 dL_areStates_647 (by first | decide | omega) (⟨rfl, rfl, rfl⟩)
      · skip
        refine z_iload E dL_areStates_53 rfl ?_
        refine z_if_eq E 645 dL_areStates_55 rfl (by omega) (fun c => absurd c (by decide)) (fun _ => ?_)
        have k1 : kz < s 0 := by omega
        have nk := hN.n kz hk0 k1
        have xk := hN.st hM hk0 (show kz < V 16 0 0 by omega)
        refine z_iconst E dL_areStates_58 ?_
        refine z_istore E dL_areStates_59 (L' := [some (.ref (ad G 10 0)), some (.ref (ad G 16 0)), some (.ref (ad G 17 0)), some (.ref (ad G 18 0)), some (.ref (ad G 19 0)), some (.ref (ad G 20 0)), some (.ref (ad G 21 0)), some (.ref (ad G 22 0)), some (.int (iI 1)), some (.int (iI kz)), some (.int (iI 0)), none, none, none, none, none, none, none, none, none, none]) (Nat.le_of_ble_eq_true rfl) rfl ?_
        refine z_iconst E dL_areStates_61 ?_
        refine z_istore E dL_areStates_62 (L' := [some (.ref (ad G 10 0)), some (.ref (ad G 16 0)), some (.ref (ad G 17 0)), some (.ref (ad G 18 0)), some (.ref (ad G 19 0)), some (.ref (ad G 20 0)), some (.ref (ad G 21 0)), some (.ref (ad G 22 0)), some (.int (iI 1)), some (.int (iI kz)), some (.int (iI 0)), some (.int (iI 0)), none, none, none, none, none, none, none, none, none]) (Nat.le_of_ble_eq_true rfl) rfl ?_
        refine z_iconst E dL_areStates_64 ?_
        refine z_istore E dL_areStates_65 (L' := [some (.ref (ad G 10 0)), some (.ref (ad G 16 0)), some (.ref (ad G 17 0)), some (.ref (ad G 18 0)), some (.ref (ad G 19 0)), some (.ref (ad G 20 0)), some (.ref (ad G 21 0)), some (.ref (ad G 22 0)), some (.int (iI 1)), some (.int (iI kz)), some (.int (iI 0)), some (.int (iI 0)), some (.int (iI 0)), none, none, none, none, none, none, none, none]) (Nat.le_of_ble_eq_true rfl) rfl ?_
        refine z_iconst E dL_areStates_67 ?_
        refine z_istore E dL_areStates_68 (L' := [some (.ref (ad G 10 0)), some (.ref (ad G 16 0)), some (.ref (ad G 17 0)), some (.ref (ad G 18 0)), some (.ref (ad G 19 0)), some (.ref (ad G 20 0)), some (.ref (ad G 21 0)), some (.ref (ad G 22 0)), some (.int (iI 1)), some (.int (iI kz)), some (.int (iI 0)), some (.int (iI 0)), some (.int (iI 0)), some (.int (iI 0)), none, none, none, none, none, none, none]) (Nat.le_of_ble_eq_true rfl) rfl ?_
        refine z_iconst E dL_areStates_70 ?_
        refine z_istore E dL_areStates_71 (L' := [some (.ref (ad G 10 0)), some (.ref (ad G 16 0)), some (.ref (ad G 17 0)), some (.ref (ad G 18 0)), some (.ref (ad G 19 0)), some (.ref (ad G 20 0)), some (.ref (ad G 21 0)), some (.ref (ad G 22 0)), some (.int (iI 1)), some (.int (iI kz)), some (.int (iI 0)), some (.int (iI 0)), some (.int (iI 0)), some (.int (iI 0)), some (.int (iI 0)), none, none, none, none, none, none]) (Nat.le_of_ble_eq_true rfl) rfl ?_
        refine z_iconst E dL_areStates_73 ?_
        refine z_istore E dL_areStates_74 (L' := [some (.ref (ad G 10 0)), some (.ref (ad G 16 0)), some (.ref (ad G 17 0)), some (.ref (ad G 18 0)), some (.ref (ad G 19 0)), some (.ref (ad G 20 0)), some (.ref (ad G 21 0)), some (.ref (ad G 22 0)), some (.int (iI 1)), some (.int (iI kz)), some (.int (iI 0)), some (.int (iI 0)), some (.int (iI 0)), some (.int (iI 0)), some (.int (iI 0)), some (.int (iI 0)), none, none, none, none, none]) (Nat.le_of_ble_eq_true rfl) rfl ?_
        refine z_iconst E dL_areStates_76 ?_
        refine z_istore E dL_areStates_77 (L' := [some (.ref (ad G 10 0)), some (.ref (ad G 16 0)), some (.ref (ad G 17 0)), some (.ref (ad G 18 0)), some (.ref (ad G 19 0)), some (.ref (ad G 20 0)), some (.ref (ad G 21 0)), some (.ref (ad G 22 0)), some (.int (iI 1)), some (.int (iI kz)), some (.int (iI 0)), some (.int (iI 0)), some (.int (iI 0)), some (.int (iI 0)), some (.int (iI 0)), some (.int (iI 0)), some (.int (iI 0)), none, none, none, none]) (Nat.le_of_ble_eq_true rfl) rfl ?_
        refine z_iconst E dL_areStates_79 ?_
        refine z_istore E dL_areStates_80 (L' := [some (.ref (ad G 10 0)), some (.ref (ad G 16 0)), some (.ref (ad G 17 0)), some (.ref (ad G 18 0)), some (.ref (ad G 19 0)), some (.ref (ad G 20 0)), some (.ref (ad G 21 0)), some (.ref (ad G 22 0)), some (.int (iI 1)), some (.int (iI kz)), some (.int (iI 0)), some (.int (iI 0)), some (.int (iI 0)), some (.int (iI 0)), some (.int (iI 0)), some (.int (iI 0)), some (.int (iI 0)), some (.int (iI 0)), none, none, none]) (Nat.le_of_ble_eq_true rfl) rfl ?_
        have lp_82_10 : ∀ (fuel : Nat) (ch : Int) (i : Int), (0 ≤ i) → (i ≤ s 0) → (ch = sm i (fun j => b2i (V 19 0 j = V 18 0 kz))) → (s 0 - i : Int).toNat < fuel → Kz X G P V 0 0 [some (.ref (ad G 10 0)), some (.ref (ad G 16 0)), some (.ref (ad G 17 0)), some (.ref (ad G 18 0)), some (.ref (ad G 19 0)), some (.ref (ad G 20 0)), some (.ref (ad G 21 0)), some (.ref (ad G 22 0)), some (.int (iI 1)), some (.int (iI kz)), some (.int (iI ch)), some (.int (iI 0)), some (.int (iI 0)), some (.int (iI 0)), some (.int (iI 0)), some (.int (iI 0)), some (.int (iI 0)), some (.int (iI i)), none, none, none] 82 [] := by
          intro fuel
          induction fuel with
          | zero => intro ch i hi0 hi1 hch hf_82; exact absurd hf_82 (Nat.not_lt_zero _)
          | succ fuel ih_82 =>
            intro ch i hi0 hi1 hch hf_82
            refine z_iload E dL_areStates_82 rfl ?_
            refine z_aload_n E dL_areStates_84 1 rfl rfl ?_
            refine z_iconst E dL_areStates_85 ?_
            refine z_iald E (rfl : vl G 16 0 = true) 6 rfl (by omega) (by omega) (by omega) dL_areStates_86 ?_
            refine z_icmp_ge E 118 dL_areStates_87 rfl (by omega) (by omega) (fun c_11 => ?_) (fun c_11 => ?_)
            · skip
              refine z_aload_n E dL_areStates_118 3 rfl rfl ?_
              refine z_iload E dL_areStates_119 rfl ?_
              refine z_iald E (rfl : vl G 18 0 = true) 16 rfl (by omega) (by omega) (by omega) dL_areStates_121 ?_
              have hr_12 := hB.g 18 0 kz rfl
              refine z_istore E dL_areStates_122 (L' := [some (.ref (ad G 10 0)), some (.ref (ad G 16 0)), some (.ref (ad G 17 0)), some (.ref (ad G 18 0)), some (.ref (ad G 19 0)), some (.ref (ad G 20 0)), some (.ref (ad G 21 0)), some (.ref (ad G 22 0)), some (.int (iI 1)), some (.int (iI kz)), some (.int (iI ch)), some (.int (iI 0)), some (.int (iI 0)), some (.int (iI 0)), some (.int (iI 0)), some (.int (iI 0)), some (.int (iI 0)), some (.int (iI (V 18 0 kz))), none, none, none]) (Nat.le_of_ble_eq_true rfl) rfl ?_
              have lp_124_13 : ∀ (fuel : Nat) (st : Int) (x : Int), (STx s (V 18 0 kz) st x) → (mS s x : Int).toNat < fuel → Kz X G P V 0 0 [some (.ref (ad G 10 0)), some (.ref (ad G 16 0)), some (.ref (ad G 17 0)), some (.ref (ad G 18 0)), some (.ref (ad G 19 0)), some (.ref (ad G 20 0)), some (.ref (ad G 21 0)), some (.ref (ad G 22 0)), some (.int (iI 1)), some (.int (iI kz)), some (.int (iI ch)), some (.int (iI st)), some (.int (iI 0)), some (.int (iI 0)), some (.int (iI 0)), some (.int (iI 0)), some (.int (iI 0)), some (.int (iI x)), none, none, none] 124 [] := by
                intro fuel
                induction fuel with
                | zero => intro st x hst hf_124; exact absurd hf_124 (Nat.not_lt_zero _)
                | succ fuel ih_124 =>
                  intro st x hst hf_124
                  have hx := hst.1
                  have rx := hst.2.1
                  have r2 := hst.2.2.1
                  have lx := mS_in hx
                  refine z_iload E dL_areStates_124 rfl ?_
                  refine z_if_le E 147 dL_areStates_126 rfl (by omega) (fun c_14 => ?_) (fun c_14 => ?_)
                  · skip
                    refine z_iconst E dL_areStates_147 ?_
                    refine z_istore E dL_areStates_148 (L' := [some (.ref (ad G 10 0)), some (.ref (ad G 16 0)), some (.ref (ad G 17 0)), some (.ref (ad G 18 0)), some (.ref (ad G 19 0)), some (.ref (ad G 20 0)), some (.ref (ad G 21 0)), some (.ref (ad G 22 0)), some (.int (iI 1)), some (.int (iI kz)), some (.int (iI ch)), some (.int (iI st)), some (.int (iI 0)), some (.int (iI 0)), some (.int (iI 0)), some (.int (iI 0)), some (.int (iI 0)), some (.int (iI 0)), none, none, none]) (Nat.le_of_ble_eq_true rfl) rfl ?_
                    have lp_150_15 : ∀ (fuel : Nat) (ot : Int) (ow : Int) (un : Int) (q : Int), (0 ≤ q) → (q ≤ 6) → (ot = sm q (fun p => b2i (0 < kz ∧ ¬ mo s kz (2 + p) = mo s (mS s (mo s kz 1)) (2 + p)))) → (ow = sm q (fun p => b2i (lU (V 16 0 0) (V 20 0) 1 (mo s kz (2 + p)) = 1))) → (un = sm q (fun p => b2i (∀ e, 0 ≤ e → e < p → ¬ mo s kz (2 + e) = mo s kz (2 + p)))) → (6 - q : Int).toNat < fuel → Kz X G P V 0 0 [some (.ref (ad G 10 0)), some (.ref (ad G 16 0)), some (.ref (ad G 17 0)), some (.ref (ad G 18 0)), some (.ref (ad G 19 0)), some (.ref (ad G 20 0)), some (.ref (ad G 21 0)), some (.ref (ad G 22 0)), some (.int (iI 1)), some (.int (iI kz)), some (.int (iI ch)), some (.int (iI st)), some (.int (iI 0)), some (.int (iI ot)), some (.int (iI ow)), some (.int (iI un)), some (.int (iI 0)), some (.int (iI q)), none, none, none] 150 [] := by
                      intro fuel
                      induction fuel with
                      | zero => intro ot ow un q hq0 hq1 ho hw hu hf_150; exact absurd hf_150 (Nat.not_lt_zero _)
                      | succ fuel ih_150 =>
                        intro ot ow un q hq0 hq1 ho hw hu hf_150
                        refine z_iload E dL_areStates_150 rfl ?_
                        refine z_bipush E dL_areStates_152 rfl ?_
                        refine z_icmp_ge E 321 dL_areStates_154 rfl (by omega) (by omega) (fun c_16 => ?_) (fun c_16 => ?_)
                        · skip
                          refine z_iconst E dL_areStates_321 ?_
                          refine z_istore E dL_areStates_322 (L' := [some (.ref (ad G 10 0)), some (.ref (ad G 16 0)), some (.ref (ad G 17 0)), some (.ref (ad G 18 0)), some (.ref (ad G 19 0)), some (.ref (ad G 20 0)), some (.ref (ad G 21 0)), some (.ref (ad G 22 0)), some (.int (iI 1)), some (.int (iI kz)), some (.int (iI ch)), some (.int (iI st)), some (.int (iI 0)), some (.int (iI ot)), some (.int (iI ow)), some (.int (iI un)), some (.int (iI 0)), some (.int (iI 0)), none, none, none]) (Nat.le_of_ble_eq_true rfl) rfl ?_
                          have lp_324_17 : ∀ (fuel : Nat) (su : Int) (c : Int), (0 ≤ c) → (c ≤ 48) → (su = sm c (fun c => mc s kz c)) → (48 - c : Int).toNat < fuel → Kz X G P V 0 0 [some (.ref (ad G 10 0)), some (.ref (ad G 16 0)), some (.ref (ad G 17 0)), some (.ref (ad G 18 0)), some (.ref (ad G 19 0)), some (.ref (ad G 20 0)), some (.ref (ad G 21 0)), some (.ref (ad G 22 0)), some (.int (iI 1)), some (.int (iI kz)), some (.int (iI ch)), some (.int (iI st)), some (.int (iI su)), some (.int (iI ot)), some (.int (iI ow)), some (.int (iI un)), some (.int (iI 0)), some (.int (iI c)), none, none, none] 324 [] := by
                            intro fuel
                            induction fuel with
                            | zero => intro su c hc0 hc1 hsu hf_324; exact absurd hf_324 (Nat.not_lt_zero _)
                            | succ fuel ih_324 =>
                              intro su c hc0 hc1 hsu hf_324
                              refine z_iload E dL_areStates_324 rfl ?_
                              refine z_bipush E dL_areStates_326 rfl ?_
                              refine z_icmp_ge E 393 dL_areStates_328 rfl (by omega) (by omega) (fun c_18 => ?_) (fun c_18 => ?_)
                              · skip
                                refine z_iconst E dL_areStates_393 ?_
                                refine z_istore E dL_areStates_394 (L' := [some (.ref (ad G 10 0)), some (.ref (ad G 16 0)), some (.ref (ad G 17 0)), some (.ref (ad G 18 0)), some (.ref (ad G 19 0)), some (.ref (ad G 20 0)), some (.ref (ad G 21 0)), some (.ref (ad G 22 0)), some (.int (iI 1)), some (.int (iI kz)), some (.int (iI ch)), some (.int (iI st)), some (.int (iI su)), some (.int (iI ot)), some (.int (iI ow)), some (.int (iI un)), some (.int (iI 0)), some (.int (iI 0)), none, none, none]) (Nat.le_of_ble_eq_true rfl) rfl ?_
                                have lp_396_19 : ∀ (fuel : Nat) (se : Int) (b : Int), (0 ≤ b) → (b ≤ 4) → (se = bits b (fun b => V 17 0 b = V 18 0 kz)) → (4 - b : Int).toNat < fuel → Kz X G P V 0 0 [some (.ref (ad G 10 0)), some (.ref (ad G 16 0)), some (.ref (ad G 17 0)), some (.ref (ad G 18 0)), some (.ref (ad G 19 0)), some (.ref (ad G 20 0)), some (.ref (ad G 21 0)), some (.ref (ad G 22 0)), some (.int (iI 1)), some (.int (iI kz)), some (.int (iI ch)), some (.int (iI st)), some (.int (iI su)), some (.int (iI ot)), some (.int (iI ow)), some (.int (iI un)), some (.int (iI se)), some (.int (iI b)), none, none, none] 396 [] := by
                                  intro fuel
                                  induction fuel with
                                  | zero => intro se b hb0 hb1 hse hf_396; exact absurd hf_396 (Nat.not_lt_zero _)
                                  | succ fuel ih_396 =>
                                    intro se b hb0 hb1 hse hf_396
                                    have hsb := bits_bd (fun b => V 17 0 b = V 18 0 kz) hb0
                                    rw [← hse] at hsb
                                    refine z_iload E dL_areStates_396 rfl ?_
                                    refine z_iconst E dL_areStates_398 ?_
                                    refine z_icmp_ge E 432 dL_areStates_399 rfl (by omega) (by omega) (fun c_20 => ?_) (fun c_20 => ?_)
                                    · skip
                                      refine z_iload E dL_areStates_432 rfl ?_
                                      refine z_if_eq E 636 dL_areStates_434 rfl (by omega) (fun c => absurd c (by decide)) (fun _ => ?_)
                                      refine z_aload_n E dL_areStates_437 0 rfl rfl ?_
                                      refine z_iload E dL_areStates_438 rfl ?_
                                      refine z_callV E (ci := 5) (N := 4) (C := RX5) (T := TX5) (n := 1) (st := []) (rfl : vl G 10 0 = true) rfl rfl [.int (iI kz)] (kX5_number l G P V kz hC.w0 hB hC.n0 hC.n1 (by omega)) gL_areStates_X5_number rfl ⟨rfl, rfl⟩ (by decide +kernel) ⟨Nat.le_of_ble_eq_true rfl, Nat.le_of_ble_eq_true rfl⟩ rfl rfl (Nat.le_of_ble_eq_true rfl) rfl dL_areStates_440 (z_dtI ?_)
                                      refine z_aload_n E dL_areStates_443 3 rfl rfl ?_
                                      refine z_iload E dL_areStates_444 rfl ?_
                                      refine z_iald E (rfl : vl G 18 0 = true) 16 rfl (by omega) (by omega) (by omega) dL_areStates_446 ?_
                                      refine z_icne_e E ((nu_at hC.R hN hk0 k1)) dL_areStates_447 636 rfl ?_
                                      refine z_aload_n E dL_areStates_450 0 rfl rfl ?_
                                      refine z_aload_n E dL_areStates_451 3 rfl rfl ?_
                                      refine z_iload E dL_areStates_452 rfl ?_
                                      refine z_iald E (rfl : vl G 18 0 = true) 16 rfl (by omega) (by omega) (by omega) dL_areStates_454 ?_
                                      refine z_iconst E dL_areStates_455 ?_
                                      refine z_callV E (ci := 5) (N := 4) (C := RX5) (T := TX5) (n := 2) (st := []) (rfl : vl G 10 0 = true) rfl rfl [.int (iI (V 18 0 kz)), .int (iI 0)] (kX5_stateOf l G P V (V 18 0 kz) 0 hC.w0 hB hC.n0 hC.n1 hC.L hC.ps (by omega) (by omega)) gL_areStates_X5_stateOf rfl ⟨rfl, rfl⟩ (by decide +kernel) ⟨Nat.le_of_ble_eq_true rfl, Nat.le_of_ble_eq_true rfl⟩ rfl rfl (Nat.le_of_ble_eq_true rfl) rfl dL_areStates_456 (z_dtI ?_)
                                      refine z_iload E dL_areStates_459 rfl ?_
                                      refine z_if_ne E 469 dL_areStates_461 rfl (by omega) (fun c_25 => ?_) (fun c_25 => ?_)
                                      · skip
                                        refine z_aload E dL_areStates_469 rfl ?_
                                        refine z_iload E dL_areStates_471 rfl ?_
                                        refine z_iald E (rfl : vl G 19 0 = true) 16 rfl (by omega) (by omega) (by omega) dL_areStates_473 ?_
                                        have hr_26 := hB.g 19 0 kz rfl
                                        refine z_icne_e E ((by first | exact (so_0 hC.R hN hk0 k1).1 (by omega) | exact (so_0 hC.R hN hk0 k1).2 (by omega))) dL_areStates_474 636 rfl ?_
                                        refine z_aload_n E dL_areStates_477 0 rfl rfl ?_
                                        refine z_aload_n E dL_areStates_478 3 rfl rfl ?_
                                        refine z_iload E dL_areStates_479 rfl ?_
                                        refine z_iald E (rfl : vl G 18 0 = true) 16 rfl (by omega) (by omega) (by omega) dL_areStates_481 ?_
                                        refine z_iconst E dL_areStates_482 ?_
                                        refine z_callV E (ci := 5) (N := 4) (C := RX5) (T := TX5) (n := 2) (st := []) (rfl : vl G 10 0 = true) rfl rfl [.int (iI (V 18 0 kz)), .int (iI 1)] (kX5_stateOf l G P V (V 18 0 kz) 1 hC.w0 hB hC.n0 hC.n1 hC.L hC.ps (by omega) (by omega)) gL_areStates_X5_stateOf rfl ⟨rfl, rfl⟩ (by decide +kernel) ⟨Nat.le_of_ble_eq_true rfl, Nat.le_of_ble_eq_true rfl⟩ rfl rfl (Nat.le_of_ble_eq_true rfl) rfl dL_areStates_483 (z_dtI ?_)
                                        refine z_iload E dL_areStates_486 rfl ?_
                                        refine z_icne_e E (((so_1 hC.R hN hk0 k1).trans (by rw [hch, show i = V 16 0 0 by omega]))) dL_areStates_488 636 rfl ?_
                                        refine z_aload_n E dL_areStates_491 0 rfl rfl ?_
                                        refine z_aload_n E dL_areStates_492 3 rfl rfl ?_
                                        refine z_iload E dL_areStates_493 rfl ?_
                                        refine z_iald E (rfl : vl G 18 0 = true) 16 rfl (by omega) (by omega) (by omega) dL_areStates_495 ?_
                                        refine z_iconst E dL_areStates_496 ?_
                                        refine z_callV E (ci := 5) (N := 4) (C := RX5) (T := TX5) (n := 2) (st := []) (rfl : vl G 10 0 = true) rfl rfl [.int (iI (V 18 0 kz)), .int (iI 2)] (kX5_stateOf l G P V (V 18 0 kz) 2 hC.w0 hB hC.n0 hC.n1 hC.L hC.ps (by omega) (by omega)) gL_areStates_X5_stateOf rfl ⟨rfl, rfl⟩ (by decide +kernel) ⟨Nat.le_of_ble_eq_true rfl, Nat.le_of_ble_eq_true rfl⟩ rfl rfl (Nat.le_of_ble_eq_true rfl) rfl dL_areStates_497 (z_dtI ?_)
                                        refine z_iload E dL_areStates_500 rfl ?_
                                        refine z_icne_e E (((so_2 hC.R hN hk0 k1).trans (STx_e hst (by omega)).symm)) dL_areStates_502 636 rfl ?_
                                        refine z_aload_n E dL_areStates_505 0 rfl rfl ?_
                                        refine z_aload_n E dL_areStates_506 3 rfl rfl ?_
                                        refine z_iload E dL_areStates_507 rfl ?_
                                        refine z_iald E (rfl : vl G 18 0 = true) 16 rfl (by omega) (by omega) (by omega) dL_areStates_509 ?_
                                        refine z_iconst E dL_areStates_510 ?_
                                        refine z_callV E (ci := 5) (N := 4) (C := RX5) (T := TX5) (n := 2) (st := []) (rfl : vl G 10 0 = true) rfl rfl [.int (iI (V 18 0 kz)), .int (iI 3)] (kX5_stateOf l G P V (V 18 0 kz) 3 hC.w0 hB hC.n0 hC.n1 hC.L hC.ps (by omega) (by omega)) gL_areStates_X5_stateOf rfl ⟨rfl, rfl⟩ (by decide +kernel) ⟨Nat.le_of_ble_eq_true rfl, Nat.le_of_ble_eq_true rfl⟩ rfl rfl (Nat.le_of_ble_eq_true rfl) rfl dL_areStates_511 (z_dtI ?_)
                                        refine z_iload E dL_areStates_514 rfl ?_
                                        refine z_icne_e E (((so_3 hC.R hN hk0 k1).trans (by rw [hsu, show c = 48 by omega]))) dL_areStates_516 636 rfl ?_
                                        refine z_aload_n E dL_areStates_519 0 rfl rfl ?_
                                        refine z_aload_n E dL_areStates_520 3 rfl rfl ?_
                                        refine z_iload E dL_areStates_521 rfl ?_
                                        refine z_iald E (rfl : vl G 18 0 = true) 16 rfl (by omega) (by omega) (by omega) dL_areStates_523 ?_
                                        refine z_iconst E dL_areStates_524 ?_
                                        refine z_callV E (ci := 5) (N := 4) (C := RX5) (T := TX5) (n := 2) (st := []) (rfl : vl G 10 0 = true) rfl rfl [.int (iI (V 18 0 kz)), .int (iI 4)] (kX5_stateOf l G P V (V 18 0 kz) 4 hC.w0 hB hC.n0 hC.n1 hC.L hC.ps (by omega) (by omega)) gL_areStates_X5_stateOf rfl ⟨rfl, rfl⟩ (by decide +kernel) ⟨Nat.le_of_ble_eq_true rfl, Nat.le_of_ble_eq_true rfl⟩ rfl rfl (Nat.le_of_ble_eq_true rfl) rfl dL_areStates_525 (z_dtI ?_)
                                        refine z_iload E dL_areStates_528 rfl ?_
                                        refine z_if_ne E 538 dL_areStates_530 rfl (by omega) (fun c_35 => ?_) (fun c_35 => ?_)
                                        · skip
                                          refine z_iload E dL_areStates_538 rfl ?_
                                          refine z_icne_e E ((by first | exact (so_4 hC.R hN hk0 k1).1 (by omega) | exact ((so_4 hC.R hN hk0 k1).2 (by omega)).trans (by rw [ho, show q = 6 by omega]))) dL_areStates_540 636 rfl ?_
                                          refine z_aload_n E dL_areStates_543 0 rfl rfl ?_
                                          refine z_aload_n E dL_areStates_544 3 rfl rfl ?_
                                          refine z_iload E dL_areStates_545 rfl ?_
                                          refine z_iald E (rfl : vl G 18 0 = true) 16 rfl (by omega) (by omega) (by omega) dL_areStates_547 ?_
                                          refine z_iconst E dL_areStates_548 ?_
                                          refine z_callV E (ci := 5) (N := 4) (C := RX5) (T := TX5) (n := 2) (st := []) (rfl : vl G 10 0 = true) rfl rfl [.int (iI (V 18 0 kz)), .int (iI 5)] (kX5_stateOf l G P V (V 18 0 kz) 5 hC.w0 hB hC.n0 hC.n1 hC.L hC.ps (by omega) (by omega)) gL_areStates_X5_stateOf rfl ⟨rfl, rfl⟩ (by decide +kernel) ⟨Nat.le_of_ble_eq_true rfl, Nat.le_of_ble_eq_true rfl⟩ rfl rfl (Nat.le_of_ble_eq_true rfl) rfl dL_areStates_549 (z_dtI ?_)
                                          refine z_iload E dL_areStates_552 rfl ?_
                                          refine z_icne_e E (((so_5 hC.R hN hk0 k1).trans (by rw [hw, show q = 6 by omega]))) dL_areStates_554 636 rfl ?_
                                          refine z_aload_n E dL_areStates_557 0 rfl rfl ?_
                                          refine z_aload_n E dL_areStates_558 3 rfl rfl ?_
                                          refine z_iload E dL_areStates_559 rfl ?_
                                          refine z_iald E (rfl : vl G 18 0 = true) 16 rfl (by omega) (by omega) (by omega) dL_areStates_561 ?_
                                          refine z_bipush E dL_areStates_562 rfl ?_
                                          refine z_callV E (ci := 5) (N := 4) (C := RX5) (T := TX5) (n := 2) (st := []) (rfl : vl G 10 0 = true) rfl rfl [.int (iI (V 18 0 kz)), .int (iI 6)] (kX5_stateOf l G P V (V 18 0 kz) 6 hC.w0 hB hC.n0 hC.n1 hC.L hC.ps (by omega) (by omega)) gL_areStates_X5_stateOf rfl ⟨rfl, rfl⟩ (by decide +kernel) ⟨Nat.le_of_ble_eq_true rfl, Nat.le_of_ble_eq_true rfl⟩ rfl rfl (Nat.le_of_ble_eq_true rfl) rfl dL_areStates_564 (z_dtI ?_)
                                          refine z_iload E dL_areStates_567 rfl ?_
                                          refine z_icne_e E (((so_6 hC.R hN hk0 k1).trans (by rw [hu, show q = 6 by omega]))) dL_areStates_569 636 rfl ?_
                                          refine z_aload_n E dL_areStates_572 0 rfl rfl ?_
                                          refine z_aload_n E dL_areStates_573 3 rfl rfl ?_
                                          refine z_iload E dL_areStates_574 rfl ?_
                                          refine z_iald E (rfl : vl G 18 0 = true) 16 rfl (by omega) (by omega) (by omega) dL_areStates_576 ?_
                                          refine z_bipush E dL_areStates_577 rfl ?_
                                          refine z_callV E (ci := 5) (N := 4) (C := RX5) (T := TX5) (n := 2) (st := []) (rfl : vl G 10 0 = true) rfl rfl [.int (iI (V 18 0 kz)), .int (iI 7)] (kX5_stateOf l G P V (V 18 0 kz) 7 hC.w0 hB hC.n0 hC.n1 hC.L hC.ps (by omega) (by omega)) gL_areStates_X5_stateOf rfl ⟨rfl, rfl⟩ (by decide +kernel) ⟨Nat.le_of_ble_eq_true rfl, Nat.le_of_ble_eq_true rfl⟩ rfl rfl (Nat.le_of_ble_eq_true rfl) rfl dL_areStates_579 (z_dtI ?_)
                                          refine z_iload E dL_areStates_582 rfl ?_
                                          refine z_icne_e E (((so_7 hC.R hN hk0 k1).trans (by rw [hse, show b = 4 by omega]))) dL_areStates_584 636 rfl ?_
                                          refine z_aload_n E dL_areStates_587 0 rfl rfl ?_
                                          refine z_aload_n E dL_areStates_588 3 rfl rfl ?_
                                          refine z_iload E dL_areStates_589 rfl ?_
                                          refine z_iald E (rfl : vl G 18 0 = true) 16 rfl (by omega) (by omega) (by omega) dL_areStates_591 ?_
                                          refine z_bipush E dL_areStates_592 rfl ?_
                                          refine z_callV E (ci := 5) (N := 4) (C := RX5) (T := TX5) (n := 2) (st := []) (rfl : vl G 10 0 = true) rfl rfl [.int (iI (V 18 0 kz)), .int (iI 8)] (kX5_stateOf l G P V (V 18 0 kz) 8 hC.w0 hB hC.n0 hC.n1 hC.L hC.ps (by omega) (by omega)) gL_areStates_X5_stateOf rfl ⟨rfl, rfl⟩ (by decide +kernel) ⟨Nat.le_of_ble_eq_true rfl, Nat.le_of_ble_eq_true rfl⟩ rfl rfl (Nat.le_of_ble_eq_true rfl) rfl dL_areStates_594 (z_dtI ?_)
                                          refine z_ldc E (-1000001) f1 rfl dL_areStates_597 ?_
                                          refine z_icne_e E ((so_8 hC.R hN hk0 k1)) dL_areStates_599 636 rfl ?_
                                          refine z_aload_n E dL_areStates_602 0 rfl rfl ?_
                                          refine z_aload_n E dL_areStates_603 3 rfl rfl ?_
                                          refine z_iload E dL_areStates_604 rfl ?_
                                          refine z_iald E (rfl : vl G 18 0 = true) 16 rfl (by omega) (by omega) (by omega) dL_areStates_606 ?_
                                          refine z_bipush E dL_areStates_607 rfl ?_
                                          refine z_callV E (ci := 5) (N := 4) (C := RX5) (T := TX5) (n := 2) (st := []) (rfl : vl G 10 0 = true) rfl rfl [.int (iI (V 18 0 kz)), .int (iI 6)] (kX5_blockAt l G P V (V 18 0 kz) 6 hC.w0 hB hC.n0 hC.n1 hC.L (by omega) (by omega)) gL_areStates_X5_blockAt rfl ⟨rfl, rfl⟩ (by decide +kernel) ⟨Nat.le_of_ble_eq_true rfl, Nat.le_of_ble_eq_true rfl⟩ rfl rfl (Nat.le_of_ble_eq_true rfl) rfl dL_areStates_609 (z_dtI ?_)
                                          refine z_ldc E (-1000001) f1 rfl dL_areStates_612 ?_
                                          refine z_icne_e E ((ba_6 (V := V) (w := P 0))) dL_areStates_614 636 rfl ?_
                                          refine z_aload_n E dL_areStates_617 0 rfl rfl ?_
                                          refine z_aload_n E dL_areStates_618 3 rfl rfl ?_
                                          refine z_iload E dL_areStates_619 rfl ?_
                                          refine z_iald E (rfl : vl G 18 0 = true) 16 rfl (by omega) (by omega) (by omega) dL_areStates_621 ?_
                                          refine z_bipush E dL_areStates_622 rfl ?_
                                          refine z_callV E (ci := 5) (N := 4) (C := RX5) (T := TX5) (n := 2) (st := []) (rfl : vl G 10 0 = true) rfl rfl [.int (iI (V 18 0 kz)), .int (iI 48)] (kX5_read l G P V (V 18 0 kz) 48 hC.w0 hB hC.n0 hC.n1 hC.L (by omega) (by omega)) gL_areStates_X5_read rfl ⟨rfl, rfl⟩ (by decide +kernel) ⟨Nat.le_of_ble_eq_true rfl, Nat.le_of_ble_eq_true rfl⟩ rfl rfl (Nat.le_of_ble_eq_true rfl) rfl dL_areStates_624 (z_dtI ?_)
                                          refine z_ldc E (-1000001) f1 rfl dL_areStates_627 ?_
                                          refine z_icne_e E ((rd_48 (V := V) (w := P 0))) dL_areStates_629 636 rfl ?_
                                          refine z_iconst E dL_areStates_632 ?_
                                          refine z_goto E 637 dL_areStates_633 rfl ?_
                                          refine z_istore E dL_areStates_637 (L' := [some (.ref (ad G 10 0)), some (.ref (ad G 16 0)), some (.ref (ad G 17 0)), some (.ref (ad G 18 0)), some (.ref (ad G 19 0)), some (.ref (ad G 20 0)), some (.ref (ad G 21 0)), some (.ref (ad G 22 0)), some (.int (iI 1)), some (.int (iI kz)), some (.int (iI ch)), some (.int (iI st)), some (.int (iI su)), some (.int (iI ot)), some (.int (iI ow)), some (.int (iI un)), some (.int (iI se)), some (.int (iI b)), none, none, none]) (Nat.le_of_ble_eq_true rfl) rfl ?_
                                          refine z_iinc E kz dL_areStates_639 (L' := [some (.ref (ad G 10 0)), some (.ref (ad G 16 0)), some (.ref (ad G 17 0)), some (.ref (ad G 18 0)), some (.ref (ad G 19 0)), some (.ref (ad G 20 0)), some (.ref (ad G 21 0)), some (.ref (ad G 22 0)), some (.int (iI 1)), some (.int (iI (kz + 1))), some (.int (iI ch)), some (.int (iI st)), some (.int (iI su)), some (.int (iI ot)), some (.int (iI ow)), some (.int (iI un)), some (.int (iI se)), some (.int (iI b)), none, none, none]) (Nat.le_of_ble_eq_true rfl) rfl rfl ?_
                                          refine z_goto E 45 dL_areStates_642 rfl ?_
                                          refine Kz.drop 10 (L' := [some (.ref (ad G 10 0)), some (.ref (ad G 16 0)), some (.ref (ad G 17 0)), some (.ref (ad G 18 0)), some (.ref (ad G 19 0)), some (.ref (ad G 20 0)), some (.ref (ad G 21 0)), some (.ref (ad G 22 0)), some (.int (iI 1)), some (.int (iI (kz + 1))), none, some (.int (iI st)), some (.int (iI su)), some (.int (iI ot)), some (.int (iI ow)), some (.int (iI un)), some (.int (iI se)), some (.int (iI b)), none, none, none]) rfl ?_
                                          refine Kz.drop 11 (L' := [some (.ref (ad G 10 0)), some (.ref (ad G 16 0)), some (.ref (ad G 17 0)), some (.ref (ad G 18 0)), some (.ref (ad G 19 0)), some (.ref (ad G 20 0)), some (.ref (ad G 21 0)), some (.ref (ad G 22 0)), some (.int (iI 1)), some (.int (iI (kz + 1))), none, none, some (.int (iI su)), some (.int (iI ot)), some (.int (iI ow)), some (.int (iI un)), some (.int (iI se)), some (.int (iI b)), none, none, none]) rfl ?_
                                          refine Kz.drop 12 (L' := [some (.ref (ad G 10 0)), some (.ref (ad G 16 0)), some (.ref (ad G 17 0)), some (.ref (ad G 18 0)), some (.ref (ad G 19 0)), some (.ref (ad G 20 0)), some (.ref (ad G 21 0)), some (.ref (ad G 22 0)), some (.int (iI 1)), some (.int (iI (kz + 1))), none, none, none, some (.int (iI ot)), some (.int (iI ow)), some (.int (iI un)), some (.int (iI se)), some (.int (iI b)), none, none, none]) rfl ?_
                                          refine Kz.drop 13 (L' := [some (.ref (ad G 10 0)), some (.ref (ad G 16 0)), some (.ref (ad G 17 0)), some (.ref (ad G 18 0)), some (.ref (ad G 19 0)), some (.ref (ad G 20 0)), some (.ref (ad G 21 0)), some (.ref (ad G 22 0)), some (.int (iI 1)), some (.int (iI (kz + 1))), none, none, none, none, some (.int (iI ow)), some (.int (iI un)), some (.int (iI se)), some (.int (iI b)), none, none, none]) rfl ?_
                                          refine Kz.drop 14 (L' := [some (.ref (ad G 10 0)), some (.ref (ad G 16 0)), some (.ref (ad G 17 0)), some (.ref (ad G 18 0)), some (.ref (ad G 19 0)), some (.ref (ad G 20 0)), some (.ref (ad G 21 0)), some (.ref (ad G 22 0)), some (.int (iI 1)), some (.int (iI (kz + 1))), none, none, none, none, none, some (.int (iI un)), some (.int (iI se)), some (.int (iI b)), none, none, none]) rfl ?_
                                          refine Kz.drop 15 (L' := [some (.ref (ad G 10 0)), some (.ref (ad G 16 0)), some (.ref (ad G 17 0)), some (.ref (ad G 18 0)), some (.ref (ad G 19 0)), some (.ref (ad G 20 0)), some (.ref (ad G 21 0)), some (.ref (ad G 22 0)), some (.int (iI 1)), some (.int (iI (kz + 1))), none, none, none, none, none, none, some (.int (iI se)), some (.int (iI b)), none, none, none]) rfl ?_
                                          refine Kz.drop 16 (L' := [some (.ref (ad G 10 0)), some (.ref (ad G 16 0)), some (.ref (ad G 17 0)), some (.ref (ad G 18 0)), some (.ref (ad G 19 0)), some (.ref (ad G 20 0)), some (.ref (ad G 21 0)), some (.ref (ad G 22 0)), some (.int (iI 1)), some (.int (iI (kz + 1))), none, none, none, none, none, none, none, some (.int (iI b)), none, none, none]) rfl ?_
                                          refine Kz.drop 17 (L' := [some (.ref (ad G 10 0)), some (.ref (ad G 16 0)), some (.ref (ad G 17 0)), some (.ref (ad G 18 0)), some (.ref (ad G 19 0)), some (.ref (ad G 20 0)), some (.ref (ad G 21 0)), some (.ref (ad G 22 0)), some (.int (iI 1)), some (.int (iI (kz + 1))), none, none, none, none, none, none, none, none, none, none, none]) rfl ?_
                                          exact ih_45 (kz + 1) (by omega) (by omega) (by omega)
                                        · skip
                                          refine z_ldc E (-1000004) f0 rfl dL_areStates_533 ?_
                                          refine z_goto E 540 dL_areStates_535 rfl ?_
                                          refine z_icne_e E ((by first | exact (so_4 hC.R hN hk0 k1).1 (by omega) | exact ((so_4 hC.R hN hk0 k1).2 (by omega)).trans (by rw [ho, show q = 6 by omega]))) dL_areStates_540 636 rfl ?_
                                          refine z_aload_n E dL_areStates_543 0 rfl rfl ?_
                                          refine z_aload_n E dL_areStates_544 3 rfl rfl ?_
                                          refine z_iload E dL_areStates_545 rfl ?_
                                          refine z_iald E (rfl : vl G 18 0 = true) 16 rfl (by omega) (by omega) (by omega) dL_areStates_547 ?_
                                          refine z_iconst E dL_areStates_548 ?_
                                          refine z_callV E (ci := 5) (N := 4) (C := RX5) (T := TX5) (n := 2) (st := []) (rfl : vl G 10 0 = true) rfl rfl [.int (iI (V 18 0 kz)), .int (iI 5)] (kX5_stateOf l G P V (V 18 0 kz) 5 hC.w0 hB hC.n0 hC.n1 hC.L hC.ps (by omega) (by omega)) gL_areStates_X5_stateOf rfl ⟨rfl, rfl⟩ (by decide +kernel) ⟨Nat.le_of_ble_eq_true rfl, Nat.le_of_ble_eq_true rfl⟩ rfl rfl (Nat.le_of_ble_eq_true rfl) rfl dL_areStates_549 (z_dtI ?_)
                                          refine z_iload E dL_areStates_552 rfl ?_
                                          refine z_icne_e E (((so_5 hC.R hN hk0 k1).trans (by rw [hw, show q = 6 by omega]))) dL_areStates_554 636 rfl ?_
                                          refine z_aload_n E dL_areStates_557 0 rfl rfl ?_
                                          refine z_aload_n E dL_areStates_558 3 rfl rfl ?_
                                          refine z_iload E dL_areStates_559 rfl ?_
                                          refine z_iald E (rfl : vl G 18 0 = true) 16 rfl (by omega) (by omega) (by omega) dL_areStates_561 ?_
                                          refine z_bipush E dL_areStates_562 rfl ?_
                                          refine z_callV E (ci := 5) (N := 4) (C := RX5) (T := TX5) (n := 2) (st := []) (rfl : vl G 10 0 = true) rfl rfl [.int (iI (V 18 0 kz)), .int (iI 6)] (kX5_stateOf l G P V (V 18 0 kz) 6 hC.w0 hB hC.n0 hC.n1 hC.L hC.ps (by omega) (by omega)) gL_areStates_X5_stateOf rfl ⟨rfl, rfl⟩ (by decide +kernel) ⟨Nat.le_of_ble_eq_true rfl, Nat.le_of_ble_eq_true rfl⟩ rfl rfl (Nat.le_of_ble_eq_true rfl) rfl dL_areStates_564 (z_dtI ?_)
                                          refine z_iload E dL_areStates_567 rfl ?_
                                          refine z_icne_e E (((so_6 hC.R hN hk0 k1).trans (by rw [hu, show q = 6 by omega]))) dL_areStates_569 636 rfl ?_
                                          refine z_aload_n E dL_areStates_572 0 rfl rfl ?_
                                          refine z_aload_n E dL_areStates_573 3 rfl rfl ?_
                                          refine z_iload E dL_areStates_574 rfl ?_
                                          refine z_iald E (rfl : vl G 18 0 = true) 16 rfl (by omega) (by omega) (by omega) dL_areStates_576 ?_
                                          refine z_bipush E dL_areStates_577 rfl ?_
                                          refine z_callV E (ci := 5) (N := 4) (C := RX5) (T := TX5) (n := 2) (st := []) (rfl : vl G 10 0 = true) rfl rfl [.int (iI (V 18 0 kz)), .int (iI 7)] (kX5_stateOf l G P V (V 18 0 kz) 7 hC.w0 hB hC.n0 hC.n1 hC.L hC.ps (by omega) (by omega)) gL_areStates_X5_stateOf rfl ⟨rfl, rfl⟩ (by decide +kernel) ⟨Nat.le_of_ble_eq_true rfl, Nat.le_of_ble_eq_true rfl⟩ rfl rfl (Nat.le_of_ble_eq_true rfl) rfl dL_areStates_579 (z_dtI ?_)
                                          refine z_iload E dL_areStates_582 rfl ?_
                                          refine z_icne_e E (((so_7 hC.R hN hk0 k1).trans (by rw [hse, show b = 4 by omega]))) dL_areStates_584 636 rfl ?_
                                          refine z_aload_n E dL_areStates_587 0 rfl rfl ?_
                                          refine z_aload_n E dL_areStates_588 3 rfl rfl ?_
                                          refine z_iload E dL_areStates_589 rfl ?_
                                          refine z_iald E (rfl : vl G 18 0 = true) 16 rfl (by omega) (by omega) (by omega) dL_areStates_591 ?_
                                          refine z_bipush E dL_areStates_592 rfl ?_
                                          refine z_callV E (ci := 5) (N := 4) (C := RX5) (T := TX5) (n := 2) (st := []) (rfl : vl G 10 0 = true) rfl rfl [.int (iI (V 18 0 kz)), .int (iI 8)] (kX5_stateOf l G P V (V 18 0 kz) 8 hC.w0 hB hC.n0 hC.n1 hC.L hC.ps (by omega) (by omega)) gL_areStates_X5_stateOf rfl ⟨rfl, rfl⟩ (by decide +kernel) ⟨Nat.le_of_ble_eq_true rfl, Nat.le_of_ble_eq_true rfl⟩ rfl rfl (Nat.le_of_ble_eq_true rfl) rfl dL_areStates_594 (z_dtI ?_)
                                          refine z_ldc E (-1000001) f1 rfl dL_areStates_597 ?_
                                          refine z_icne_e E ((so_8 hC.R hN hk0 k1)) dL_areStates_599 636 rfl ?_
                                          refine z_aload_n E dL_areStates_602 0 rfl rfl ?_
                                          refine z_aload_n E dL_areStates_603 3 rfl rfl ?_
                                          refine z_iload E dL_areStates_604 rfl ?_
                                          refine z_iald E (rfl : vl G 18 0 = true) 16 rfl (by omega) (by omega) (by omega) dL_areStates_606 ?_
                                          refine z_bipush E dL_areStates_607 rfl ?_
                                          refine z_callV E (ci := 5) (N := 4) (C := RX5) (T := TX5) (n := 2) (st := []) (rfl : vl G 10 0 = true) rfl rfl [.int (iI (V 18 0 kz)), .int (iI 6)] (kX5_blockAt l G P V (V 18 0 kz) 6 hC.w0 hB hC.n0 hC.n1 hC.L (by omega) (by omega)) gL_areStates_X5_blockAt rfl ⟨rfl, rfl⟩ (by decide +kernel) ⟨Nat.le_of_ble_eq_true rfl, Nat.le_of_ble_eq_true rfl⟩ rfl rfl (Nat.le_of_ble_eq_true rfl) rfl dL_areStates_609 (z_dtI ?_)
                                          refine z_ldc E (-1000001) f1 rfl dL_areStates_612 ?_
                                          refine z_icne_e E ((ba_6 (V := V) (w := P 0))) dL_areStates_614 636 rfl ?_
                                          refine z_aload_n E dL_areStates_617 0 rfl rfl ?_
                                          refine z_aload_n E dL_areStates_618 3 rfl rfl ?_
                                          refine z_iload E dL_areStates_619 rfl ?_
                                          refine z_iald E (rfl : vl G 18 0 = true) 16 rfl (by omega) (by omega) (by omega) dL_areStates_621 ?_
                                          refine z_bipush E dL_areStates_622 rfl ?_
                                          refine z_callV E (ci := 5) (N := 4) (C := RX5) (T := TX5) (n := 2) (st := []) (rfl : vl G 10 0 = true) rfl rfl [.int (iI (V 18 0 kz)), .int (iI 48)] (kX5_read l G P V (V 18 0 kz) 48 hC.w0 hB hC.n0 hC.n1 hC.L (by omega) (by omega)) gL_areStates_X5_read rfl ⟨rfl, rfl⟩ (by decide +kernel) ⟨Nat.le_of_ble_eq_true rfl, Nat.le_of_ble_eq_true rfl⟩ rfl rfl (Nat.le_of_ble_eq_true rfl) rfl dL_areStates_624 (z_dtI ?_)
                                          refine z_ldc E (-1000001) f1 rfl dL_areStates_627 ?_
                                          refine z_icne_e E ((rd_48 (V := V) (w := P 0))) dL_areStates_629 636 rfl ?_
                                          refine z_iconst E dL_areStates_632 ?_
                                          refine z_goto E 637 dL_areStates_633 rfl ?_
                                          refine z_istore E dL_areStates_637 (L' := [some (.ref (ad G 10 0)), some (.ref (ad G 16 0)), some (.ref (ad G 17 0)), some (.ref (ad G 18 0)), some (.ref (ad G 19 0)), some (.ref (ad G 20 0)), some (.ref (ad G 21 0)), some (.ref (ad G 22 0)), some (.int (iI 1)), some (.int (iI kz)), some (.int (iI ch)), some (.int (iI st)), some (.int (iI su)), some (.int (iI ot)), some (.int (iI ow)), some (.int (iI un)), some (.int (iI se)), some (.int (iI b)), none, none, none]) (Nat.le_of_ble_eq_true rfl) rfl ?_
                                          refine z_iinc E kz dL_areStates_639 (L' := [some (.ref (ad G 10 0)), some (.ref (ad G 16 0)), some (.ref (ad G 17 0)), some (.ref (ad G 18 0)), some (.ref (ad G 19 0)), some (.ref (ad G 20 0)), some (.ref (ad G 21 0)), some (.ref (ad G 22 0)), some (.int (iI 1)), some (.int (iI (kz + 1))), some (.int (iI ch)), some (.int (iI st)), some (.int (iI su)), some (.int (iI ot)), some (.int (iI ow)), some (.int (iI un)), some (.int (iI se)), some (.int (iI b)), none, none, none]) (Nat.le_of_ble_eq_true rfl) rfl rfl ?_
                                          refine z_goto E 45 dL_areStates_642 rfl ?_
                                          refine Kz.drop 10 (L' := [some (.ref (ad G 10 0)), some (.ref (ad G 16 0)), some (.ref (ad G 17 0)), some (.ref (ad G 18 0)), some (.ref (ad G 19 0)), some (.ref (ad G 20 0)), some (.ref (ad G 21 0)), some (.ref (ad G 22 0)), some (.int (iI 1)), some (.int (iI (kz + 1))), none, some (.int (iI st)), some (.int (iI su)), some (.int (iI ot)), some (.int (iI ow)), some (.int (iI un)), some (.int (iI se)), some (.int (iI b)), none, none, none]) rfl ?_
                                          refine Kz.drop 11 (L' := [some (.ref (ad G 10 0)), some (.ref (ad G 16 0)), some (.ref (ad G 17 0)), some (.ref (ad G 18 0)), some (.ref (ad G 19 0)), some (.ref (ad G 20 0)), some (.ref (ad G 21 0)), some (.ref (ad G 22 0)), some (.int (iI 1)), some (.int (iI (kz + 1))), none, none, some (.int (iI su)), some (.int (iI ot)), some (.int (iI ow)), some (.int (iI un)), some (.int (iI se)), some (.int (iI b)), none, none, none]) rfl ?_
                                          refine Kz.drop 12 (L' := [some (.ref (ad G 10 0)), some (.ref (ad G 16 0)), some (.ref (ad G 17 0)), some (.ref (ad G 18 0)), some (.ref (ad G 19 0)), some (.ref (ad G 20 0)), some (.ref (ad G 21 0)), some (.ref (ad G 22 0)), some (.int (iI 1)), some (.int (iI (kz + 1))), none, none, none, some (.int (iI ot)), some (.int (iI ow)), some (.int (iI un)), some (.int (iI se)), some (.int (iI b)), none, none, none]) rfl ?_
                                          refine Kz.drop 13 (L' := [some (.ref (ad G 10 0)), some (.ref (ad G 16 0)), some (.ref (ad G 17 0)), some (.ref (ad G 18 0)), some (.ref (ad G 19 0)), some (.ref (ad G 20 0)), some (.ref (ad G 21 0)), some (.ref (ad G 22 0)), some (.int (iI 1)), some (.int (iI (kz + 1))), none, none, none, none, some (.int (iI ow)), some (.int (iI un)), some (.int (iI se)), some (.int (iI b)), none, none, none]) rfl ?_
                                          refine Kz.drop 14 (L' := [some (.ref (ad G 10 0)), some (.ref (ad G 16 0)), some (.ref (ad G 17 0)), some (.ref (ad G 18 0)), some (.ref (ad G 19 0)), some (.ref (ad G 20 0)), some (.ref (ad G 21 0)), some (.ref (ad G 22 0)), some (.int (iI 1)), some (.int (iI (kz + 1))), none, none, none, none, none, some (.int (iI un)), some (.int (iI se)), some (.int (iI b)), none, none, none]) rfl ?_
                                          refine Kz.drop 15 (L' := [some (.ref (ad G 10 0)), some (.ref (ad G 16 0)), some (.ref (ad G 17 0)), some (.ref (ad G 18 0)), some (.ref (ad G 19 0)), some (.ref (ad G 20 0)), some (.ref (ad G 21 0)), some (.ref (ad G 22 0)), some (.int (iI 1)), some (.int (iI (kz + 1))), none, none, none, none, none, none, some (.int (iI se)), some (.int (iI b)), none, none, none]) rfl ?_
                                          refine Kz.drop 16 (L' := [some (.ref (ad G 10 0)), some (.ref (ad G 16 0)), some (.ref (ad G 17 0)), some (.ref (ad G 18 0)), some (.ref (ad G 19 0)), some (.ref (ad G 20 0)), some (.ref (ad G 21 0)), some (.ref (ad G 22 0)), some (.int (iI 1)), some (.int (iI (kz + 1))), none, none, none, none, none, none, none, some (.int (iI b)), none, none, none]) rfl ?_
                                          refine Kz.drop 17 (L' := [some (.ref (ad G 10 0)), some (.ref (ad G 16 0)), some (.ref (ad G 17 0)), some (.ref (ad G 18 0)), some (.ref (ad G 19 0)), some (.ref (ad G 20 0)), some (.ref (ad G 21 0)), some (.ref (ad G 22 0)), some (.int (iI 1)), some (.int (iI (kz + 1))), none, none, none, none, none, none, none, none, none, none, none]) rfl ?_
                                          exact ih_45 (kz + 1) (by omega) (by omega) (by omega)
                                      · skip
                                        refine z_ldc E (-1000004) f0 rfl dL_areStates_464 ?_
                                        refine z_goto E 474 dL_areStates_466 rfl ?_
                                        refine z_icne_e E ((by first | exact (so_0 hC.R hN hk0 k1).1 (by omega) | exact (so_0 hC.R hN hk0 k1).2 (by omega))) dL_areStates_474 636 rfl ?_
                                        refine z_aload_n E dL_areStates_477 0 rfl rfl ?_
                                        refine z_aload_n E dL_areStates_478 3 rfl rfl ?_
                                        refine z_iload E dL_areStates_479 rfl ?_
                                        refine z_iald E (rfl : vl G 18 0 = true) 16 rfl (by omega) (by omega) (by omega) dL_areStates_481 ?_
                                        refine z_iconst E dL_areStates_482 ?_
                                        refine z_callV E (ci := 5) (N := 4) (C := RX5) (T := TX5) (n := 2) (st := []) (rfl : vl G 10 0 = true) rfl rfl [.int (iI (V 18 0 kz)), .int (iI 1)] (kX5_stateOf l G P V (V 18 0 kz) 1 hC.w0 hB hC.n0 hC.n1 hC.L hC.ps (by omega) (by omega)) gL_areStates_X5_stateOf rfl ⟨rfl, rfl⟩ (by decide +kernel) ⟨Nat.le_of_ble_eq_true rfl, Nat.le_of_ble_eq_true rfl⟩ rfl rfl (Nat.le_of_ble_eq_true rfl) rfl dL_areStates_483 (z_dtI ?_)
                                        refine z_iload E dL_areStates_486 rfl ?_
                                        refine z_icne_e E (((so_1 hC.R hN hk0 k1).trans (by rw [hch, show i = V 16 0 0 by omega]))) dL_areStates_488 636 rfl ?_
                                        refine z_aload_n E dL_areStates_491 0 rfl rfl ?_
                                        refine z_aload_n E dL_areStates_492 3 rfl rfl ?_
                                        refine z_iload E dL_areStates_493 rfl ?_
                                        refine z_iald E (rfl : vl G 18 0 = true) 16 rfl (by omega) (by omega) (by omega) dL_areStates_495 ?_
                                        refine z_iconst E dL_areStates_496 ?_
                                        refine z_callV E (ci := 5) (N := 4) (C := RX5) (T := TX5) (n := 2) (st := []) (rfl : vl G 10 0 = true) rfl rfl [.int (iI (V 18 0 kz)), .int (iI 2)] (kX5_stateOf l G P V (V 18 0 kz) 2 hC.w0 hB hC.n0 hC.n1 hC.L hC.ps (by omega) (by omega)) gL_areStates_X5_stateOf rfl ⟨rfl, rfl⟩ (by decide +kernel) ⟨Nat.le_of_ble_eq_true rfl, Nat.le_of_ble_eq_true rfl⟩ rfl rfl (Nat.le_of_ble_eq_true rfl) rfl dL_areStates_497 (z_dtI ?_)
                                        refine z_iload E dL_areStates_500 rfl ?_
                                        refine z_icne_e E (((so_2 hC.R hN hk0 k1).trans (STx_e hst (by omega)).symm)) dL_areStates_502 636 rfl ?_
                                        refine z_aload_n E dL_areStates_505 0 rfl rfl ?_
                                        refine z_aload_n E dL_areStates_506 3 rfl rfl ?_
                                        refine z_iload E dL_areStates_507 rfl ?_
                                        refine z_iald E (rfl : vl G 18 0 = true) 16 rfl (by omega) (by omega) (by omega) dL_areStates_509 ?_
                                        refine z_iconst E dL_areStates_510 ?_
                                        refine z_callV E (ci := 5) (N := 4) (C := RX5) (T := TX5) (n := 2) (st := []) (rfl : vl G 10 0 = true) rfl rfl [.int (iI (V 18 0 kz)), .int (iI 3)] (kX5_stateOf l G P V (V 18 0 kz) 3 hC.w0 hB hC.n0 hC.n1 hC.L hC.ps (by omega) (by omega)) gL_areStates_X5_stateOf rfl ⟨rfl, rfl⟩ (by decide +kernel) ⟨Nat.le_of_ble_eq_true rfl, Nat.le_of_ble_eq_true rfl⟩ rfl rfl (Nat.le_of_ble_eq_true rfl) rfl dL_areStates_511 (z_dtI ?_)
                                        refine z_iload E dL_areStates_514 rfl ?_
                                        refine z_icne_e E (((so_3 hC.R hN hk0 k1).trans (by rw [hsu, show c = 48 by omega]))) dL_areStates_516 636 rfl ?_
                                        refine z_aload_n E dL_areStates_519 0 rfl rfl ?_
                                        refine z_aload_n E dL_areStates_520 3 rfl rfl ?_
                                        refine z_iload E dL_areStates_521 rfl ?_
                                        refine z_iald E (rfl : vl G 18 0 = true) 16 rfl (by omega) (by omega) (by omega) dL_areStates_523 ?_
                                        refine z_iconst E dL_areStates_524 ?_
                                        refine z_callV E (ci := 5) (N := 4) (C := RX5) (T := TX5) (n := 2) (st := []) (rfl : vl G 10 0 = true) rfl rfl [.int (iI (V 18 0 kz)), .int (iI 4)] (kX5_stateOf l G P V (V 18 0 kz) 4 hC.w0 hB hC.n0 hC.n1 hC.L hC.ps (by omega) (by omega)) gL_areStates_X5_stateOf rfl ⟨rfl, rfl⟩ (by decide +kernel) ⟨Nat.le_of_ble_eq_true rfl, Nat.le_of_ble_eq_true rfl⟩ rfl rfl (Nat.le_of_ble_eq_true rfl) rfl dL_areStates_525 (z_dtI ?_)
                                        refine z_iload E dL_areStates_528 rfl ?_
                                        refine z_if_ne E 538 dL_areStates_530 rfl (by omega) (fun c_70 => ?_) (fun c_70 => ?_)
                                        · skip
                                          refine z_iload E dL_areStates_538 rfl ?_
                                          refine z_icne_e E ((by first | exact (so_4 hC.R hN hk0 k1).1 (by omega) | exact ((so_4 hC.R hN hk0 k1).2 (by omega)).trans (by rw [ho, show q = 6 by omega]))) dL_areStates_540 636 rfl ?_
                                          refine z_aload_n E dL_areStates_543 0 rfl rfl ?_
                                          refine z_aload_n E dL_areStates_544 3 rfl rfl ?_
                                          refine z_iload E dL_areStates_545 rfl ?_
                                          refine z_iald E (rfl : vl G 18 0 = true) 16 rfl (by omega) (by omega) (by omega) dL_areStates_547 ?_
                                          refine z_iconst E dL_areStates_548 ?_
                                          refine z_callV E (ci := 5) (N := 4) (C := RX5) (T := TX5) (n := 2) (st := []) (rfl : vl G 10 0 = true) rfl rfl [.int (iI (V 18 0 kz)), .int (iI 5)] (kX5_stateOf l G P V (V 18 0 kz) 5 hC.w0 hB hC.n0 hC.n1 hC.L hC.ps (by omega) (by omega)) gL_areStates_X5_stateOf rfl ⟨rfl, rfl⟩ (by decide +kernel) ⟨Nat.le_of_ble_eq_true rfl, Nat.le_of_ble_eq_true rfl⟩ rfl rfl (Nat.le_of_ble_eq_true rfl) rfl dL_areStates_549 (z_dtI ?_)
                                          refine z_iload E dL_areStates_552 rfl ?_
                                          refine z_icne_e E (((so_5 hC.R hN hk0 k1).trans (by rw [hw, show q = 6 by omega]))) dL_areStates_554 636 rfl ?_
                                          refine z_aload_n E dL_areStates_557 0 rfl rfl ?_
                                          refine z_aload_n E dL_areStates_558 3 rfl rfl ?_
                                          refine z_iload E dL_areStates_559 rfl ?_
                                          refine z_iald E (rfl : vl G 18 0 = true) 16 rfl (by omega) (by omega) (by omega) dL_areStates_561 ?_
                                          refine z_bipush E dL_areStates_562 rfl ?_
                                          refine z_callV E (ci := 5) (N := 4) (C := RX5) (T := TX5) (n := 2) (st := []) (rfl : vl G 10 0 = true) rfl rfl [.int (iI (V 18 0 kz)), .int (iI 6)] (kX5_stateOf l G P V (V 18 0 kz) 6 hC.w0 hB hC.n0 hC.n1 hC.L hC.ps (by omega) (by omega)) gL_areStates_X5_stateOf rfl ⟨rfl, rfl⟩ (by decide +kernel) ⟨Nat.le_of_ble_eq_true rfl, Nat.le_of_ble_eq_true rfl⟩ rfl rfl (Nat.le_of_ble_eq_true rfl) rfl dL_areStates_564 (z_dtI ?_)
                                          refine z_iload E dL_areStates_567 rfl ?_
                                          refine z_icne_e E (((so_6 hC.R hN hk0 k1).trans (by rw [hu, show q = 6 by omega]))) dL_areStates_569 636 rfl ?_
                                          refine z_aload_n E dL_areStates_572 0 rfl rfl ?_
                                          refine z_aload_n E dL_areStates_573 3 rfl rfl ?_
                                          refine z_iload E dL_areStates_574 rfl ?_
                                          refine z_iald E (rfl : vl G 18 0 = true) 16 rfl (by omega) (by omega) (by omega) dL_areStates_576 ?_
                                          refine z_bipush E dL_areStates_577 rfl ?_
                                          refine z_callV E (ci := 5) (N := 4) (C := RX5) (T := TX5) (n := 2) (st := []) (rfl : vl G 10 0 = true) rfl rfl [.int (iI (V 18 0 kz)), .int (iI 7)] (kX5_stateOf l G P V (V 18 0 kz) 7 hC.w0 hB hC.n0 hC.n1 hC.L hC.ps (by omega) (by omega)) gL_areStates_X5_stateOf rfl ⟨rfl, rfl⟩ (by decide +kernel) ⟨Nat.le_of_ble_eq_true rfl, Nat.le_of_ble_eq_true rfl⟩ rfl rfl (Nat.le_of_ble_eq_true rfl) rfl dL_areStates_579 (z_dtI ?_)
                                          refine z_iload E dL_areStates_582 rfl ?_
                                          refine z_icne_e E (((so_7 hC.R hN hk0 k1).trans (by rw [hse, show b = 4 by omega]))) dL_areStates_584 636 rfl ?_
                                          refine z_aload_n E dL_areStates_587 0 rfl rfl ?_
                                          refine z_aload_n E dL_areStates_588 3 rfl rfl ?_
                                          refine z_iload E dL_areStates_589 rfl ?_
                                          refine z_iald E (rfl : vl G 18 0 = true) 16 rfl (by omega) (by omega) (by omega) dL_areStates_591 ?_
                                          refine z_bipush E dL_areStates_592 rfl ?_
                                          refine z_callV E (ci := 5) (N := 4) (C := RX5) (T := TX5) (n := 2) (st := []) (rfl : vl G 10 0 = true) rfl rfl [.int (iI (V 18 0 kz)), .int (iI 8)] (kX5_stateOf l G P V (V 18 0 kz) 8 hC.w0 hB hC.n0 hC.n1 hC.L hC.ps (by omega) (by omega)) gL_areStates_X5_stateOf rfl ⟨rfl, rfl⟩ (by decide +kernel) ⟨Nat.le_of_ble_eq_true rfl, Nat.le_of_ble_eq_true rfl⟩ rfl rfl (Nat.le_of_ble_eq_true rfl) rfl dL_areStates_594 (z_dtI ?_)
                                          refine z_ldc E (-1000001) f1 rfl dL_areStates_597 ?_
                                          refine z_icne_e E ((so_8 hC.R hN hk0 k1)) dL_areStates_599 636 rfl ?_
                                          refine z_aload_n E dL_areStates_602 0 rfl rfl ?_
                                          refine z_aload_n E dL_areStates_603 3 rfl rfl ?_
                                          refine z_iload E dL_areStates_604 rfl ?_
                                          refine z_iald E (rfl : vl G 18 0 = true) 16 rfl (by omega) (by omega) (by omega) dL_areStates_606 ?_
                                          refine z_bipush E dL_areStates_607 rfl ?_
                                          refine z_callV E (ci := 5) (N := 4) (C := RX5) (T := TX5) (n := 2) (st := []) (rfl : vl G 10 0 = true) rfl rfl [.int (iI (V 18 0 kz)), .int (iI 6)] (kX5_blockAt l G P V (V 18 0 kz) 6 hC.w0 hB hC.n0 hC.n1 hC.L (by omega) (by omega)) gL_areStates_X5_blockAt rfl ⟨rfl, rfl⟩ (by decide +kernel) ⟨Nat.le_of_ble_eq_true rfl, Nat.le_of_ble_eq_true rfl⟩ rfl rfl (Nat.le_of_ble_eq_true rfl) rfl dL_areStates_609 (z_dtI ?_)
                                          refine z_ldc E (-1000001) f1 rfl dL_areStates_612 ?_
                                          refine z_icne_e E ((ba_6 (V := V) (w := P 0))) dL_areStates_614 636 rfl ?_
                                          refine z_aload_n E dL_areStates_617 0 rfl rfl ?_
                                          refine z_aload_n E dL_areStates_618 3 rfl rfl ?_
                                          refine z_iload E dL_areStates_619 rfl ?_
                                          refine z_iald E (rfl : vl G 18 0 = true) 16 rfl (by omega) (by omega) (by omega) dL_areStates_621 ?_
                                          refine z_bipush E dL_areStates_622 rfl ?_
                                          refine z_callV E (ci := 5) (N := 4) (C := RX5) (T := TX5) (n := 2) (st := []) (rfl : vl G 10 0 = true) rfl rfl [.int (iI (V 18 0 kz)), .int (iI 48)] (kX5_read l G P V (V 18 0 kz) 48 hC.w0 hB hC.n0 hC.n1 hC.L (by omega) (by omega)) gL_areStates_X5_read rfl ⟨rfl, rfl⟩ (by decide +kernel) ⟨Nat.le_of_ble_eq_true rfl, Nat.le_of_ble_eq_true rfl⟩ rfl rfl (Nat.le_of_ble_eq_true rfl) rfl dL_areStates_624 (z_dtI ?_)
                                          refine z_ldc E (-1000001) f1 rfl dL_areStates_627 ?_
                                          refine z_icne_e E ((rd_48 (V := V) (w := P 0))) dL_areStates_629 636 rfl ?_
                                          refine z_iconst E dL_areStates_632 ?_
                                          refine z_goto E 637 dL_areStates_633 rfl ?_
                                          refine z_istore E dL_areStates_637 (L' := [some (.ref (ad G 10 0)), some (.ref (ad G 16 0)), some (.ref (ad G 17 0)), some (.ref (ad G 18 0)), some (.ref (ad G 19 0)), some (.ref (ad G 20 0)), some (.ref (ad G 21 0)), some (.ref (ad G 22 0)), some (.int (iI 1)), some (.int (iI kz)), some (.int (iI ch)), some (.int (iI st)), some (.int (iI su)), some (.int (iI ot)), some (.int (iI ow)), some (.int (iI un)), some (.int (iI se)), some (.int (iI b)), none, none, none]) (Nat.le_of_ble_eq_true rfl) rfl ?_
                                          refine z_iinc E kz dL_areStates_639 (L' := [some (.ref (ad G 10 0)), some (.ref (ad G 16 0)), some (.ref (ad G 17 0)), some (.ref (ad G 18 0)), some (.ref (ad G 19 0)), some (.ref (ad G 20 0)), some (.ref (ad G 21 0)), some (.ref (ad G 22 0)), some (.int (iI 1)), some (.int (iI (kz + 1))), some (.int (iI ch)), some (.int (iI st)), some (.int (iI su)), some (.int (iI ot)), some (.int (iI ow)), some (.int (iI un)), some (.int (iI se)), some (.int (iI b)), none, none, none]) (Nat.le_of_ble_eq_true rfl) rfl rfl ?_
                                          refine z_goto E 45 dL_areStates_642 rfl ?_
                                          refine Kz.drop 10 (L' := [some (.ref (ad G 10 0)), some (.ref (ad G 16 0)), some (.ref (ad G 17 0)), some (.ref (ad G 18 0)), some (.ref (ad G 19 0)), some (.ref (ad G 20 0)), some (.ref (ad G 21 0)), some (.ref (ad G 22 0)), some (.int (iI 1)), some (.int (iI (kz + 1))), none, some (.int (iI st)), some (.int (iI su)), some (.int (iI ot)), some (.int (iI ow)), some (.int (iI un)), some (.int (iI se)), some (.int (iI b)), none, none, none]) rfl ?_
                                          refine Kz.drop 11 (L' := [some (.ref (ad G 10 0)), some (.ref (ad G 16 0)), some (.ref (ad G 17 0)), some (.ref (ad G 18 0)), some (.ref (ad G 19 0)), some (.ref (ad G 20 0)), some (.ref (ad G 21 0)), some (.ref (ad G 22 0)), some (.int (iI 1)), some (.int (iI (kz + 1))), none, none, some (.int (iI su)), some (.int (iI ot)), some (.int (iI ow)), some (.int (iI un)), some (.int (iI se)), some (.int (iI b)), none, none, none]) rfl ?_
                                          refine Kz.drop 12 (L' := [some (.ref (ad G 10 0)), some (.ref (ad G 16 0)), some (.ref (ad G 17 0)), some (.ref (ad G 18 0)), some (.ref (ad G 19 0)), some (.ref (ad G 20 0)), some (.ref (ad G 21 0)), some (.ref (ad G 22 0)), some (.int (iI 1)), some (.int (iI (kz + 1))), none, none, none, some (.int (iI ot)), some (.int (iI ow)), some (.int (iI un)), some (.int (iI se)), some (.int (iI b)), none, none, none]) rfl ?_
                                          refine Kz.drop 13 (L' := [some (.ref (ad G 10 0)), some (.ref (ad G 16 0)), some (.ref (ad G 17 0)), some (.ref (ad G 18 0)), some (.ref (ad G 19 0)), some (.ref (ad G 20 0)), some (.ref (ad G 21 0)), some (.ref (ad G 22 0)), some (.int (iI 1)), some (.int (iI (kz + 1))), none, none, none, none, some (.int (iI ow)), some (.int (iI un)), some (.int (iI se)), some (.int (iI b)), none, none, none]) rfl ?_
                                          refine Kz.drop 14 (L' := [some (.ref (ad G 10 0)), some (.ref (ad G 16 0)), some (.ref (ad G 17 0)), some (.ref (ad G 18 0)), some (.ref (ad G 19 0)), some (.ref (ad G 20 0)), some (.ref (ad G 21 0)), some (.ref (ad G 22 0)), some (.int (iI 1)), some (.int (iI (kz + 1))), none, none, none, none, none, some (.int (iI un)), some (.int (iI se)), some (.int (iI b)), none, none, none]) rfl ?_
                                          refine Kz.drop 15 (L' := [some (.ref (ad G 10 0)), some (.ref (ad G 16 0)), some (.ref (ad G 17 0)), some (.ref (ad G 18 0)), some (.ref (ad G 19 0)), some (.ref (ad G 20 0)), some (.ref (ad G 21 0)), some (.ref (ad G 22 0)), some (.int (iI 1)), some (.int (iI (kz + 1))), none, none, none, none, none, none, some (.int (iI se)), some (.int (iI b)), none, none, none]) rfl ?_
                                          refine Kz.drop 16 (L' := [some (.ref (ad G 10 0)), some (.ref (ad G 16 0)), some (.ref (ad G 17 0)), some (.ref (ad G 18 0)), some (.ref (ad G 19 0)), some (.ref (ad G 20 0)), some (.ref (ad G 21 0)), some (.ref (ad G 22 0)), some (.int (iI 1)), some (.int (iI (kz + 1))), none, none, none, none, none, none, none, some (.int (iI b)), none, none, none]) rfl ?_
                                          refine Kz.drop 17 (L' := [some (.ref (ad G 10 0)), some (.ref (ad G 16 0)), some (.ref (ad G 17 0)), some (.ref (ad G 18 0)), some (.ref (ad G 19 0)), some (.ref (ad G 20 0)), some (.ref (ad G 21 0)), some (.ref (ad G 22 0)), some (.int (iI 1)), some (.int (iI (kz + 1))), none, none, none, none, none, none, none, none, none, none, none]) rfl ?_
                                          exact ih_45 (kz + 1) (by omega) (by omega) (by omega)
                                        · skip
                                          refine z_ldc E (-1000004) f0 rfl dL_areStates_533 ?_
                                          refine z_goto E 540 dL_areStates_535 rfl ?_
                                          refine z_icne_e E ((by first | exact (so_4 hC.R hN hk0 k1).1 (by omega) | exact ((so_4 hC.R hN hk0 k1).2 (by omega)).trans (by rw [ho, show q = 6 by omega]))) dL_areStates_540 636 rfl ?_
                                          refine z_aload_n E dL_areStates_543 0 rfl rfl ?_
                                          refine z_aload_n E dL_areStates_544 3 rfl rfl ?_
                                          refine z_iload E dL_areStates_545 rfl ?_
                                          refine z_iald E (rfl : vl G 18 0 = true) 16 rfl (by omega) (by omega) (by omega) dL_areStates_547 ?_
                                          refine z_iconst E dL_areStates_548 ?_
                                          refine z_callV E (ci := 5) (N := 4) (C := RX5) (T := TX5) (n := 2) (st := []) (rfl : vl G 10 0 = true) rfl rfl [.int (iI (V 18 0 kz)), .int (iI 5)] (kX5_stateOf l G P V (V 18 0 kz) 5 hC.w0 hB hC.n0 hC.n1 hC.L hC.ps (by omega) (by omega)) gL_areStates_X5_stateOf rfl ⟨rfl, rfl⟩ (by decide +kernel) ⟨Nat.le_of_ble_eq_true rfl, Nat.le_of_ble_eq_true rfl⟩ rfl rfl (Nat.le_of_ble_eq_true rfl) rfl dL_areStates_549 (z_dtI ?_)
                                          refine z_iload E dL_areStates_552 rfl ?_
                                          refine z_icne_e E (((so_5 hC.R hN hk0 k1).trans (by rw [hw, show q = 6 by omega]))) dL_areStates_554 636 rfl ?_
                                          refine z_aload_n E dL_areStates_557 0 rfl rfl ?_
                                          refine z_aload_n E dL_areStates_558 3 rfl rfl ?_
                                          refine z_iload E dL_areStates_559 rfl ?_
                                          refine z_iald E (rfl : vl G 18 0 = true) 16 rfl (by omega) (by omega) (by omega) dL_areStates_561 ?_
                                          refine z_bipush E dL_areStates_562 rfl ?_
                                          refine z_callV E (ci := 5) (N := 4) (C := RX5) (T := TX5) (n := 2) (st := []) (rfl : vl G 10 0 = true) rfl rfl [.int (iI (V 18 0 kz)), .int (iI 6)] (kX5_stateOf l G P V (V 18 0 kz) 6 hC.w0 hB hC.n0 hC.n1 hC.L hC.ps (by omega) (by omega)) gL_areStates_X5_stateOf rfl ⟨rfl, rfl⟩ (by decide +kernel) ⟨Nat.le_of_ble_eq_true rfl, Nat.le_of_ble_eq_true rfl⟩ rfl rfl (Nat.le_of_ble_eq_true rfl) rfl dL_areStates_564 (z_dtI ?_)
                                          refine z_iload E dL_areStates_567 rfl ?_
                                          refine z_icne_e E (((so_6 hC.R hN hk0 k1).trans (by rw [hu, show q = 6 by omega]))) dL_areStates_569 636 rfl ?_
                                          refine z_aload_n E dL_areStates_572 0 rfl rfl ?_
                                          refine z_aload_n E dL_areStates_573 3 rfl rfl ?_
                                          refine z_iload E dL_areStates_574 rfl ?_
                                          refine z_iald E (rfl : vl G 18 0 = true) 16 rfl (by omega) (by omega) (by omega) dL_areStates_576 ?_
                                          refine z_bipush E dL_areStates_577 rfl ?_
                                          refine z_callV E (ci := 5) (N := 4) (C := RX5) (T := TX5) (n := 2) (st := []) (rfl : vl G 10 0 = true) rfl rfl [.int (iI (V 18 0 kz)), .int (iI 7)] (kX5_stateOf l G P V (V 18 0 kz) 7 hC.w0 hB hC.n0 hC.n1 hC.L hC.ps (by omega) (by omega)) gL_areStates_X5_stateOf rfl ⟨rfl, rfl⟩ (by decide +kernel) ⟨Nat.le_of_ble_eq_true rfl, Nat.le_of_ble_eq_true rfl⟩ rfl rfl (Nat.le_of_ble_eq_true rfl) rfl dL_areStates_579 (z_dtI ?_)
                                          refine z_iload E dL_areStates_582 rfl ?_
                                          refine z_icne_e E (((so_7 hC.R hN hk0 k1).trans (by rw [hse, show b = 4 by omega]))) dL_areStates_584 636 rfl ?_
                                          refine z_aload_n E dL_areStates_587 0 rfl rfl ?_
                                          refine z_aload_n E dL_areStates_588 3 rfl rfl ?_
                                          refine z_iload E dL_areStates_589 rfl ?_
                                          refine z_iald E (rfl : vl G 18 0 = true) 16 rfl (by omega) (by omega) (by omega) dL_areStates_591 ?_
                                          refine z_bipush E dL_areStates_592 rfl ?_
                                          refine z_callV E (ci := 5) (N := 4) (C := RX5) (T := TX5) (n := 2) (st := []) (rfl : vl G 10 0 = true) rfl rfl [.int (iI (V 18 0 kz)), .int (iI 8)] (kX5_stateOf l G P V (V 18 0 kz) 8 hC.w0 hB hC.n0 hC.n1 hC.L hC.ps (by omega) (by omega)) gL_areStates_X5_stateOf rfl ⟨rfl, rfl⟩ (by decide +kernel) ⟨Nat.le_of_ble_eq_true rfl, Nat.le_of_ble_eq_true rfl⟩ rfl rfl (Nat.le_of_ble_eq_true rfl) rfl dL_areStates_594 (z_dtI ?_)
                                          refine z_ldc E (-1000001) f1 rfl dL_areStates_597 ?_
                                          refine z_icne_e E ((so_8 hC.R hN hk0 k1)) dL_areStates_599 636 rfl ?_
                                          refine z_aload_n E dL_areStates_602 0 rfl rfl ?_
                                          refine z_aload_n E dL_areStates_603 3 rfl rfl ?_
                                          refine z_iload E dL_areStates_604 rfl ?_
                                          refine z_iald E (rfl : vl G 18 0 = true) 16 rfl (by omega) (by omega) (by omega) dL_areStates_606 ?_
                                          refine z_bipush E dL_areStates_607 rfl ?_
                                          refine z_callV E (ci := 5) (N := 4) (C := RX5) (T := TX5) (n := 2) (st := []) (rfl : vl G 10 0 = true) rfl rfl [.int (iI (V 18 0 kz)), .int (iI 6)] (kX5_blockAt l G P V (V 18 0 kz) 6 hC.w0 hB hC.n0 hC.n1 hC.L (by omega) (by omega)) gL_areStates_X5_blockAt rfl ⟨rfl, rfl⟩ (by decide +kernel) ⟨Nat.le_of_ble_eq_true rfl, Nat.le_of_ble_eq_true rfl⟩ rfl rfl (Nat.le_of_ble_eq_true rfl) rfl dL_areStates_609 (z_dtI ?_)
                                          refine z_ldc E (-1000001) f1 rfl dL_areStates_612 ?_
                                          refine z_icne_e E ((ba_6 (V := V) (w := P 0))) dL_areStates_614 636 rfl ?_
                                          refine z_aload_n E dL_areStates_617 0 rfl rfl ?_
                                          refine z_aload_n E dL_areStates_618 3 rfl rfl ?_
                                          refine z_iload E dL_areStates_619 rfl ?_
                                          refine z_iald E (rfl : vl G 18 0 = true) 16 rfl (by omega) (by omega) (by omega) dL_areStates_621 ?_
                                          refine z_bipush E dL_areStates_622 rfl ?_
                                          refine z_callV E (ci := 5) (N := 4) (C := RX5) (T := TX5) (n := 2) (st := []) (rfl : vl G 10 0 = true) rfl rfl [.int (iI (V 18 0 kz)), .int (iI 48)] (kX5_read l G P V (V 18 0 kz) 48 hC.w0 hB hC.n0 hC.n1 hC.L (by omega) (by omega)) gL_areStates_X5_read rfl ⟨rfl, rfl⟩ (by decide +kernel) ⟨Nat.le_of_ble_eq_true rfl, Nat.le_of_ble_eq_true rfl⟩ rfl rfl (Nat.le_of_ble_eq_true rfl) rfl dL_areStates_624 (z_dtI ?_)
                                          refine z_ldc E (-1000001) f1 rfl dL_areStates_627 ?_
                                          refine z_icne_e E ((rd_48 (V := V) (w := P 0))) dL_areStates_629 636 rfl ?_
                                          refine z_iconst E dL_areStates_632 ?_
                                          refine z_goto E 637 dL_areStates_633 rfl ?_
                                          refine z_istore E dL_areStates_637 (L' := [some (.ref (ad G 10 0)), some (.ref (ad G 16 0)), some (.ref (ad G 17 0)), some (.ref (ad G 18 0)), some (.ref (ad G 19 0)), some (.ref (ad G 20 0)), some (.ref (ad G 21 0)), some (.ref (ad G 22 0)), some (.int (iI 1)), some (.int (iI kz)), some (.int (iI ch)), some (.int (iI st)), some (.int (iI su)), some (.int (iI ot)), some (.int (iI ow)), some (.int (iI un)), some (.int (iI se)), some (.int (iI b)), none, none, none]) (Nat.le_of_ble_eq_true rfl) rfl ?_
                                          refine z_iinc E kz dL_areStates_639 (L' := [some (.ref (ad G 10 0)), some (.ref (ad G 16 0)), some (.ref (ad G 17 0)), some (.ref (ad G 18 0)), some (.ref (ad G 19 0)), some (.ref (ad G 20 0)), some (.ref (ad G 21 0)), some (.ref (ad G 22 0)), some (.int (iI 1)), some (.int (iI (kz + 1))), some (.int (iI ch)), some (.int (iI st)), some (.int (iI su)), some (.int (iI ot)), some (.int (iI ow)), some (.int (iI un)), some (.int (iI se)), some (.int (iI b)), none, none, none]) (Nat.le_of_ble_eq_true rfl) rfl rfl ?_
                                          refine z_goto E 45 dL_areStates_642 rfl ?_
                                          refine Kz.drop 10 (L' := [some (.ref (ad G 10 0)), some (.ref (ad G 16 0)), some (.ref (ad G 17 0)), some (.ref (ad G 18 0)), some (.ref (ad G 19 0)), some (.ref (ad G 20 0)), some (.ref (ad G 21 0)), some (.ref (ad G 22 0)), some (.int (iI 1)), some (.int (iI (kz + 1))), none, some (.int (iI st)), some (.int (iI su)), some (.int (iI ot)), some (.int (iI ow)), some (.int (iI un)), some (.int (iI se)), some (.int (iI b)), none, none, none]) rfl ?_
                                          refine Kz.drop 11 (L' := [some (.ref (ad G 10 0)), some (.ref (ad G 16 0)), some (.ref (ad G 17 0)), some (.ref (ad G 18 0)), some (.ref (ad G 19 0)), some (.ref (ad G 20 0)), some (.ref (ad G 21 0)), some (.ref (ad G 22 0)), some (.int (iI 1)), some (.int (iI (kz + 1))), none, none, some (.int (iI su)), some (.int (iI ot)), some (.int (iI ow)), some (.int (iI un)), some (.int (iI se)), some (.int (iI b)), none, none, none]) rfl ?_
                                          refine Kz.drop 12 (L' := [some (.ref (ad G 10 0)), some (.ref (ad G 16 0)), some (.ref (ad G 17 0)), some (.ref (ad G 18 0)), some (.ref (ad G 19 0)), some (.ref (ad G 20 0)), some (.ref (ad G 21 0)), some (.ref (ad G 22 0)), some (.int (iI 1)), some (.int (iI (kz + 1))), none, none, none, some (.int (iI ot)), some (.int (iI ow)), some (.int (iI un)), some (.int (iI se)), some (.int (iI b)), none, none, none]) rfl ?_
                                          refine Kz.drop 13 (L' := [some (.ref (ad G 10 0)), some (.ref (ad G 16 0)), some (.ref (ad G 17 0)), some (.ref (ad G 18 0)), some (.ref (ad G 19 0)), some (.ref (ad G 20 0)), some (.ref (ad G 21 0)), some (.ref (ad G 22 0)), some (.int (iI 1)), some (.int (iI (kz + 1))), none, none, none, none, some (.int (iI ow)), some (.int (iI un)), some (.int (iI se)), some (.int (iI b)), none, none, none]) rfl ?_
                                          refine Kz.drop 14 (L' := [some (.ref (ad G 10 0)), some (.ref (ad G 16 0)), some (.ref (ad G 17 0)), some (.ref (ad G 18 0)), some (.ref (ad G 19 0)), some (.ref (ad G 20 0)), some (.ref (ad G 21 0)), some (.ref (ad G 22 0)), some (.int (iI 1)), some (.int (iI (kz + 1))), none, none, none, none, none, some (.int (iI un)), some (.int (iI se)), some (.int (iI b)), none, none, none]) rfl ?_
                                          refine Kz.drop 15 (L' := [some (.ref (ad G 10 0)), some (.ref (ad G 16 0)), some (.ref (ad G 17 0)), some (.ref (ad G 18 0)), some (.ref (ad G 19 0)), some (.ref (ad G 20 0)), some (.ref (ad G 21 0)), some (.ref (ad G 22 0)), some (.int (iI 1)), some (.int (iI (kz + 1))), none, none, none, none, none, none, some (.int (iI se)), some (.int (iI b)), none, none, none]) rfl ?_
                                          refine Kz.drop 16 (L' := [some (.ref (ad G 10 0)), some (.ref (ad G 16 0)), some (.ref (ad G 17 0)), some (.ref (ad G 18 0)), some (.ref (ad G 19 0)), some (.ref (ad G 20 0)), some (.ref (ad G 21 0)), some (.ref (ad G 22 0)), some (.int (iI 1)), some (.int (iI (kz + 1))), none, none, none, none, none, none, none, some (.int (iI b)), none, none, none]) rfl ?_
                                          refine Kz.drop 17 (L' := [some (.ref (ad G 10 0)), some (.ref (ad G 16 0)), some (.ref (ad G 17 0)), some (.ref (ad G 18 0)), some (.ref (ad G 19 0)), some (.ref (ad G 20 0)), some (.ref (ad G 21 0)), some (.ref (ad G 22 0)), some (.int (iI 1)), some (.int (iI (kz + 1))), none, none, none, none, none, none, none, none, none, none, none]) rfl ?_
                                          exact ih_45 (kz + 1) (by omega) (by omega) (by omega)
                                    · skip
                                      refine z_iload E dL_areStates_402 rfl ?_
                                      refine z_aload_n E dL_areStates_404 2 rfl rfl ?_
                                      refine z_iload E dL_areStates_405 rfl ?_
                                      refine z_iald E (rfl : vl G 17 0 = true) 4 rfl (by omega) (by omega) (by omega) dL_areStates_407 ?_
                                      have hr_97 := hB.g 17 0 b rfl
                                      refine z_aload_n E dL_areStates_408 3 rfl rfl ?_
                                      refine z_iload E dL_areStates_409 rfl ?_
                                      refine z_iald E (rfl : vl G 18 0 = true) 16 rfl (by omega) (by omega) (by omega) dL_areStates_411 ?_
                                      refine z_icmp_ne E 422 dL_areStates_412 rfl (by omega) (by omega) (fun c_98 => ?_) (fun c_98 => ?_)
                                      · skip
                                        refine z_iconst E dL_areStates_422 ?_
                                        refine z_ior0 E dL_areStates_423 ?_
                                        refine z_istore E dL_areStates_424 (L' := [some (.ref (ad G 10 0)), some (.ref (ad G 16 0)), some (.ref (ad G 17 0)), some (.ref (ad G 18 0)), some (.ref (ad G 19 0)), some (.ref (ad G 20 0)), some (.ref (ad G 21 0)), some (.ref (ad G 22 0)), some (.int (iI 1)), some (.int (iI kz)), some (.int (iI ch)), some (.int (iI st)), some (.int (iI su)), some (.int (iI ot)), some (.int (iI ow)), some (.int (iI un)), some (.int (iI se)), some (.int (iI b)), none, none, none]) (Nat.le_of_ble_eq_true rfl) rfl ?_
                                        refine z_iinc E b dL_areStates_426 (L' := [some (.ref (ad G 10 0)), some (.ref (ad G 16 0)), some (.ref (ad G 17 0)), some (.ref (ad G 18 0)), some (.ref (ad G 19 0)), some (.ref (ad G 20 0)), some (.ref (ad G 21 0)), some (.ref (ad G 22 0)), some (.int (iI 1)), some (.int (iI kz)), some (.int (iI ch)), some (.int (iI st)), some (.int (iI su)), some (.int (iI ot)), some (.int (iI ow)), some (.int (iI un)), some (.int (iI se)), some (.int (iI (b + 1))), none, none, none]) (Nat.le_of_ble_eq_true rfl) rfl rfl ?_
                                        refine z_goto E 396 dL_areStates_429 rfl ?_
                                        exact ih_396 se (b + 1) (by omega) (by omega) (by first | exact bits_t hse hb0 (by assumption) | exact bits_f hse hb0 (by assumption)) (by omega)
                                      · skip
                                        refine z_iconst E dL_areStates_415 ?_
                                        refine z_iload E dL_areStates_416 rfl ?_
                                        refine z_ishl E dL_areStates_418 (by omega) (by omega) ?_
                                        refine z_goto E 423 dL_areStates_419 rfl ?_
                                        refine z_iorS E dL_areStates_423 (by omega) (hsb.1) (hsb.2) ?_
                                        refine z_istore E dL_areStates_424 (L' := [some (.ref (ad G 10 0)), some (.ref (ad G 16 0)), some (.ref (ad G 17 0)), some (.ref (ad G 18 0)), some (.ref (ad G 19 0)), some (.ref (ad G 20 0)), some (.ref (ad G 21 0)), some (.ref (ad G 22 0)), some (.int (iI 1)), some (.int (iI kz)), some (.int (iI ch)), some (.int (iI st)), some (.int (iI su)), some (.int (iI ot)), some (.int (iI ow)), some (.int (iI un)), some (.int (iI (se + (2 ^ b.toNat)))), some (.int (iI b)), none, none, none]) (Nat.le_of_ble_eq_true rfl) rfl ?_
                                        refine z_iinc E b dL_areStates_426 (L' := [some (.ref (ad G 10 0)), some (.ref (ad G 16 0)), some (.ref (ad G 17 0)), some (.ref (ad G 18 0)), some (.ref (ad G 19 0)), some (.ref (ad G 20 0)), some (.ref (ad G 21 0)), some (.ref (ad G 22 0)), some (.int (iI 1)), some (.int (iI kz)), some (.int (iI ch)), some (.int (iI st)), some (.int (iI su)), some (.int (iI ot)), some (.int (iI ow)), some (.int (iI un)), some (.int (iI (se + (2 ^ b.toNat)))), some (.int (iI (b + 1))), none, none, none]) (Nat.le_of_ble_eq_true rfl) rfl rfl ?_
                                        refine z_goto E 396 dL_areStates_429 rfl ?_
                                        exact ih_396 (se + (2 ^ b.toNat)) (b + 1) (by omega) (by omega) (by first | exact bits_t hse hb0 (by assumption) | exact bits_f hse hb0 (by assumption)) (by omega)
                                exact lp_396_19 ((4 - 0 : Int).toNat + 1) 0 0 (by omega) (by omega) bits_0.symm (Nat.lt_succ_self _)
                              · skip
                                refine z_iload E dL_areStates_331 rfl ?_
                                refine z_if_eq E 393 dL_areStates_333 rfl (by omega) (fun c => absurd c (by decide)) (fun _ => ?_)
                                refine z_iload E dL_areStates_336 rfl ?_
                                refine z_aload E dL_areStates_338 rfl ?_
                                refine z_aload E dL_areStates_340 rfl ?_
                                refine z_aload E dL_areStates_342 rfl ?_
                                refine z_iload E dL_areStates_344 rfl ?_
                                refine z_iload E dL_areStates_346 rfl ?_
                                refine z_callS E (n := 5) (st := [.int (iI su)]) [.ref (ad G 20 0), .ref (ad G 21 0), .ref (ad G 22 0), .int (iI kz), .int (iI c)] (kL_read l G P V kz c (by omega) (by omega) hN.vr hN.va hN.vb (hN.th hM hk0 k1 (by omega) (by omega))) gL_areStates_L_read rfl ⟨rfl, rfl⟩ (by decide +kernel) ⟨Nat.le_of_ble_eq_true rfl, Nat.le_of_ble_eq_true rfl⟩ rfl rfl (Nat.le_of_ble_eq_true rfl) rfl dL_areStates_348 (z_dtI ?_)
                                rw [hN.cell hM hk0 k1 hc0 (by omega)]
                                refine z_iadd E dL_areStates_351 ?_
                                refine z_istore E dL_areStates_352 (L' := [some (.ref (ad G 10 0)), some (.ref (ad G 16 0)), some (.ref (ad G 17 0)), some (.ref (ad G 18 0)), some (.ref (ad G 19 0)), some (.ref (ad G 20 0)), some (.ref (ad G 21 0)), some (.ref (ad G 22 0)), some (.int (iI 1)), some (.int (iI kz)), some (.int (iI ch)), some (.int (iI st)), some (.int (iI (su + (mc s kz c)))), some (.int (iI ot)), some (.int (iI ow)), some (.int (iI un)), some (.int (iI 0)), some (.int (iI c)), none, none, none]) (Nat.le_of_ble_eq_true rfl) rfl ?_
                                refine z_aload_n E dL_areStates_354 0 rfl rfl ?_
                                refine z_aload_n E dL_areStates_355 3 rfl rfl ?_
                                refine z_iload E dL_areStates_356 rfl ?_
                                refine z_iald E (rfl : vl G 18 0 = true) 16 rfl (by omega) (by omega) (by omega) dL_areStates_358 ?_
                                refine z_iload E dL_areStates_359 rfl ?_
                                refine z_callV E (ci := 5) (N := 4) (C := RX5) (T := TX5) (n := 2) (st := []) (rfl : vl G 10 0 = true) rfl rfl [.int (iI (V 18 0 kz)), .int (iI c)] (kX5_read l G P V (V 18 0 kz) c hC.w0 hB hC.n0 hC.n1 hC.L (by omega) (by omega)) gL_areStates_X5_read rfl ⟨rfl, rfl⟩ (by decide +kernel) ⟨Nat.le_of_ble_eq_true rfl, Nat.le_of_ble_eq_true rfl⟩ rfl rfl (Nat.le_of_ble_eq_true rfl) rfl dL_areStates_361 (z_dtI ?_)
                                refine z_aload E dL_areStates_364 rfl ?_
                                refine z_aload E dL_areStates_366 rfl ?_
                                refine z_aload E dL_areStates_368 rfl ?_
                                refine z_iload E dL_areStates_370 rfl ?_
                                refine z_iload E dL_areStates_372 rfl ?_
                                refine z_callS E (n := 5) (st := [.int (iI (if 0 ≤ (fnd (V 4 (P 0) 3) (fun k => V 5 (P 0) k = (V 18 0 kz))) ∧ 0 ≤ c ∧ c < 48 then cA (V 2 (P 0)) (V 7 (P 0)) (fnd (V 4 (P 0) 3) (fun k => V 5 (P 0) k = (V 18 0 kz))) c else -1000001))]) [.ref (ad G 20 0), .ref (ad G 21 0), .ref (ad G 22 0), .int (iI kz), .int (iI c)] (kL_read l G P V kz c (by omega) (by omega) hN.vr hN.va hN.vb (hN.th hM hk0 k1 (by omega) (by omega))) gL_areStates_L_read rfl ⟨rfl, rfl⟩ (by decide +kernel) ⟨Nat.le_of_ble_eq_true rfl, Nat.le_of_ble_eq_true rfl⟩ rfl rfl (Nat.le_of_ble_eq_true rfl) rfl dL_areStates_374 (z_dtI ?_)
                                rw [hN.cell hM hk0 k1 hc0 (by omega)]
                                refine z_icne_e E ((rd_at hC.R hN hk0 k1 hc0 (by omega))) dL_areStates_377 384 rfl ?_
                                refine z_iconst E dL_areStates_380 ?_
                                refine z_goto E 385 dL_areStates_381 rfl ?_
                                refine z_istore E dL_areStates_385 (L' := [some (.ref (ad G 10 0)), some (.ref (ad G 16 0)), some (.ref (ad G 17 0)), some (.ref (ad G 18 0)), some (.ref (ad G 19 0)), some (.ref (ad G 20 0)), some (.ref (ad G 21 0)), some (.ref (ad G 22 0)), some (.int (iI 1)), some (.int (iI kz)), some (.int (iI ch)), some (.int (iI st)), some (.int (iI (su + (mc s kz c)))), some (.int (iI ot)), some (.int (iI ow)), some (.int (iI un)), some (.int (iI 0)), some (.int (iI c)), none, none, none]) (Nat.le_of_ble_eq_true rfl) rfl ?_
                                refine z_iinc E c dL_areStates_387 (L' := [some (.ref (ad G 10 0)), some (.ref (ad G 16 0)), some (.ref (ad G 17 0)), some (.ref (ad G 18 0)), some (.ref (ad G 19 0)), some (.ref (ad G 20 0)), some (.ref (ad G 21 0)), some (.ref (ad G 22 0)), some (.int (iI 1)), some (.int (iI kz)), some (.int (iI ch)), some (.int (iI st)), some (.int (iI (su + (mc s kz c)))), some (.int (iI ot)), some (.int (iI ow)), some (.int (iI un)), some (.int (iI 0)), some (.int (iI (c + 1))), none, none, none]) (Nat.le_of_ble_eq_true rfl) rfl rfl ?_
                                refine z_goto E 324 dL_areStates_390 rfl ?_
                                exact ih_324 (su + (mc s kz c)) (c + 1) (by omega) (by omega) (by rw [sm_s hc0, ← hsu]) (by omega)
                          exact lp_324_17 ((48 - 0 : Int).toNat + 1) 0 0 (by omega) (by omega) (sm_0 (by omega)).symm (Nat.lt_succ_self _)
                        · skip
                          refine z_iload E dL_areStates_157 rfl ?_
                          refine z_if_eq E 321 dL_areStates_159 rfl (by omega) (fun c => absurd c (by decide)) (fun _ => ?_)
                          refine z_aload E dL_areStates_162 rfl ?_
                          refine z_iload E dL_areStates_164 rfl ?_
                          refine z_iload E dL_areStates_166 rfl ?_
                          refine z_callS E (n := 3) (st := []) [.ref (ad G 20 0), .int (iI kz), .int (iI q)] (kL_block l G P V kz q (by omega) (by omega) (hN.vr _).1) gL_areStates_L_block rfl ⟨rfl, rfl⟩ (by decide +kernel) ⟨Nat.le_of_ble_eq_true rfl, Nat.le_of_ble_eq_true rfl⟩ rfl rfl (Nat.le_of_ble_eq_true rfl) rfl dL_areStates_168 (z_dtI ?_)
                          rw [hN.r kz q hk0 k1 hq0 (by omega)]
                          have ho1 := hM.l kz q hk0 (by omega) hq0 (by omega)
                          refine z_istore E dL_areStates_171 (L' := [some (.ref (ad G 10 0)), some (.ref (ad G 16 0)), some (.ref (ad G 17 0)), some (.ref (ad G 18 0)), some (.ref (ad G 19 0)), some (.ref (ad G 20 0)), some (.ref (ad G 21 0)), some (.ref (ad G 22 0)), some (.int (iI 1)), some (.int (iI kz)), some (.int (iI ch)), some (.int (iI st)), some (.int (iI 0)), some (.int (iI ot)), some (.int (iI ow)), some (.int (iI un)), some (.int (iI 0)), some (.int (iI q)), some (.int (iI (mo s kz (2 + q)))), none, none]) (Nat.le_of_ble_eq_true rfl) rfl ?_
                          refine z_iload E dL_areStates_173 rfl ?_
                          refine z_iload E dL_areStates_175 rfl ?_
                          refine z_if_le E 206 dL_areStates_177 rfl (by omega) (fun c_106 => ?_) (fun c_106 => ?_)
                          · skip
                            refine z_iconst E dL_areStates_206 ?_
                            refine z_iadd E dL_areStates_207 ?_
                            refine z_istore E dL_areStates_208 (L' := [some (.ref (ad G 10 0)), some (.ref (ad G 16 0)), some (.ref (ad G 17 0)), some (.ref (ad G 18 0)), some (.ref (ad G 19 0)), some (.ref (ad G 20 0)), some (.ref (ad G 21 0)), some (.ref (ad G 22 0)), some (.int (iI 1)), some (.int (iI kz)), some (.int (iI ch)), some (.int (iI st)), some (.int (iI 0)), some (.int (iI (ot + 0))), some (.int (iI ow)), some (.int (iI un)), some (.int (iI 0)), some (.int (iI q)), some (.int (iI (mo s kz (2 + q)))), none, none]) (Nat.le_of_ble_eq_true rfl) rfl ?_
                            refine z_iload E dL_areStates_210 rfl ?_
                            refine z_aload_n E dL_areStates_212 1 rfl rfl ?_
                            refine z_aload E dL_areStates_213 rfl ?_
                            refine z_iload E dL_areStates_215 rfl ?_
                            refine z_iconst E dL_areStates_217 ?_
                            refine z_callS E (n := 4) (st := [.int (iI ow)]) [.ref (ad G 16 0), .ref (ad G 20 0), .int (iI (mo s kz (2 + q))), .int (iI 1)] (kL_uses l G P V (mo s kz (2 + q)) 1 (by omega) hN.vr (by omega) (by omega)) gL_areStates_L_uses rfl ⟨rfl, rfl⟩ (by decide +kernel) ⟨Nat.le_of_ble_eq_true rfl, Nat.le_of_ble_eq_true rfl⟩ rfl rfl (Nat.le_of_ble_eq_true rfl) rfl dL_areStates_218 (z_dtI ?_)
                            have hul := lU_bd (n := V 16 0 0) (R := V 20 0) (st := 1) (b := mo s kz (2 + q)) (by omega) (by omega)
                            refine z_iconst E dL_areStates_221 ?_
                            refine z_icmp_ne E 229 dL_areStates_222 rfl (by omega) (by omega) (fun c_108 => ?_) (fun c_108 => ?_)
                            · skip
                              refine z_iconst E dL_areStates_229 ?_
                              refine z_iadd E dL_areStates_230 ?_
                              refine z_istore E dL_areStates_231 (L' := [some (.ref (ad G 10 0)), some (.ref (ad G 16 0)), some (.ref (ad G 17 0)), some (.ref (ad G 18 0)), some (.ref (ad G 19 0)), some (.ref (ad G 20 0)), some (.ref (ad G 21 0)), some (.ref (ad G 22 0)), some (.int (iI 1)), some (.int (iI kz)), some (.int (iI ch)), some (.int (iI st)), some (.int (iI 0)), some (.int (iI (ot + 0))), some (.int (iI (ow + 0))), some (.int (iI un)), some (.int (iI 0)), some (.int (iI q)), some (.int (iI (mo s kz (2 + q)))), none, none]) (Nat.le_of_ble_eq_true rfl) rfl ?_
                              refine z_iconst E dL_areStates_233 ?_
                              refine z_istore E dL_areStates_234 (L' := [some (.ref (ad G 10 0)), some (.ref (ad G 16 0)), some (.ref (ad G 17 0)), some (.ref (ad G 18 0)), some (.ref (ad G 19 0)), some (.ref (ad G 20 0)), some (.ref (ad G 21 0)), some (.ref (ad G 22 0)), some (.int (iI 1)), some (.int (iI kz)), some (.int (iI ch)), some (.int (iI st)), some (.int (iI 0)), some (.int (iI (ot + 0))), some (.int (iI (ow + 0))), some (.int (iI un)), some (.int (iI 0)), some (.int (iI q)), some (.int (iI (mo s kz (2 + q)))), some (.int (iI 1)), none]) (Nat.le_of_ble_eq_true rfl) rfl ?_
                              refine z_iconst E dL_areStates_236 ?_
                              refine z_istore E dL_areStates_237 (L' := [some (.ref (ad G 10 0)), some (.ref (ad G 16 0)), some (.ref (ad G 17 0)), some (.ref (ad G 18 0)), some (.ref (ad G 19 0)), some (.ref (ad G 20 0)), some (.ref (ad G 21 0)), some (.ref (ad G 22 0)), some (.int (iI 1)), some (.int (iI kz)), some (.int (iI ch)), some (.int (iI st)), some (.int (iI 0)), some (.int (iI (ot + 0))), some (.int (iI (ow + 0))), some (.int (iI un)), some (.int (iI 0)), some (.int (iI q)), some (.int (iI (mo s kz (2 + q)))), some (.int (iI 1)), some (.int (iI 0))]) (Nat.le_of_ble_eq_true rfl) rfl ?_
                              have lp_239_109 : ∀ (fuel : Nat) (fi : Int) (e : Int), (0 ≤ e) → (e ≤ q) → (fi = b2i (∀ j, 0 ≤ j → j < e → ¬ mo s kz (2 + j) = mo s kz (2 + q))) → (fi = 0 ∨ fi = 1) → (q - e : Int).toNat < fuel → Kz X G P V 0 0 [some (.ref (ad G 10 0)), some (.ref (ad G 16 0)), some (.ref (ad G 17 0)), some (.ref (ad G 18 0)), some (.ref (ad G 19 0)), some (.ref (ad G 20 0)), some (.ref (ad G 21 0)), some (.ref (ad G 22 0)), some (.int (iI 1)), some (.int (iI kz)), some (.int (iI ch)), some (.int (iI st)), some (.int (iI 0)), some (.int (iI (ot + 0))), some (.int (iI (ow + 0))), some (.int (iI un)), some (.int (iI 0)), some (.int (iI q)), some (.int (iI (mo s kz (2 + q)))), some (.int (iI fi)), some (.int (iI e))] 239 [] := by
                                intro fuel
                                induction fuel with
                                | zero => intro fi e he0 he1 hfi hf01 hf_239; exact absurd hf_239 (Nat.not_lt_zero _)
                                | succ fuel ih_239 =>
                                  intro fi e he0 he1 hfi hf01 hf_239
                                  refine z_iload E dL_areStates_239 rfl ?_
                                  refine z_iload E dL_areStates_241 rfl ?_
                                  refine z_icmp_ge E 278 dL_areStates_243 rfl (by omega) (by omega) (fun c_110 => ?_) (fun c_110 => ?_)
                                  · skip
                                    have he : e = q := by omega
                                    rw [he] at hfi
                                    have hft : ¬ fi = 0 → ∀ j, 0 ≤ j → j < q → ¬ mo s kz (2 + j) = mo s kz (2 + q) := fun z => b2i_eq1.mp (by rw [← hfi]; omega)
                                    have hff : fi = 0 → ¬ (∀ j, 0 ≤ j → j < q → ¬ mo s kz (2 + j) = mo s kz (2 + q)) := fun z => b2i_eq0.mp (by rw [← hfi]; exact z)
                                    refine z_iload E dL_areStates_278 rfl ?_
                                    refine z_iload E dL_areStates_280 rfl ?_
                                    refine z_if_eq E 289 dL_areStates_282 rfl (by omega) (fun c_111 => ?_) (fun c_111 => ?_)
                                    · skip
                                      refine z_iconst E dL_areStates_289 ?_
                                      refine z_iadd E dL_areStates_290 ?_
                                      refine z_istore E dL_areStates_291 (L' := [some (.ref (ad G 10 0)), some (.ref (ad G 16 0)), some (.ref (ad G 17 0)), some (.ref (ad G 18 0)), some (.ref (ad G 19 0)), some (.ref (ad G 20 0)), some (.ref (ad G 21 0)), some (.ref (ad G 22 0)), some (.int (iI 1)), some (.int (iI kz)), some (.int (iI ch)), some (.int (iI st)), some (.int (iI 0)), some (.int (iI (ot + 0))), some (.int (iI (ow + 0))), some (.int (iI (un + 0))), some (.int (iI 0)), some (.int (iI q)), some (.int (iI (mo s kz (2 + q)))), some (.int (iI fi)), some (.int (iI e))]) (Nat.le_of_ble_eq_true rfl) rfl ?_
                                      refine z_aload_n E dL_areStates_293 0 rfl rfl ?_
                                      refine z_aload_n E dL_areStates_294 3 rfl rfl ?_
                                      refine z_iload E dL_areStates_295 rfl ?_
                                      refine z_iald E (rfl : vl G 18 0 = true) 16 rfl (by omega) (by omega) (by omega) dL_areStates_297 ?_
                                      refine z_iload E dL_areStates_298 rfl ?_
                                      refine z_callV E (ci := 5) (N := 4) (C := RX5) (T := TX5) (n := 2) (st := []) (rfl : vl G 10 0 = true) rfl rfl [.int (iI (V 18 0 kz)), .int (iI q)] (kX5_blockAt l G P V (V 18 0 kz) q hC.w0 hB hC.n0 hC.n1 hC.L (by omega) (by omega)) gL_areStates_X5_blockAt rfl ⟨rfl, rfl⟩ (by decide +kernel) ⟨Nat.le_of_ble_eq_true rfl, Nat.le_of_ble_eq_true rfl⟩ rfl rfl (Nat.le_of_ble_eq_true rfl) rfl dL_areStates_300 (z_dtI ?_)
                                      refine z_iload E dL_areStates_303 rfl ?_
                                      refine z_icne_e E ((ba_at hC.R hN hk0 k1 hq0 (by omega))) dL_areStates_305 312 rfl ?_
                                      refine z_iconst E dL_areStates_308 ?_
                                      refine z_goto E 313 dL_areStates_309 rfl ?_
                                      refine z_istore E dL_areStates_313 (L' := [some (.ref (ad G 10 0)), some (.ref (ad G 16 0)), some (.ref (ad G 17 0)), some (.ref (ad G 18 0)), some (.ref (ad G 19 0)), some (.ref (ad G 20 0)), some (.ref (ad G 21 0)), some (.ref (ad G 22 0)), some (.int (iI 1)), some (.int (iI kz)), some (.int (iI ch)), some (.int (iI st)), some (.int (iI 0)), some (.int (iI (ot + 0))), some (.int (iI (ow + 0))), some (.int (iI (un + 0))), some (.int (iI 0)), some (.int (iI q)), some (.int (iI (mo s kz (2 + q)))), some (.int (iI fi)), some (.int (iI e))]) (Nat.le_of_ble_eq_true rfl) rfl ?_
                                      refine z_iinc E q dL_areStates_315 (L' := [some (.ref (ad G 10 0)), some (.ref (ad G 16 0)), some (.ref (ad G 17 0)), some (.ref (ad G 18 0)), some (.ref (ad G 19 0)), some (.ref (ad G 20 0)), some (.ref (ad G 21 0)), some (.ref (ad G 22 0)), some (.int (iI 1)), some (.int (iI kz)), some (.int (iI ch)), some (.int (iI st)), some (.int (iI 0)), some (.int (iI (ot + 0))), some (.int (iI (ow + 0))), some (.int (iI (un + 0))), some (.int (iI 0)), some (.int (iI (q + 1))), some (.int (iI (mo s kz (2 + q)))), some (.int (iI fi)), some (.int (iI e))]) (Nat.le_of_ble_eq_true rfl) rfl rfl ?_
                                      refine z_goto E 150 dL_areStates_318 rfl ?_
                                      refine Kz.drop 18 (L' := [some (.ref (ad G 10 0)), some (.ref (ad G 16 0)), some (.ref (ad G 17 0)), some (.ref (ad G 18 0)), some (.ref (ad G 19 0)), some (.ref (ad G 20 0)), some (.ref (ad G 21 0)), some (.ref (ad G 22 0)), some (.int (iI 1)), some (.int (iI kz)), some (.int (iI ch)), some (.int (iI st)), some (.int (iI 0)), some (.int (iI (ot + 0))), some (.int (iI (ow + 0))), some (.int (iI (un + 0))), some (.int (iI 0)), some (.int (iI (q + 1))), none, some (.int (iI fi)), some (.int (iI e))]) rfl ?_
                                      refine Kz.drop 19 (L' := [some (.ref (ad G 10 0)), some (.ref (ad G 16 0)), some (.ref (ad G 17 0)), some (.ref (ad G 18 0)), some (.ref (ad G 19 0)), some (.ref (ad G 20 0)), some (.ref (ad G 21 0)), some (.ref (ad G 22 0)), some (.int (iI 1)), some (.int (iI kz)), some (.int (iI ch)), some (.int (iI st)), some (.int (iI 0)), some (.int (iI (ot + 0))), some (.int (iI (ow + 0))), some (.int (iI (un + 0))), some (.int (iI 0)), some (.int (iI (q + 1))), none, none, some (.int (iI e))]) rfl ?_
                                      refine Kz.drop 20 (L' := [some (.ref (ad G 10 0)), some (.ref (ad G 16 0)), some (.ref (ad G 17 0)), some (.ref (ad G 18 0)), some (.ref (ad G 19 0)), some (.ref (ad G 20 0)), some (.ref (ad G 21 0)), some (.ref (ad G 22 0)), some (.int (iI 1)), some (.int (iI kz)), some (.int (iI ch)), some (.int (iI st)), some (.int (iI 0)), some (.int (iI (ot + 0))), some (.int (iI (ow + 0))), some (.int (iI (un + 0))), some (.int (iI 0)), some (.int (iI (q + 1))), none, none, none]) rfl ?_
                                      exact ih_150 (ot + 0) (ow + 0) (un + 0) (q + 1) (by omega) (by omega) (by first | exact smb_t ho hq0 ⟨by omega, by assumption⟩ | exact smb_f ho hq0 (fun z => absurd z.1 (by omega)) | exact smb_f ho hq0 (fun z => z.2 (by assumption))) (by first | exact smb_t hw hq0 (by omega) | exact smb_f hw hq0 (by omega)) (by first | exact smb_t hu hq0 (hft (by omega)) | exact smb_f hu hq0 (hff (by omega))) (by omega)
                                    · skip
                                      refine z_iconst E dL_areStates_285 ?_
                                      refine z_goto E 290 dL_areStates_286 rfl ?_
                                      refine z_iadd E dL_areStates_290 ?_
                                      refine z_istore E dL_areStates_291 (L' := [some (.ref (ad G 10 0)), some (.ref (ad G 16 0)), some (.ref (ad G 17 0)), some (.ref (ad G 18 0)), some (.ref (ad G 19 0)), some (.ref (ad G 20 0)), some (.ref (ad G 21 0)), some (.ref (ad G 22 0)), some (.int (iI 1)), some (.int (iI kz)), some (.int (iI ch)), some (.int (iI st)), some (.int (iI 0)), some (.int (iI (ot + 0))), some (.int (iI (ow + 0))), some (.int (iI (un + 1))), some (.int (iI 0)), some (.int (iI q)), some (.int (iI (mo s kz (2 + q)))), some (.int (iI fi)), some (.int (iI e))]) (Nat.le_of_ble_eq_true rfl) rfl ?_
                                      refine z_aload_n E dL_areStates_293 0 rfl rfl ?_
                                      refine z_aload_n E dL_areStates_294 3 rfl rfl ?_
                                      refine z_iload E dL_areStates_295 rfl ?_
                                      refine z_iald E (rfl : vl G 18 0 = true) 16 rfl (by omega) (by omega) (by omega) dL_areStates_297 ?_
                                      refine z_iload E dL_areStates_298 rfl ?_
                                      refine z_callV E (ci := 5) (N := 4) (C := RX5) (T := TX5) (n := 2) (st := []) (rfl : vl G 10 0 = true) rfl rfl [.int (iI (V 18 0 kz)), .int (iI q)] (kX5_blockAt l G P V (V 18 0 kz) q hC.w0 hB hC.n0 hC.n1 hC.L (by omega) (by omega)) gL_areStates_X5_blockAt rfl ⟨rfl, rfl⟩ (by decide +kernel) ⟨Nat.le_of_ble_eq_true rfl, Nat.le_of_ble_eq_true rfl⟩ rfl rfl (Nat.le_of_ble_eq_true rfl) rfl dL_areStates_300 (z_dtI ?_)
                                      refine z_iload E dL_areStates_303 rfl ?_
                                      refine z_icne_e E ((ba_at hC.R hN hk0 k1 hq0 (by omega))) dL_areStates_305 312 rfl ?_
                                      refine z_iconst E dL_areStates_308 ?_
                                      refine z_goto E 313 dL_areStates_309 rfl ?_
                                      refine z_istore E dL_areStates_313 (L' := [some (.ref (ad G 10 0)), some (.ref (ad G 16 0)), some (.ref (ad G 17 0)), some (.ref (ad G 18 0)), some (.ref (ad G 19 0)), some (.ref (ad G 20 0)), some (.ref (ad G 21 0)), some (.ref (ad G 22 0)), some (.int (iI 1)), some (.int (iI kz)), some (.int (iI ch)), some (.int (iI st)), some (.int (iI 0)), some (.int (iI (ot + 0))), some (.int (iI (ow + 0))), some (.int (iI (un + 1))), some (.int (iI 0)), some (.int (iI q)), some (.int (iI (mo s kz (2 + q)))), some (.int (iI fi)), some (.int (iI e))]) (Nat.le_of_ble_eq_true rfl) rfl ?_
                                      refine z_iinc E q dL_areStates_315 (L' := [some (.ref (ad G 10 0)), some (.ref (ad G 16 0)), some (.ref (ad G 17 0)), some (.ref (ad G 18 0)), some (.ref (ad G 19 0)), some (.ref (ad G 20 0)), some (.ref (ad G 21 0)), some (.ref (ad G 22 0)), some (.int (iI 1)), some (.int (iI kz)), some (.int (iI ch)), some (.int (iI st)), some (.int (iI 0)), some (.int (iI (ot + 0))), some (.int (iI (ow + 0))), some (.int (iI (un + 1))), some (.int (iI 0)), some (.int (iI (q + 1))), some (.int (iI (mo s kz (2 + q)))), some (.int (iI fi)), some (.int (iI e))]) (Nat.le_of_ble_eq_true rfl) rfl rfl ?_
                                      refine z_goto E 150 dL_areStates_318 rfl ?_
                                      refine Kz.drop 18 (L' := [some (.ref (ad G 10 0)), some (.ref (ad G 16 0)), some (.ref (ad G 17 0)), some (.ref (ad G 18 0)), some (.ref (ad G 19 0)), some (.ref (ad G 20 0)), some (.ref (ad G 21 0)), some (.ref (ad G 22 0)), some (.int (iI 1)), some (.int (iI kz)), some (.int (iI ch)), some (.int (iI st)), some (.int (iI 0)), some (.int (iI (ot + 0))), some (.int (iI (ow + 0))), some (.int (iI (un + 1))), some (.int (iI 0)), some (.int (iI (q + 1))), none, some (.int (iI fi)), some (.int (iI e))]) rfl ?_
                                      refine Kz.drop 19 (L' := [some (.ref (ad G 10 0)), some (.ref (ad G 16 0)), some (.ref (ad G 17 0)), some (.ref (ad G 18 0)), some (.ref (ad G 19 0)), some (.ref (ad G 20 0)), some (.ref (ad G 21 0)), some (.ref (ad G 22 0)), some (.int (iI 1)), some (.int (iI kz)), some (.int (iI ch)), some (.int (iI st)), some (.int (iI 0)), some (.int (iI (ot + 0))), some (.int (iI (ow + 0))), some (.int (iI (un + 1))), some (.int (iI 0)), some (.int (iI (q + 1))), none, none, some (.int (iI e))]) rfl ?_
                                      refine Kz.drop 20 (L' := [some (.ref (ad G 10 0)), some (.ref (ad G 16 0)), some (.ref (ad G 17 0)), some (.ref (ad G 18 0)), some (.ref (ad G 19 0)), some (.ref (ad G 20 0)), some (.ref (ad G 21 0)), some (.ref (ad G 22 0)), some (.int (iI 1)), some (.int (iI kz)), some (.int (iI ch)), some (.int (iI st)), some (.int (iI 0)), some (.int (iI (ot + 0))), some (.int (iI (ow + 0))), some (.int (iI (un + 1))), some (.int (iI 0)), some (.int (iI (q + 1))), none, none, none]) rfl ?_
                                      exact ih_150 (ot + 0) (ow + 0) (un + 1) (q + 1) (by omega) (by omega) (by first | exact smb_t ho hq0 ⟨by omega, by assumption⟩ | exact smb_f ho hq0 (fun z => absurd z.1 (by omega)) | exact smb_f ho hq0 (fun z => z.2 (by assumption))) (by first | exact smb_t hw hq0 (by omega) | exact smb_f hw hq0 (by omega)) (by first | exact smb_t hu hq0 (hft (by omega)) | exact smb_f hu hq0 (hff (by omega))) (by omega)
                                  · skip
                                    refine z_iload E dL_areStates_246 rfl ?_
                                    refine z_if_eq E 269 dL_areStates_248 rfl (by omega) (fun c_116 => ?_) (fun c_116 => ?_)
                                    · skip
                                      refine z_iconst E dL_areStates_269 ?_
                                      refine z_istore E dL_areStates_270 (L' := [some (.ref (ad G 10 0)), some (.ref (ad G 16 0)), some (.ref (ad G 17 0)), some (.ref (ad G 18 0)), some (.ref (ad G 19 0)), some (.ref (ad G 20 0)), some (.ref (ad G 21 0)), some (.ref (ad G 22 0)), some (.int (iI 1)), some (.int (iI kz)), some (.int (iI ch)), some (.int (iI st)), some (.int (iI 0)), some (.int (iI (ot + 0))), some (.int (iI (ow + 0))), some (.int (iI un)), some (.int (iI 0)), some (.int (iI q)), some (.int (iI (mo s kz (2 + q)))), some (.int (iI 0)), some (.int (iI e))]) (Nat.le_of_ble_eq_true rfl) rfl ?_
                                      refine z_iinc E e dL_areStates_272 (L' := [some (.ref (ad G 10 0)), some (.ref (ad G 16 0)), some (.ref (ad G 17 0)), some (.ref (ad G 18 0)), some (.ref (ad G 19 0)), some (.ref (ad G 20 0)), some (.ref (ad G 21 0)), some (.ref (ad G 22 0)), some (.int (iI 1)), some (.int (iI kz)), some (.int (iI ch)), some (.int (iI st)), some (.int (iI 0)), some (.int (iI (ot + 0))), some (.int (iI (ow + 0))), some (.int (iI un)), some (.int (iI 0)), some (.int (iI q)), some (.int (iI (mo s kz (2 + q)))), some (.int (iI 0)), some (.int (iI (e + 1)))]) (Nat.le_of_ble_eq_true rfl) rfl rfl ?_
                                      refine z_goto E 239 dL_areStates_275 rfl ?_
                                      exact ih_239 0 (e + 1) (by omega) (by omega) (by first | exact ba_1 hfi (by omega) (by assumption) | exact ba_0a hfi (by omega) | exact ba_0p he0 (fun z => z (by assumption))) (by omega) (by omega)
                                    · skip
                                      refine z_aload E dL_areStates_251 rfl ?_
                                      refine z_iload E dL_areStates_253 rfl ?_
                                      refine z_iload E dL_areStates_255 rfl ?_
                                      refine z_callS E (n := 3) (st := []) [.ref (ad G 20 0), .int (iI kz), .int (iI e)] (kL_block l G P V kz e (by omega) (by omega) (hN.vr _).1) gL_areStates_L_block rfl ⟨rfl, rfl⟩ (by decide +kernel) ⟨Nat.le_of_ble_eq_true rfl, Nat.le_of_ble_eq_true rfl⟩ rfl rfl (Nat.le_of_ble_eq_true rfl) rfl dL_areStates_257 (z_dtI ?_)
                                      rw [hN.r kz e hk0 k1 he0 (by omega)]
                                      have he2 := hM.l kz e hk0 (by omega) he0 (by omega)
                                      refine z_iload E dL_areStates_260 rfl ?_
                                      refine z_icmp_eq E 269 dL_areStates_262 rfl (by omega) (by omega) (fun c_118 => ?_) (fun c_118 => ?_)
                                      · skip
                                        refine z_iconst E dL_areStates_269 ?_
                                        refine z_istore E dL_areStates_270 (L' := [some (.ref (ad G 10 0)), some (.ref (ad G 16 0)), some (.ref (ad G 17 0)), some (.ref (ad G 18 0)), some (.ref (ad G 19 0)), some (.ref (ad G 20 0)), some (.ref (ad G 21 0)), some (.ref (ad G 22 0)), some (.int (iI 1)), some (.int (iI kz)), some (.int (iI ch)), some (.int (iI st)), some (.int (iI 0)), some (.int (iI (ot + 0))), some (.int (iI (ow + 0))), some (.int (iI un)), some (.int (iI 0)), some (.int (iI q)), some (.int (iI (mo s kz (2 + q)))), some (.int (iI 0)), some (.int (iI e))]) (Nat.le_of_ble_eq_true rfl) rfl ?_
                                        refine z_iinc E e dL_areStates_272 (L' := [some (.ref (ad G 10 0)), some (.ref (ad G 16 0)), some (.ref (ad G 17 0)), some (.ref (ad G 18 0)), some (.ref (ad G 19 0)), some (.ref (ad G 20 0)), some (.ref (ad G 21 0)), some (.ref (ad G 22 0)), some (.int (iI 1)), some (.int (iI kz)), some (.int (iI ch)), some (.int (iI st)), some (.int (iI 0)), some (.int (iI (ot + 0))), some (.int (iI (ow + 0))), some (.int (iI un)), some (.int (iI 0)), some (.int (iI q)), some (.int (iI (mo s kz (2 + q)))), some (.int (iI 0)), some (.int (iI (e + 1)))]) (Nat.le_of_ble_eq_true rfl) rfl rfl ?_
                                        refine z_goto E 239 dL_areStates_275 rfl ?_
                                        exact ih_239 0 (e + 1) (by omega) (by omega) (by first | exact ba_1 hfi (by omega) (by assumption) | exact ba_0a hfi (by omega) | exact ba_0p he0 (fun z => z (by assumption))) (by omega) (by omega)
                                      · skip
                                        refine z_iconst E dL_areStates_265 ?_
                                        refine z_goto E 270 dL_areStates_266 rfl ?_
                                        refine z_istore E dL_areStates_270 (L' := [some (.ref (ad G 10 0)), some (.ref (ad G 16 0)), some (.ref (ad G 17 0)), some (.ref (ad G 18 0)), some (.ref (ad G 19 0)), some (.ref (ad G 20 0)), some (.ref (ad G 21 0)), some (.ref (ad G 22 0)), some (.int (iI 1)), some (.int (iI kz)), some (.int (iI ch)), some (.int (iI st)), some (.int (iI 0)), some (.int (iI (ot + 0))), some (.int (iI (ow + 0))), some (.int (iI un)), some (.int (iI 0)), some (.int (iI q)), some (.int (iI (mo s kz (2 + q)))), some (.int (iI 1)), some (.int (iI e))]) (Nat.le_of_ble_eq_true rfl) rfl ?_
                                        refine z_iinc E e dL_areStates_272 (L' := [some (.ref (ad G 10 0)), some (.ref (ad G 16 0)), some (.ref (ad G 17 0)), some (.ref (ad G 18 0)), some (.ref (ad G 19 0)), some (.ref (ad G 20 0)), some (.ref (ad G 21 0)), some (.ref (ad G 22 0)), some (.int (iI 1)), some (.int (iI kz)), some (.int (iI ch)), some (.int (iI st)), some (.int (iI 0)), some (.int (iI (ot + 0))), some (.int (iI (ow + 0))), some (.int (iI un)), some (.int (iI 0)), some (.int (iI q)), some (.int (iI (mo s kz (2 + q)))), some (.int (iI 1)), some (.int (iI (e + 1)))]) (Nat.le_of_ble_eq_true rfl) rfl rfl ?_
                                        refine z_goto E 239 dL_areStates_275 rfl ?_
                                        exact ih_239 1 (e + 1) (by omega) (by omega) (by first | exact ba_1 hfi (by omega) (by assumption) | exact ba_0a hfi (by omega) | exact ba_0p he0 (fun z => z (by assumption))) (by omega) (by omega)
                              exact lp_239_109 ((q - 0 : Int).toNat + 1) 1 0 (by omega) (by omega) ba_i (by omega) (Nat.lt_succ_self _)
                            · skip
                              refine z_iconst E dL_areStates_225 ?_
                              refine z_goto E 230 dL_areStates_226 rfl ?_
                              refine z_iadd E dL_areStates_230 ?_
                              refine z_istore E dL_areStates_231 (L' := [some (.ref (ad G 10 0)), some (.ref (ad G 16 0)), some (.ref (ad G 17 0)), some (.ref (ad G 18 0)), some (.ref (ad G 19 0)), some (.ref (ad G 20 0)), some (.ref (ad G 21 0)), some (.ref (ad G 22 0)), some (.int (iI 1)), some (.int (iI kz)), some (.int (iI ch)), some (.int (iI st)), some (.int (iI 0)), some (.int (iI (ot + 0))), some (.int (iI (ow + 1))), some (.int (iI un)), some (.int (iI 0)), some (.int (iI q)), some (.int (iI (mo s kz (2 + q)))), none, none]) (Nat.le_of_ble_eq_true rfl) rfl ?_
                              refine z_iconst E dL_areStates_233 ?_
                              refine z_istore E dL_areStates_234 (L' := [some (.ref (ad G 10 0)), some (.ref (ad G 16 0)), some (.ref (ad G 17 0)), some (.ref (ad G 18 0)), some (.ref (ad G 19 0)), some (.ref (ad G 20 0)), some (.ref (ad G 21 0)), some (.ref (ad G 22 0)), some (.int (iI 1)), some (.int (iI kz)), some (.int (iI ch)), some (.int (iI st)), some (.int (iI 0)), some (.int (iI (ot + 0))), some (.int (iI (ow + 1))), some (.int (iI un)), some (.int (iI 0)), some (.int (iI q)), some (.int (iI (mo s kz (2 + q)))), some (.int (iI 1)), none]) (Nat.le_of_ble_eq_true rfl) rfl ?_
                              refine z_iconst E dL_areStates_236 ?_
                              refine z_istore E dL_areStates_237 (L' := [some (.ref (ad G 10 0)), some (.ref (ad G 16 0)), some (.ref (ad G 17 0)), some (.ref (ad G 18 0)), some (.ref (ad G 19 0)), some (.ref (ad G 20 0)), some (.ref (ad G 21 0)), some (.ref (ad G 22 0)), some (.int (iI 1)), some (.int (iI kz)), some (.int (iI ch)), some (.int (iI st)), some (.int (iI 0)), some (.int (iI (ot + 0))), some (.int (iI (ow + 1))), some (.int (iI un)), some (.int (iI 0)), some (.int (iI q)), some (.int (iI (mo s kz (2 + q)))), some (.int (iI 1)), some (.int (iI 0))]) (Nat.le_of_ble_eq_true rfl) rfl ?_
                              have lp_239_119 : ∀ (fuel : Nat) (fi : Int) (e : Int), (0 ≤ e) → (e ≤ q) → (fi = b2i (∀ j, 0 ≤ j → j < e → ¬ mo s kz (2 + j) = mo s kz (2 + q))) → (fi = 0 ∨ fi = 1) → (q - e : Int).toNat < fuel → Kz X G P V 0 0 [some (.ref (ad G 10 0)), some (.ref (ad G 16 0)), some (.ref (ad G 17 0)), some (.ref (ad G 18 0)), some (.ref (ad G 19 0)), some (.ref (ad G 20 0)), some (.ref (ad G 21 0)), some (.ref (ad G 22 0)), some (.int (iI 1)), some (.int (iI kz)), some (.int (iI ch)), some (.int (iI st)), some (.int (iI 0)), some (.int (iI (ot + 0))), some (.int (iI (ow + 1))), some (.int (iI un)), some (.int (iI 0)), some (.int (iI q)), some (.int (iI (mo s kz (2 + q)))), some (.int (iI fi)), some (.int (iI e))] 239 [] := by
                                intro fuel
                                induction fuel with
                                | zero => intro fi e he0 he1 hfi hf01 hf_239; exact absurd hf_239 (Nat.not_lt_zero _)
                                | succ fuel ih_239 =>
                                  intro fi e he0 he1 hfi hf01 hf_239
                                  refine z_iload E dL_areStates_239 rfl ?_
                                  refine z_iload E dL_areStates_241 rfl ?_
                                  refine z_icmp_ge E 278 dL_areStates_243 rfl (by omega) (by omega) (fun c_120 => ?_) (fun c_120 => ?_)
                                  · skip
                                    have he : e = q := by omega
                                    rw [he] at hfi
                                    have hft : ¬ fi = 0 → ∀ j, 0 ≤ j → j < q → ¬ mo s kz (2 + j) = mo s kz (2 + q) := fun z => b2i_eq1.mp (by rw [← hfi]; omega)
                                    have hff : fi = 0 → ¬ (∀ j, 0 ≤ j → j < q → ¬ mo s kz (2 + j) = mo s kz (2 + q)) := fun z => b2i_eq0.mp (by rw [← hfi]; exact z)
                                    refine z_iload E dL_areStates_278 rfl ?_
                                    refine z_iload E dL_areStates_280 rfl ?_
                                    refine z_if_eq E 289 dL_areStates_282 rfl (by omega) (fun c_121 => ?_) (fun c_121 => ?_)
                                    · skip
                                      refine z_iconst E dL_areStates_289 ?_
                                      refine z_iadd E dL_areStates_290 ?_
                                      refine z_istore E dL_areStates_291 (L' := [some (.ref (ad G 10 0)), some (.ref (ad G 16 0)), some (.ref (ad G 17 0)), some (.ref (ad G 18 0)), some (.ref (ad G 19 0)), some (.ref (ad G 20 0)), some (.ref (ad G 21 0)), some (.ref (ad G 22 0)), some (.int (iI 1)), some (.int (iI kz)), some (.int (iI ch)), some (.int (iI st)), some (.int (iI 0)), some (.int (iI (ot + 0))), some (.int (iI (ow + 1))), some (.int (iI (un + 0))), some (.int (iI 0)), some (.int (iI q)), some (.int (iI (mo s kz (2 + q)))), some (.int (iI fi)), some (.int (iI e))]) (Nat.le_of_ble_eq_true rfl) rfl ?_
                                      refine z_aload_n E dL_areStates_293 0 rfl rfl ?_
                                      refine z_aload_n E dL_areStates_294 3 rfl rfl ?_
                                      refine z_iload E dL_areStates_295 rfl ?_
                                      refine z_iald E (rfl : vl G 18 0 = true) 16 rfl (by omega) (by omega) (by omega) dL_areStates_297 ?_
                                      refine z_iload E dL_areStates_298 rfl ?_
                                      refine z_callV E (ci := 5) (N := 4) (C := RX5) (T := TX5) (n := 2) (st := []) (rfl : vl G 10 0 = true) rfl rfl [.int (iI (V 18 0 kz)), .int (iI q)] (kX5_blockAt l G P V (V 18 0 kz) q hC.w0 hB hC.n0 hC.n1 hC.L (by omega) (by omega)) gL_areStates_X5_blockAt rfl ⟨rfl, rfl⟩ (by decide +kernel) ⟨Nat.le_of_ble_eq_true rfl, Nat.le_of_ble_eq_true rfl⟩ rfl rfl (Nat.le_of_ble_eq_true rfl) rfl dL_areStates_300 (z_dtI ?_)
                                      refine z_iload E dL_areStates_303 rfl ?_
                                      refine z_icne_e E ((ba_at hC.R hN hk0 k1 hq0 (by omega))) dL_areStates_305 312 rfl ?_
                                      refine z_iconst E dL_areStates_308 ?_
                                      refine z_goto E 313 dL_areStates_309 rfl ?_
                                      refine z_istore E dL_areStates_313 (L' := [some (.ref (ad G 10 0)), some (.ref (ad G 16 0)), some (.ref (ad G 17 0)), some (.ref (ad G 18 0)), some (.ref (ad G 19 0)), some (.ref (ad G 20 0)), some (.ref (ad G 21 0)), some (.ref (ad G 22 0)), some (.int (iI 1)), some (.int (iI kz)), some (.int (iI ch)), some (.int (iI st)), some (.int (iI 0)), some (.int (iI (ot + 0))), some (.int (iI (ow + 1))), some (.int (iI (un + 0))), some (.int (iI 0)), some (.int (iI q)), some (.int (iI (mo s kz (2 + q)))), some (.int (iI fi)), some (.int (iI e))]) (Nat.le_of_ble_eq_true rfl) rfl ?_
                                      refine z_iinc E q dL_areStates_315 (L' := [some (.ref (ad G 10 0)), some (.ref (ad G 16 0)), some (.ref (ad G 17 0)), some (.ref (ad G 18 0)), some (.ref (ad G 19 0)), some (.ref (ad G 20 0)), some (.ref (ad G 21 0)), some (.ref (ad G 22 0)), some (.int (iI 1)), some (.int (iI kz)), some (.int (iI ch)), some (.int (iI st)), some (.int (iI 0)), some (.int (iI (ot + 0))), some (.int (iI (ow + 1))), some (.int (iI (un + 0))), some (.int (iI 0)), some (.int (iI (q + 1))), some (.int (iI (mo s kz (2 + q)))), some (.int (iI fi)), some (.int (iI e))]) (Nat.le_of_ble_eq_true rfl) rfl rfl ?_
                                      refine z_goto E 150 dL_areStates_318 rfl ?_
                                      refine Kz.drop 18 (L' := [some (.ref (ad G 10 0)), some (.ref (ad G 16 0)), some (.ref (ad G 17 0)), some (.ref (ad G 18 0)), some (.ref (ad G 19 0)), some (.ref (ad G 20 0)), some (.ref (ad G 21 0)), some (.ref (ad G 22 0)), some (.int (iI 1)), some (.int (iI kz)), some (.int (iI ch)), some (.int (iI st)), some (.int (iI 0)), some (.int (iI (ot + 0))), some (.int (iI (ow + 1))), some (.int (iI (un + 0))), some (.int (iI 0)), some (.int (iI (q + 1))), none, some (.int (iI fi)), some (.int (iI e))]) rfl ?_
                                      refine Kz.drop 19 (L' := [some (.ref (ad G 10 0)), some (.ref (ad G 16 0)), some (.ref (ad G 17 0)), some (.ref (ad G 18 0)), some (.ref (ad G 19 0)), some (.ref (ad G 20 0)), some (.ref (ad G 21 0)), some (.ref (ad G 22 0)), some (.int (iI 1)), some (.int (iI kz)), some (.int (iI ch)), some (.int (iI st)), some (.int (iI 0)), some (.int (iI (ot + 0))), some (.int (iI (ow + 1))), some (.int (iI (un + 0))), some (.int (iI 0)), some (.int (iI (q + 1))), none, none, some (.int (iI e))]) rfl ?_
                                      refine Kz.drop 20 (L' := [some (.ref (ad G 10 0)), some (.ref (ad G 16 0)), some (.ref (ad G 17 0)), some (.ref (ad G 18 0)), some (.ref (ad G 19 0)), some (.ref (ad G 20 0)), some (.ref (ad G 21 0)), some (.ref (ad G 22 0)), some (.int (iI 1)), some (.int (iI kz)), some (.int (iI ch)), some (.int (iI st)), some (.int (iI 0)), some (.int (iI (ot + 0))), some (.int (iI (ow + 1))), some (.int (iI (un + 0))), some (.int (iI 0)), some (.int (iI (q + 1))), none, none, none]) rfl ?_
                                      exact ih_150 (ot + 0) (ow + 1) (un + 0) (q + 1) (by omega) (by omega) (by first | exact smb_t ho hq0 ⟨by omega, by assumption⟩ | exact smb_f ho hq0 (fun z => absurd z.1 (by omega)) | exact smb_f ho hq0 (fun z => z.2 (by assumption))) (by first | exact smb_t hw hq0 (by omega) | exact smb_f hw hq0 (by omega)) (by first | exact smb_t hu hq0 (hft (by omega)) | exact smb_f hu hq0 (hff (by omega))) (by omega)
                                    · skip
                                      refine z_iconst E dL_areStates_285 ?_
                                      refine z_goto E 290 dL_areStates_286 rfl ?_
                                      refine z_iadd E dL_areStates_290 ?_
                                      refine z_istore E dL_areStates_291 (L' := [some (.ref (ad G 10 0)), some (.ref (ad G 16 0)), some (.ref (ad G 17 0)), some (.ref (ad G 18 0)), some (.ref (ad G 19 0)), some (.ref (ad G 20 0)), some (.ref (ad G 21 0)), some (.ref (ad G 22 0)), some (.int (iI 1)), some (.int (iI kz)), some (.int (iI ch)), some (.int (iI st)), some (.int (iI 0)), some (.int (iI (ot + 0))), some (.int (iI (ow + 1))), some (.int (iI (un + 1))), some (.int (iI 0)), some (.int (iI q)), some (.int (iI (mo s kz (2 + q)))), some (.int (iI fi)), some (.int (iI e))]) (Nat.le_of_ble_eq_true rfl) rfl ?_
                                      refine z_aload_n E dL_areStates_293 0 rfl rfl ?_
                                      refine z_aload_n E dL_areStates_294 3 rfl rfl ?_
                                      refine z_iload E dL_areStates_295 rfl ?_
                                      refine z_iald E (rfl : vl G 18 0 = true) 16 rfl (by omega) (by omega) (by omega) dL_areStates_297 ?_
                                      refine z_iload E dL_areStates_298 rfl ?_
                                      refine z_callV E (ci := 5) (N := 4) (C := RX5) (T := TX5) (n := 2) (st := []) (rfl : vl G 10 0 = true) rfl rfl [.int (iI (V 18 0 kz)), .int (iI q)] (kX5_blockAt l G P V (V 18 0 kz) q hC.w0 hB hC.n0 hC.n1 hC.L (by omega) (by omega)) gL_areStates_X5_blockAt rfl ⟨rfl, rfl⟩ (by decide +kernel) ⟨Nat.le_of_ble_eq_true rfl, Nat.le_of_ble_eq_true rfl⟩ rfl rfl (Nat.le_of_ble_eq_true rfl) rfl dL_areStates_300 (z_dtI ?_)
                                      refine z_iload E dL_areStates_303 rfl ?_
                                      refine z_icne_e E ((ba_at hC.R hN hk0 k1 hq0 (by omega))) dL_areStates_305 312 rfl ?_
                                      refine z_iconst E dL_areStates_308 ?_
                                      refine z_goto E 313 dL_areStates_309 rfl ?_
                                      refine z_istore E dL_areStates_313 (L' := [some (.ref (ad G 10 0)), some (.ref (ad G 16 0)), some (.ref (ad G 17 0)), some (.ref (ad G 18 0)), some (.ref (ad G 19 0)), some (.ref (ad G 20 0)), some (.ref (ad G 21 0)), some (.ref (ad G 22 0)), some (.int (iI 1)), some (.int (iI kz)), some (.int (iI ch)), some (.int (iI st)), some (.int (iI 0)), some (.int (iI (ot + 0))), some (.int (iI (ow + 1))), some (.int (iI (un + 1))), some (.int (iI 0)), some (.int (iI q)), some (.int (iI (mo s kz (2 + q)))), some (.int (iI fi)), some (.int (iI e))]) (Nat.le_of_ble_eq_true rfl) rfl ?_
                                      refine z_iinc E q dL_areStates_315 (L' := [some (.ref (ad G 10 0)), some (.ref (ad G 16 0)), some (.ref (ad G 17 0)), some (.ref (ad G 18 0)), some (.ref (ad G 19 0)), some (.ref (ad G 20 0)), some (.ref (ad G 21 0)), some (.ref (ad G 22 0)), some (.int (iI 1)), some (.int (iI kz)), some (.int (iI ch)), some (.int (iI st)), some (.int (iI 0)), some (.int (iI (ot + 0))), some (.int (iI (ow + 1))), some (.int (iI (un + 1))), some (.int (iI 0)), some (.int (iI (q + 1))), some (.int (iI (mo s kz (2 + q)))), some (.int (iI fi)), some (.int (iI e))]) (Nat.le_of_ble_eq_true rfl) rfl rfl ?_
                                      refine z_goto E 150 dL_areStates_318 rfl ?_
                                      refine Kz.drop 18 (L' := [some (.ref (ad G 10 0)), some (.ref (ad G 16 0)), some (.ref (ad G 17 0)), some (.ref (ad G 18 0)), some (.ref (ad G 19 0)), some (.ref (ad G 20 0)), some (.ref (ad G 21 0)), some (.ref (ad G 22 0)), some (.int (iI 1)), some (.int (iI kz)), some (.int (iI ch)), some (.int (iI st)), some (.int (iI 0)), some (.int (iI (ot + 0))), some (.int (iI (ow + 1))), some (.int (iI (un + 1))), some (.int (iI 0)), some (.int (iI (q + 1))), none, some (.int (iI fi)), some (.int (iI e))]) rfl ?_
                                      refine Kz.drop 19 (L' := [some (.ref (ad G 10 0)), some (.ref (ad G 16 0)), some (.ref (ad G 17 0)), some (.ref (ad G 18 0)), some (.ref (ad G 19 0)), some (.ref (ad G 20 0)), some (.ref (ad G 21 0)), some (.ref (ad G 22 0)), some (.int (iI 1)), some (.int (iI kz)), some (.int (iI ch)), some (.int (iI st)), some (.int (iI 0)), some (.int (iI (ot + 0))), some (.int (iI (ow + 1))), some (.int (iI (un + 1))), some (.int (iI 0)), some (.int (iI (q + 1))), none, none, some (.int (iI e))]) rfl ?_
                                      refine Kz.drop 20 (L' := [some (.ref (ad G 10 0)), some (.ref (ad G 16 0)), some (.ref (ad G 17 0)), some (.ref (ad G 18 0)), some (.ref (ad G 19 0)), some (.ref (ad G 20 0)), some (.ref (ad G 21 0)), some (.ref (ad G 22 0)), some (.int (iI 1)), some (.int (iI kz)), some (.int (iI ch)), some (.int (iI st)), some (.int (iI 0)), some (.int (iI (ot + 0))), some (.int (iI (ow + 1))), some (.int (iI (un + 1))), some (.int (iI 0)), some (.int (iI (q + 1))), none, none, none]) rfl ?_
                                      exact ih_150 (ot + 0) (ow + 1) (un + 1) (q + 1) (by omega) (by omega) (by first | exact smb_t ho hq0 ⟨by omega, by assumption⟩ | exact smb_f ho hq0 (fun z => absurd z.1 (by omega)) | exact smb_f ho hq0 (fun z => z.2 (by assumption))) (by first | exact smb_t hw hq0 (by omega) | exact smb_f hw hq0 (by omega)) (by first | exact smb_t hu hq0 (hft (by omega)) | exact smb_f hu hq0 (hff (by omega))) (by omega)
                                  · skip
                                    refine z_iload E dL_areStates_246 rfl ?_
                                    refine z_if_eq E 269 dL_areStates_248 rfl (by omega) (fun c_126 => ?_) (fun c_126 => ?_)
                                    · skip
                                      refine z_iconst E dL_areStates_269 ?_
                                      refine z_istore E dL_areStates_270 (L' := [some (.ref (ad G 10 0)), some (.ref (ad G 16 0)), some (.ref (ad G 17 0)), some (.ref (ad G 18 0)), some (.ref (ad G 19 0)), some (.ref (ad G 20 0)), some (.ref (ad G 21 0)), some (.ref (ad G 22 0)), some (.int (iI 1)), some (.int (iI kz)), some (.int (iI ch)), some (.int (iI st)), some (.int (iI 0)), some (.int (iI (ot + 0))), some (.int (iI (ow + 1))), some (.int (iI un)), some (.int (iI 0)), some (.int (iI q)), some (.int (iI (mo s kz (2 + q)))), some (.int (iI 0)), some (.int (iI e))]) (Nat.le_of_ble_eq_true rfl) rfl ?_
                                      refine z_iinc E e dL_areStates_272 (L' := [some (.ref (ad G 10 0)), some (.ref (ad G 16 0)), some (.ref (ad G 17 0)), some (.ref (ad G 18 0)), some (.ref (ad G 19 0)), some (.ref (ad G 20 0)), some (.ref (ad G 21 0)), some (.ref (ad G 22 0)), some (.int (iI 1)), some (.int (iI kz)), some (.int (iI ch)), some (.int (iI st)), some (.int (iI 0)), some (.int (iI (ot + 0))), some (.int (iI (ow + 1))), some (.int (iI un)), some (.int (iI 0)), some (.int (iI q)), some (.int (iI (mo s kz (2 + q)))), some (.int (iI 0)), some (.int (iI (e + 1)))]) (Nat.le_of_ble_eq_true rfl) rfl rfl ?_
                                      refine z_goto E 239 dL_areStates_275 rfl ?_
                                      exact ih_239 0 (e + 1) (by omega) (by omega) (by first | exact ba_1 hfi (by omega) (by assumption) | exact ba_0a hfi (by omega) | exact ba_0p he0 (fun z => z (by assumption))) (by omega) (by omega)
                                    · skip
                                      refine z_aload E dL_areStates_251 rfl ?_
                                      refine z_iload E dL_areStates_253 rfl ?_
                                      refine z_iload E dL_areStates_255 rfl ?_
                                      refine z_callS E (n := 3) (st := []) [.ref (ad G 20 0), .int (iI kz), .int (iI e)] (kL_block l G P V kz e (by omega) (by omega) (hN.vr _).1) gL_areStates_L_block rfl ⟨rfl, rfl⟩ (by decide +kernel) ⟨Nat.le_of_ble_eq_true rfl, Nat.le_of_ble_eq_true rfl⟩ rfl rfl (Nat.le_of_ble_eq_true rfl) rfl dL_areStates_257 (z_dtI ?_)
                                      rw [hN.r kz e hk0 k1 he0 (by omega)]
                                      have he2 := hM.l kz e hk0 (by omega) he0 (by omega)
                                      refine z_iload E dL_areStates_260 rfl ?_
                                      refine z_icmp_eq E 269 dL_areStates_262 rfl (by omega) (by omega) (fun c_128 => ?_) (fun c_128 => ?_)
                                      · skip
                                        refine z_iconst E dL_areStates_269 ?_
                                        refine z_istore E dL_areStates_270 (L' := [some (.ref (ad G 10 0)), some (.ref (ad G 16 0)), some (.ref (ad G 17 0)), some (.ref (ad G 18 0)), some (.ref (ad G 19 0)), some (.ref (ad G 20 0)), some (.ref (ad G 21 0)), some (.ref (ad G 22 0)), some (.int (iI 1)), some (.int (iI kz)), some (.int (iI ch)), some (.int (iI st)), some (.int (iI 0)), some (.int (iI (ot + 0))), some (.int (iI (ow + 1))), some (.int (iI un)), some (.int (iI 0)), some (.int (iI q)), some (.int (iI (mo s kz (2 + q)))), some (.int (iI 0)), some (.int (iI e))]) (Nat.le_of_ble_eq_true rfl) rfl ?_
                                        refine z_iinc E e dL_areStates_272 (L' := [some (.ref (ad G 10 0)), some (.ref (ad G 16 0)), some (.ref (ad G 17 0)), some (.ref (ad G 18 0)), some (.ref (ad G 19 0)), some (.ref (ad G 20 0)), some (.ref (ad G 21 0)), some (.ref (ad G 22 0)), some (.int (iI 1)), some (.int (iI kz)), some (.int (iI ch)), some (.int (iI st)), some (.int (iI 0)), some (.int (iI (ot + 0))), some (.int (iI (ow + 1))), some (.int (iI un)), some (.int (iI 0)), some (.int (iI q)), some (.int (iI (mo s kz (2 + q)))), some (.int (iI 0)), some (.int (iI (e + 1)))]) (Nat.le_of_ble_eq_true rfl) rfl rfl ?_
                                        refine z_goto E 239 dL_areStates_275 rfl ?_
                                        exact ih_239 0 (e + 1) (by omega) (by omega) (by first | exact ba_1 hfi (by omega) (by assumption) | exact ba_0a hfi (by omega) | exact ba_0p he0 (fun z => z (by assumption))) (by omega) (by omega)
                                      · skip
                                        refine z_iconst E dL_areStates_265 ?_
                                        refine z_goto E 270 dL_areStates_266 rfl ?_
                                        refine z_istore E dL_areStates_270 (L' := [some (.ref (ad G 10 0)), some (.ref (ad G 16 0)), some (.ref (ad G 17 0)), some (.ref (ad G 18 0)), some (.ref (ad G 19 0)), some (.ref (ad G 20 0)), some (.ref (ad G 21 0)), some (.ref (ad G 22 0)), some (.int (iI 1)), some (.int (iI kz)), some (.int (iI ch)), some (.int (iI st)), some (.int (iI 0)), some (.int (iI (ot + 0))), some (.int (iI (ow + 1))), some (.int (iI un)), some (.int (iI 0)), some (.int (iI q)), some (.int (iI (mo s kz (2 + q)))), some (.int (iI 1)), some (.int (iI e))]) (Nat.le_of_ble_eq_true rfl) rfl ?_
                                        refine z_iinc E e dL_areStates_272 (L' := [some (.ref (ad G 10 0)), some (.ref (ad G 16 0)), some (.ref (ad G 17 0)), some (.ref (ad G 18 0)), some (.ref (ad G 19 0)), some (.ref (ad G 20 0)), some (.ref (ad G 21 0)), some (.ref (ad G 22 0)), some (.int (iI 1)), some (.int (iI kz)), some (.int (iI ch)), some (.int (iI st)), some (.int (iI 0)), some (.int (iI (ot + 0))), some (.int (iI (ow + 1))), some (.int (iI un)), some (.int (iI 0)), some (.int (iI q)), some (.int (iI (mo s kz (2 + q)))), some (.int (iI 1)), some (.int (iI (e + 1)))]) (Nat.le_of_ble_eq_true rfl) rfl rfl ?_
                                        refine z_goto E 239 dL_areStates_275 rfl ?_
                                        exact ih_239 1 (e + 1) (by omega) (by omega) (by first | exact ba_1 hfi (by omega) (by assumption) | exact ba_0a hfi (by omega) | exact ba_0p he0 (fun z => z (by assumption))) (by omega) (by omega)
                              exact lp_239_119 ((q - 0 : Int).toNat + 1) 1 0 (by omega) (by omega) ba_i (by omega) (Nat.lt_succ_self _)
                          · skip
                            refine z_iload E dL_areStates_180 rfl ?_
                            refine z_aload E dL_areStates_182 rfl ?_
                            refine z_aload_n E dL_areStates_184 1 rfl rfl ?_
                            refine z_aload_n E dL_areStates_185 3 rfl rfl ?_
                            refine z_aload E dL_areStates_186 rfl ?_
                            refine z_iload E dL_areStates_188 rfl ?_
                            refine z_iald E (rfl : vl G 19 0 = true) 16 rfl (by omega) (by omega) (by omega) dL_areStates_190 ?_
                            have hr_129 := hB.g 19 0 kz rfl
                            refine z_callS E (n := 3) (st := [.ref (ad G 20 0), .int (iI (mo s kz (2 + q))), .int (iI ot)]) [.ref (ad G 16 0), .ref (ad G 18 0), .int (iI (V 19 0 kz))] (kL_find l G P V (V 19 0 kz) hB (by omega) (by omega)) gL_areStates_L_find rfl ⟨rfl, rfl⟩ (by decide +kernel) ⟨Nat.le_of_ble_eq_true rfl, Nat.le_of_ble_eq_true rfl⟩ rfl rfl (Nat.le_of_ble_eq_true rfl) rfl dL_areStates_191 (z_dtI ?_)
                            rw [hN.find, nk.2]
                            have hd := hM.i.down (a := kz) (by omega) k1
                            refine z_iload E dL_areStates_194 rfl ?_
                            refine z_callS E (n := 3) (st := [.int (iI (mo s kz (2 + q))), .int (iI ot)]) [.ref (ad G 20 0), .int (iI (mS s (mo s kz 1))), .int (iI q)] (kL_block l G P V (mS s (mo s kz 1)) q (by omega) (by omega) (hN.vr _).1) gL_areStates_L_block rfl ⟨rfl, rfl⟩ (by decide +kernel) ⟨Nat.le_of_ble_eq_true rfl, Nat.le_of_ble_eq_true rfl⟩ rfl rfl (Nat.le_of_ble_eq_true rfl) rfl dL_areStates_196 (z_dtI ?_)
                            rw [hN.r _ q hd.1 (by omega) hq0 (by omega)]
                            have hp1 := hM.l (mS s (mo s kz 1)) q hd.1 (by omega) hq0 (by omega)
                            refine z_icmp_eq E 206 dL_areStates_199 rfl (by omega) (by omega) (fun c_132 => ?_) (fun c_132 => ?_)
                            · skip
                              refine z_iconst E dL_areStates_206 ?_
                              refine z_iadd E dL_areStates_207 ?_
                              refine z_istore E dL_areStates_208 (L' := [some (.ref (ad G 10 0)), some (.ref (ad G 16 0)), some (.ref (ad G 17 0)), some (.ref (ad G 18 0)), some (.ref (ad G 19 0)), some (.ref (ad G 20 0)), some (.ref (ad G 21 0)), some (.ref (ad G 22 0)), some (.int (iI 1)), some (.int (iI kz)), some (.int (iI ch)), some (.int (iI st)), some (.int (iI 0)), some (.int (iI (ot + 0))), some (.int (iI ow)), some (.int (iI un)), some (.int (iI 0)), some (.int (iI q)), some (.int (iI (mo s kz (2 + q)))), none, none]) (Nat.le_of_ble_eq_true rfl) rfl ?_
                              refine z_iload E dL_areStates_210 rfl ?_
                              refine z_aload_n E dL_areStates_212 1 rfl rfl ?_
                              refine z_aload E dL_areStates_213 rfl ?_
                              refine z_iload E dL_areStates_215 rfl ?_
                              refine z_iconst E dL_areStates_217 ?_
                              refine z_callS E (n := 4) (st := [.int (iI ow)]) [.ref (ad G 16 0), .ref (ad G 20 0), .int (iI (mo s kz (2 + q))), .int (iI 1)] (kL_uses l G P V (mo s kz (2 + q)) 1 (by omega) hN.vr (by omega) (by omega)) gL_areStates_L_uses rfl ⟨rfl, rfl⟩ (by decide +kernel) ⟨Nat.le_of_ble_eq_true rfl, Nat.le_of_ble_eq_true rfl⟩ rfl rfl (Nat.le_of_ble_eq_true rfl) rfl dL_areStates_218 (z_dtI ?_)
                              have hul := lU_bd (n := V 16 0 0) (R := V 20 0) (st := 1) (b := mo s kz (2 + q)) (by omega) (by omega)
                              refine z_iconst E dL_areStates_221 ?_
                              refine z_icmp_ne E 229 dL_areStates_222 rfl (by omega) (by omega) (fun c_134 => ?_) (fun c_134 => ?_)
                              · skip
                                refine z_iconst E dL_areStates_229 ?_
                                refine z_iadd E dL_areStates_230 ?_
                                refine z_istore E dL_areStates_231 (L' := [some (.ref (ad G 10 0)), some (.ref (ad G 16 0)), some (.ref (ad G 17 0)), some (.ref (ad G 18 0)), some (.ref (ad G 19 0)), some (.ref (ad G 20 0)), some (.ref (ad G 21 0)), some (.ref (ad G 22 0)), some (.int (iI 1)), some (.int (iI kz)), some (.int (iI ch)), some (.int (iI st)), some (.int (iI 0)), some (.int (iI (ot + 0))), some (.int (iI (ow + 0))), some (.int (iI un)), some (.int (iI 0)), some (.int (iI q)), some (.int (iI (mo s kz (2 + q)))), none, none]) (Nat.le_of_ble_eq_true rfl) rfl ?_
                                refine z_iconst E dL_areStates_233 ?_
                                refine z_istore E dL_areStates_234 (L' := [some (.ref (ad G 10 0)), some (.ref (ad G 16 0)), some (.ref (ad G 17 0)), some (.ref (ad G 18 0)), some (.ref (ad G 19 0)), some (.ref (ad G 20 0)), some (.ref (ad G 21 0)), some (.ref (ad G 22 0)), some (.int (iI 1)), some (.int (iI kz)), some (.int (iI ch)), some (.int (iI st)), some (.int (iI 0)), some (.int (iI (ot + 0))), some (.int (iI (ow + 0))), some (.int (iI un)), some (.int (iI 0)), some (.int (iI q)), some (.int (iI (mo s kz (2 + q)))), some (.int (iI 1)), none]) (Nat.le_of_ble_eq_true rfl) rfl ?_
                                refine z_iconst E dL_areStates_236 ?_
                                refine z_istore E dL_areStates_237 (L' := [some (.ref (ad G 10 0)), some (.ref (ad G 16 0)), some (.ref (ad G 17 0)), some (.ref (ad G 18 0)), some (.ref (ad G 19 0)), some (.ref (ad G 20 0)), some (.ref (ad G 21 0)), some (.ref (ad G 22 0)), some (.int (iI 1)), some (.int (iI kz)), some (.int (iI ch)), some (.int (iI st)), some (.int (iI 0)), some (.int (iI (ot + 0))), some (.int (iI (ow + 0))), some (.int (iI un)), some (.int (iI 0)), some (.int (iI q)), some (.int (iI (mo s kz (2 + q)))), some (.int (iI 1)), some (.int (iI 0))]) (Nat.le_of_ble_eq_true rfl) rfl ?_
                                have lp_239_135 : ∀ (fuel : Nat) (fi : Int) (e : Int), (0 ≤ e) → (e ≤ q) → (fi = b2i (∀ j, 0 ≤ j → j < e → ¬ mo s kz (2 + j) = mo s kz (2 + q))) → (fi = 0 ∨ fi = 1) → (q - e : Int).toNat < fuel → Kz X G P V 0 0 [some (.ref (ad G 10 0)), some (.ref (ad G 16 0)), some (.ref (ad G 17 0)), some (.ref (ad G 18 0)), some (.ref (ad G 19 0)), some (.ref (ad G 20 0)), some (.ref (ad G 21 0)), some (.ref (ad G 22 0)), some (.int (iI 1)), some (.int (iI kz)), some (.int (iI ch)), some (.int (iI st)), some (.int (iI 0)), some (.int (iI (ot + 0))), some (.int (iI (ow + 0))), some (.int (iI un)), some (.int (iI 0)), some (.int (iI q)), some (.int (iI (mo s kz (2 + q)))), some (.int (iI fi)), some (.int (iI e))] 239 [] := by
                                  intro fuel
                                  induction fuel with
                                  | zero => intro fi e he0 he1 hfi hf01 hf_239; exact absurd hf_239 (Nat.not_lt_zero _)
                                  | succ fuel ih_239 =>
                                    intro fi e he0 he1 hfi hf01 hf_239
                                    refine z_iload E dL_areStates_239 rfl ?_
                                    refine z_iload E dL_areStates_241 rfl ?_
                                    refine z_icmp_ge E 278 dL_areStates_243 rfl (by omega) (by omega) (fun c_136 => ?_) (fun c_136 => ?_)
                                    · skip
                                      have he : e = q := by omega
                                      rw [he] at hfi
                                      have hft : ¬ fi = 0 → ∀ j, 0 ≤ j → j < q → ¬ mo s kz (2 + j) = mo s kz (2 + q) := fun z => b2i_eq1.mp (by rw [← hfi]; omega)
                                      have hff : fi = 0 → ¬ (∀ j, 0 ≤ j → j < q → ¬ mo s kz (2 + j) = mo s kz (2 + q)) := fun z => b2i_eq0.mp (by rw [← hfi]; exact z)
                                      refine z_iload E dL_areStates_278 rfl ?_
                                      refine z_iload E dL_areStates_280 rfl ?_
                                      refine z_if_eq E 289 dL_areStates_282 rfl (by omega) (fun c_137 => ?_) (fun c_137 => ?_)
                                      · skip
                                        refine z_iconst E dL_areStates_289 ?_
                                        refine z_iadd E dL_areStates_290 ?_
                                        refine z_istore E dL_areStates_291 (L' := [some (.ref (ad G 10 0)), some (.ref (ad G 16 0)), some (.ref (ad G 17 0)), some (.ref (ad G 18 0)), some (.ref (ad G 19 0)), some (.ref (ad G 20 0)), some (.ref (ad G 21 0)), some (.ref (ad G 22 0)), some (.int (iI 1)), some (.int (iI kz)), some (.int (iI ch)), some (.int (iI st)), some (.int (iI 0)), some (.int (iI (ot + 0))), some (.int (iI (ow + 0))), some (.int (iI (un + 0))), some (.int (iI 0)), some (.int (iI q)), some (.int (iI (mo s kz (2 + q)))), some (.int (iI fi)), some (.int (iI e))]) (Nat.le_of_ble_eq_true rfl) rfl ?_
                                        refine z_aload_n E dL_areStates_293 0 rfl rfl ?_
                                        refine z_aload_n E dL_areStates_294 3 rfl rfl ?_
                                        refine z_iload E dL_areStates_295 rfl ?_
                                        refine z_iald E (rfl : vl G 18 0 = true) 16 rfl (by omega) (by omega) (by omega) dL_areStates_297 ?_
                                        refine z_iload E dL_areStates_298 rfl ?_
                                        refine z_callV E (ci := 5) (N := 4) (C := RX5) (T := TX5) (n := 2) (st := []) (rfl : vl G 10 0 = true) rfl rfl [.int (iI (V 18 0 kz)), .int (iI q)] (kX5_blockAt l G P V (V 18 0 kz) q hC.w0 hB hC.n0 hC.n1 hC.L (by omega) (by omega)) gL_areStates_X5_blockAt rfl ⟨rfl, rfl⟩ (by decide +kernel) ⟨Nat.le_of_ble_eq_true rfl, Nat.le_of_ble_eq_true rfl⟩ rfl rfl (Nat.le_of_ble_eq_true rfl) rfl dL_areStates_300 (z_dtI ?_)
                                        refine z_iload E dL_areStates_303 rfl ?_
                                        refine z_icne_e E ((ba_at hC.R hN hk0 k1 hq0 (by omega))) dL_areStates_305 312 rfl ?_
                                        refine z_iconst E dL_areStates_308 ?_
                                        refine z_goto E 313 dL_areStates_309 rfl ?_
                                        refine z_istore E dL_areStates_313 (L' := [some (.ref (ad G 10 0)), some (.ref (ad G 16 0)), some (.ref (ad G 17 0)), some (.ref (ad G 18 0)), some (.ref (ad G 19 0)), some (.ref (ad G 20 0)), some (.ref (ad G 21 0)), some (.ref (ad G 22 0)), some (.int (iI 1)), some (.int (iI kz)), some (.int (iI ch)), some (.int (iI st)), some (.int (iI 0)), some (.int (iI (ot + 0))), some (.int (iI (ow + 0))), some (.int (iI (un + 0))), some (.int (iI 0)), some (.int (iI q)), some (.int (iI (mo s kz (2 + q)))), some (.int (iI fi)), some (.int (iI e))]) (Nat.le_of_ble_eq_true rfl) rfl ?_
                                        refine z_iinc E q dL_areStates_315 (L' := [some (.ref (ad G 10 0)), some (.ref (ad G 16 0)), some (.ref (ad G 17 0)), some (.ref (ad G 18 0)), some (.ref (ad G 19 0)), some (.ref (ad G 20 0)), some (.ref (ad G 21 0)), some (.ref (ad G 22 0)), some (.int (iI 1)), some (.int (iI kz)), some (.int (iI ch)), some (.int (iI st)), some (.int (iI 0)), some (.int (iI (ot + 0))), some (.int (iI (ow + 0))), some (.int (iI (un + 0))), some (.int (iI 0)), some (.int (iI (q + 1))), some (.int (iI (mo s kz (2 + q)))), some (.int (iI fi)), some (.int (iI e))]) (Nat.le_of_ble_eq_true rfl) rfl rfl ?_
                                        refine z_goto E 150 dL_areStates_318 rfl ?_
                                        refine Kz.drop 18 (L' := [some (.ref (ad G 10 0)), some (.ref (ad G 16 0)), some (.ref (ad G 17 0)), some (.ref (ad G 18 0)), some (.ref (ad G 19 0)), some (.ref (ad G 20 0)), some (.ref (ad G 21 0)), some (.ref (ad G 22 0)), some (.int (iI 1)), some (.int (iI kz)), some (.int (iI ch)), some (.int (iI st)), some (.int (iI 0)), some (.int (iI (ot + 0))), some (.int (iI (ow + 0))), some (.int (iI (un + 0))), some (.int (iI 0)), some (.int (iI (q + 1))), none, some (.int (iI fi)), some (.int (iI e))]) rfl ?_
                                        refine Kz.drop 19 (L' := [some (.ref (ad G 10 0)), some (.ref (ad G 16 0)), some (.ref (ad G 17 0)), some (.ref (ad G 18 0)), some (.ref (ad G 19 0)), some (.ref (ad G 20 0)), some (.ref (ad G 21 0)), some (.ref (ad G 22 0)), some (.int (iI 1)), some (.int (iI kz)), some (.int (iI ch)), some (.int (iI st)), some (.int (iI 0)), some (.int (iI (ot + 0))), some (.int (iI (ow + 0))), some (.int (iI (un + 0))), some (.int (iI 0)), some (.int (iI (q + 1))), none, none, some (.int (iI e))]) rfl ?_
                                        refine Kz.drop 20 (L' := [some (.ref (ad G 10 0)), some (.ref (ad G 16 0)), some (.ref (ad G 17 0)), some (.ref (ad G 18 0)), some (.ref (ad G 19 0)), some (.ref (ad G 20 0)), some (.ref (ad G 21 0)), some (.ref (ad G 22 0)), some (.int (iI 1)), some (.int (iI kz)), some (.int (iI ch)), some (.int (iI st)), some (.int (iI 0)), some (.int (iI (ot + 0))), some (.int (iI (ow + 0))), some (.int (iI (un + 0))), some (.int (iI 0)), some (.int (iI (q + 1))), none, none, none]) rfl ?_
                                        exact ih_150 (ot + 0) (ow + 0) (un + 0) (q + 1) (by omega) (by omega) (by first | exact smb_t ho hq0 ⟨by omega, by assumption⟩ | exact smb_f ho hq0 (fun z => absurd z.1 (by omega)) | exact smb_f ho hq0 (fun z => z.2 (by assumption))) (by first | exact smb_t hw hq0 (by omega) | exact smb_f hw hq0 (by omega)) (by first | exact smb_t hu hq0 (hft (by omega)) | exact smb_f hu hq0 (hff (by omega))) (by omega)
                                      · skip
                                        refine z_iconst E dL_areStates_285 ?_
                                        refine z_goto E 290 dL_areStates_286 rfl ?_
                                        refine z_iadd E dL_areStates_290 ?_
                                        refine z_istore E dL_areStates_291 (L' := [some (.ref (ad G 10 0)), some (.ref (ad G 16 0)), some (.ref (ad G 17 0)), some (.ref (ad G 18 0)), some (.ref (ad G 19 0)), some (.ref (ad G 20 0)), some (.ref (ad G 21 0)), some (.ref (ad G 22 0)), some (.int (iI 1)), some (.int (iI kz)), some (.int (iI ch)), some (.int (iI st)), some (.int (iI 0)), some (.int (iI (ot + 0))), some (.int (iI (ow + 0))), some (.int (iI (un + 1))), some (.int (iI 0)), some (.int (iI q)), some (.int (iI (mo s kz (2 + q)))), some (.int (iI fi)), some (.int (iI e))]) (Nat.le_of_ble_eq_true rfl) rfl ?_
                                        refine z_aload_n E dL_areStates_293 0 rfl rfl ?_
                                        refine z_aload_n E dL_areStates_294 3 rfl rfl ?_
                                        refine z_iload E dL_areStates_295 rfl ?_
                                        refine z_iald E (rfl : vl G 18 0 = true) 16 rfl (by omega) (by omega) (by omega) dL_areStates_297 ?_
                                        refine z_iload E dL_areStates_298 rfl ?_
                                        refine z_callV E (ci := 5) (N := 4) (C := RX5) (T := TX5) (n := 2) (st := []) (rfl : vl G 10 0 = true) rfl rfl [.int (iI (V 18 0 kz)), .int (iI q)] (kX5_blockAt l G P V (V 18 0 kz) q hC.w0 hB hC.n0 hC.n1 hC.L (by omega) (by omega)) gL_areStates_X5_blockAt rfl ⟨rfl, rfl⟩ (by decide +kernel) ⟨Nat.le_of_ble_eq_true rfl, Nat.le_of_ble_eq_true rfl⟩ rfl rfl (Nat.le_of_ble_eq_true rfl) rfl dL_areStates_300 (z_dtI ?_)
                                        refine z_iload E dL_areStates_303 rfl ?_
                                        refine z_icne_e E ((ba_at hC.R hN hk0 k1 hq0 (by omega))) dL_areStates_305 312 rfl ?_
                                        refine z_iconst E dL_areStates_308 ?_
                                        refine z_goto E 313 dL_areStates_309 rfl ?_
                                        refine z_istore E dL_areStates_313 (L' := [some (.ref (ad G 10 0)), some (.ref (ad G 16 0)), some (.ref (ad G 17 0)), some (.ref (ad G 18 0)), some (.ref (ad G 19 0)), some (.ref (ad G 20 0)), some (.ref (ad G 21 0)), some (.ref (ad G 22 0)), some (.int (iI 1)), some (.int (iI kz)), some (.int (iI ch)), some (.int (iI st)), some (.int (iI 0)), some (.int (iI (ot + 0))), some (.int (iI (ow + 0))), some (.int (iI (un + 1))), some (.int (iI 0)), some (.int (iI q)), some (.int (iI (mo s kz (2 + q)))), some (.int (iI fi)), some (.int (iI e))]) (Nat.le_of_ble_eq_true rfl) rfl ?_
                                        refine z_iinc E q dL_areStates_315 (L' := [some (.ref (ad G 10 0)), some (.ref (ad G 16 0)), some (.ref (ad G 17 0)), some (.ref (ad G 18 0)), some (.ref (ad G 19 0)), some (.ref (ad G 20 0)), some (.ref (ad G 21 0)), some (.ref (ad G 22 0)), some (.int (iI 1)), some (.int (iI kz)), some (.int (iI ch)), some (.int (iI st)), some (.int (iI 0)), some (.int (iI (ot + 0))), some (.int (iI (ow + 0))), some (.int (iI (un + 1))), some (.int (iI 0)), some (.int (iI (q + 1))), some (.int (iI (mo s kz (2 + q)))), some (.int (iI fi)), some (.int (iI e))]) (Nat.le_of_ble_eq_true rfl) rfl rfl ?_
                                        refine z_goto E 150 dL_areStates_318 rfl ?_
                                        refine Kz.drop 18 (L' := [some (.ref (ad G 10 0)), some (.ref (ad G 16 0)), some (.ref (ad G 17 0)), some (.ref (ad G 18 0)), some (.ref (ad G 19 0)), some (.ref (ad G 20 0)), some (.ref (ad G 21 0)), some (.ref (ad G 22 0)), some (.int (iI 1)), some (.int (iI kz)), some (.int (iI ch)), some (.int (iI st)), some (.int (iI 0)), some (.int (iI (ot + 0))), some (.int (iI (ow + 0))), some (.int (iI (un + 1))), some (.int (iI 0)), some (.int (iI (q + 1))), none, some (.int (iI fi)), some (.int (iI e))]) rfl ?_
                                        refine Kz.drop 19 (L' := [some (.ref (ad G 10 0)), some (.ref (ad G 16 0)), some (.ref (ad G 17 0)), some (.ref (ad G 18 0)), some (.ref (ad G 19 0)), some (.ref (ad G 20 0)), some (.ref (ad G 21 0)), some (.ref (ad G 22 0)), some (.int (iI 1)), some (.int (iI kz)), some (.int (iI ch)), some (.int (iI st)), some (.int (iI 0)), some (.int (iI (ot + 0))), some (.int (iI (ow + 0))), some (.int (iI (un + 1))), some (.int (iI 0)), some (.int (iI (q + 1))), none, none, some (.int (iI e))]) rfl ?_
                                        refine Kz.drop 20 (L' := [some (.ref (ad G 10 0)), some (.ref (ad G 16 0)), some (.ref (ad G 17 0)), some (.ref (ad G 18 0)), some (.ref (ad G 19 0)), some (.ref (ad G 20 0)), some (.ref (ad G 21 0)), some (.ref (ad G 22 0)), some (.int (iI 1)), some (.int (iI kz)), some (.int (iI ch)), some (.int (iI st)), some (.int (iI 0)), some (.int (iI (ot + 0))), some (.int (iI (ow + 0))), some (.int (iI (un + 1))), some (.int (iI 0)), some (.int (iI (q + 1))), none, none, none]) rfl ?_
                                        exact ih_150 (ot + 0) (ow + 0) (un + 1) (q + 1) (by omega) (by omega) (by first | exact smb_t ho hq0 ⟨by omega, by assumption⟩ | exact smb_f ho hq0 (fun z => absurd z.1 (by omega)) | exact smb_f ho hq0 (fun z => z.2 (by assumption))) (by first | exact smb_t hw hq0 (by omega) | exact smb_f hw hq0 (by omega)) (by first | exact smb_t hu hq0 (hft (by omega)) | exact smb_f hu hq0 (hff (by omega))) (by omega)
                                    · skip
                                      refine z_iload E dL_areStates_246 rfl ?_
                                      refine z_if_eq E 269 dL_areStates_248 rfl (by omega) (fun c_142 => ?_) (fun c_142 => ?_)
                                      · skip
                                        refine z_iconst E dL_areStates_269 ?_
                                        refine z_istore E dL_areStates_270 (L' := [some (.ref (ad G 10 0)), some (.ref (ad G 16 0)), some (.ref (ad G 17 0)), some (.ref (ad G 18 0)), some (.ref (ad G 19 0)), some (.ref (ad G 20 0)), some (.ref (ad G 21 0)), some (.ref (ad G 22 0)), some (.int (iI 1)), some (.int (iI kz)), some (.int (iI ch)), some (.int (iI st)), some (.int (iI 0)), some (.int (iI (ot + 0))), some (.int (iI (ow + 0))), some (.int (iI un)), some (.int (iI 0)), some (.int (iI q)), some (.int (iI (mo s kz (2 + q)))), some (.int (iI 0)), some (.int (iI e))]) (Nat.le_of_ble_eq_true rfl) rfl ?_
                                        refine z_iinc E e dL_areStates_272 (L' := [some (.ref (ad G 10 0)), some (.ref (ad G 16 0)), some (.ref (ad G 17 0)), some (.ref (ad G 18 0)), some (.ref (ad G 19 0)), some (.ref (ad G 20 0)), some (.ref (ad G 21 0)), some (.ref (ad G 22 0)), some (.int (iI 1)), some (.int (iI kz)), some (.int (iI ch)), some (.int (iI st)), some (.int (iI 0)), some (.int (iI (ot + 0))), some (.int (iI (ow + 0))), some (.int (iI un)), some (.int (iI 0)), some (.int (iI q)), some (.int (iI (mo s kz (2 + q)))), some (.int (iI 0)), some (.int (iI (e + 1)))]) (Nat.le_of_ble_eq_true rfl) rfl rfl ?_
                                        refine z_goto E 239 dL_areStates_275 rfl ?_
                                        exact ih_239 0 (e + 1) (by omega) (by omega) (by first | exact ba_1 hfi (by omega) (by assumption) | exact ba_0a hfi (by omega) | exact ba_0p he0 (fun z => z (by assumption))) (by omega) (by omega)
                                      · skip
                                        refine z_aload E dL_areStates_251 rfl ?_
                                        refine z_iload E dL_areStates_253 rfl ?_
                                        refine z_iload E dL_areStates_255 rfl ?_
                                        refine z_callS E (n := 3) (st := []) [.ref (ad G 20 0), .int (iI kz), .int (iI e)] (kL_block l G P V kz e (by omega) (by omega) (hN.vr _).1) gL_areStates_L_block rfl ⟨rfl, rfl⟩ (by decide +kernel) ⟨Nat.le_of_ble_eq_true rfl, Nat.le_of_ble_eq_true rfl⟩ rfl rfl (Nat.le_of_ble_eq_true rfl) rfl dL_areStates_257 (z_dtI ?_)
                                        rw [hN.r kz e hk0 k1 he0 (by omega)]
                                        have he2 := hM.l kz e hk0 (by omega) he0 (by omega)
                                        refine z_iload E dL_areStates_260 rfl ?_
                                        refine z_icmp_eq E 269 dL_areStates_262 rfl (by omega) (by omega) (fun c_144 => ?_) (fun c_144 => ?_)
                                        · skip
                                          refine z_iconst E dL_areStates_269 ?_
                                          refine z_istore E dL_areStates_270 (L' := [some (.ref (ad G 10 0)), some (.ref (ad G 16 0)), some (.ref (ad G 17 0)), some (.ref (ad G 18 0)), some (.ref (ad G 19 0)), some (.ref (ad G 20 0)), some (.ref (ad G 21 0)), some (.ref (ad G 22 0)), some (.int (iI 1)), some (.int (iI kz)), some (.int (iI ch)), some (.int (iI st)), some (.int (iI 0)), some (.int (iI (ot + 0))), some (.int (iI (ow + 0))), some (.int (iI un)), some (.int (iI 0)), some (.int (iI q)), some (.int (iI (mo s kz (2 + q)))), some (.int (iI 0)), some (.int (iI e))]) (Nat.le_of_ble_eq_true rfl) rfl ?_
                                          refine z_iinc E e dL_areStates_272 (L' := [some (.ref (ad G 10 0)), some (.ref (ad G 16 0)), some (.ref (ad G 17 0)), some (.ref (ad G 18 0)), some (.ref (ad G 19 0)), some (.ref (ad G 20 0)), some (.ref (ad G 21 0)), some (.ref (ad G 22 0)), some (.int (iI 1)), some (.int (iI kz)), some (.int (iI ch)), some (.int (iI st)), some (.int (iI 0)), some (.int (iI (ot + 0))), some (.int (iI (ow + 0))), some (.int (iI un)), some (.int (iI 0)), some (.int (iI q)), some (.int (iI (mo s kz (2 + q)))), some (.int (iI 0)), some (.int (iI (e + 1)))]) (Nat.le_of_ble_eq_true rfl) rfl rfl ?_
                                          refine z_goto E 239 dL_areStates_275 rfl ?_
                                          exact ih_239 0 (e + 1) (by omega) (by omega) (by first | exact ba_1 hfi (by omega) (by assumption) | exact ba_0a hfi (by omega) | exact ba_0p he0 (fun z => z (by assumption))) (by omega) (by omega)
                                        · skip
                                          refine z_iconst E dL_areStates_265 ?_
                                          refine z_goto E 270 dL_areStates_266 rfl ?_
                                          refine z_istore E dL_areStates_270 (L' := [some (.ref (ad G 10 0)), some (.ref (ad G 16 0)), some (.ref (ad G 17 0)), some (.ref (ad G 18 0)), some (.ref (ad G 19 0)), some (.ref (ad G 20 0)), some (.ref (ad G 21 0)), some (.ref (ad G 22 0)), some (.int (iI 1)), some (.int (iI kz)), some (.int (iI ch)), some (.int (iI st)), some (.int (iI 0)), some (.int (iI (ot + 0))), some (.int (iI (ow + 0))), some (.int (iI un)), some (.int (iI 0)), some (.int (iI q)), some (.int (iI (mo s kz (2 + q)))), some (.int (iI 1)), some (.int (iI e))]) (Nat.le_of_ble_eq_true rfl) rfl ?_
                                          refine z_iinc E e dL_areStates_272 (L' := [some (.ref (ad G 10 0)), some (.ref (ad G 16 0)), some (.ref (ad G 17 0)), some (.ref (ad G 18 0)), some (.ref (ad G 19 0)), some (.ref (ad G 20 0)), some (.ref (ad G 21 0)), some (.ref (ad G 22 0)), some (.int (iI 1)), some (.int (iI kz)), some (.int (iI ch)), some (.int (iI st)), some (.int (iI 0)), some (.int (iI (ot + 0))), some (.int (iI (ow + 0))), some (.int (iI un)), some (.int (iI 0)), some (.int (iI q)), some (.int (iI (mo s kz (2 + q)))), some (.int (iI 1)), some (.int (iI (e + 1)))]) (Nat.le_of_ble_eq_true rfl) rfl rfl ?_
                                          refine z_goto E 239 dL_areStates_275 rfl ?_
                                          exact ih_239 1 (e + 1) (by omega) (by omega) (by first | exact ba_1 hfi (by omega) (by assumption) | exact ba_0a hfi (by omega) | exact ba_0p he0 (fun z => z (by assumption))) (by omega) (by omega)
                                exact lp_239_135 ((q - 0 : Int).toNat + 1) 1 0 (by omega) (by omega) ba_i (by omega) (Nat.lt_succ_self _)
                              · skip
                                refine z_iconst E dL_areStates_225 ?_
                                refine z_goto E 230 dL_areStates_226 rfl ?_
                                refine z_iadd E dL_areStates_230 ?_
                                refine z_istore E dL_areStates_231 (L' := [some (.ref (ad G 10 0)), some (.ref (ad G 16 0)), some (.ref (ad G 17 0)), some (.ref (ad G 18 0)), some (.ref (ad G 19 0)), some (.ref (ad G 20 0)), some (.ref (ad G 21 0)), some (.ref (ad G 22 0)), some (.int (iI 1)), some (.int (iI kz)), some (.int (iI ch)), some (.int (iI st)), some (.int (iI 0)), some (.int (iI (ot + 0))), some (.int (iI (ow + 1))), some (.int (iI un)), some (.int (iI 0)), some (.int (iI q)), some (.int (iI (mo s kz (2 + q)))), none, none]) (Nat.le_of_ble_eq_true rfl) rfl ?_
                                refine z_iconst E dL_areStates_233 ?_
                                refine z_istore E dL_areStates_234 (L' := [some (.ref (ad G 10 0)), some (.ref (ad G 16 0)), some (.ref (ad G 17 0)), some (.ref (ad G 18 0)), some (.ref (ad G 19 0)), some (.ref (ad G 20 0)), some (.ref (ad G 21 0)), some (.ref (ad G 22 0)), some (.int (iI 1)), some (.int (iI kz)), some (.int (iI ch)), some (.int (iI st)), some (.int (iI 0)), some (.int (iI (ot + 0))), some (.int (iI (ow + 1))), some (.int (iI un)), some (.int (iI 0)), some (.int (iI q)), some (.int (iI (mo s kz (2 + q)))), some (.int (iI 1)), none]) (Nat.le_of_ble_eq_true rfl) rfl ?_
                                refine z_iconst E dL_areStates_236 ?_
                                refine z_istore E dL_areStates_237 (L' := [some (.ref (ad G 10 0)), some (.ref (ad G 16 0)), some (.ref (ad G 17 0)), some (.ref (ad G 18 0)), some (.ref (ad G 19 0)), some (.ref (ad G 20 0)), some (.ref (ad G 21 0)), some (.ref (ad G 22 0)), some (.int (iI 1)), some (.int (iI kz)), some (.int (iI ch)), some (.int (iI st)), some (.int (iI 0)), some (.int (iI (ot + 0))), some (.int (iI (ow + 1))), some (.int (iI un)), some (.int (iI 0)), some (.int (iI q)), some (.int (iI (mo s kz (2 + q)))), some (.int (iI 1)), some (.int (iI 0))]) (Nat.le_of_ble_eq_true rfl) rfl ?_
                                have lp_239_145 : ∀ (fuel : Nat) (fi : Int) (e : Int), (0 ≤ e) → (e ≤ q) → (fi = b2i (∀ j, 0 ≤ j → j < e → ¬ mo s kz (2 + j) = mo s kz (2 + q))) → (fi = 0 ∨ fi = 1) → (q - e : Int).toNat < fuel → Kz X G P V 0 0 [some (.ref (ad G 10 0)), some (.ref (ad G 16 0)), some (.ref (ad G 17 0)), some (.ref (ad G 18 0)), some (.ref (ad G 19 0)), some (.ref (ad G 20 0)), some (.ref (ad G 21 0)), some (.ref (ad G 22 0)), some (.int (iI 1)), some (.int (iI kz)), some (.int (iI ch)), some (.int (iI st)), some (.int (iI 0)), some (.int (iI (ot + 0))), some (.int (iI (ow + 1))), some (.int (iI un)), some (.int (iI 0)), some (.int (iI q)), some (.int (iI (mo s kz (2 + q)))), some (.int (iI fi)), some (.int (iI e))] 239 [] := by
                                  intro fuel
                                  induction fuel with
                                  | zero => intro fi e he0 he1 hfi hf01 hf_239; exact absurd hf_239 (Nat.not_lt_zero _)
                                  | succ fuel ih_239 =>
                                    intro fi e he0 he1 hfi hf01 hf_239
                                    refine z_iload E dL_areStates_239 rfl ?_
                                    refine z_iload E dL_areStates_241 rfl ?_
                                    refine z_icmp_ge E 278 dL_areStates_243 rfl (by omega) (by omega) (fun c_146 => ?_) (fun c_146 => ?_)
                                    · skip
                                      have he : e = q := by omega
                                      rw [he] at hfi
                                      have hft : ¬ fi = 0 → ∀ j, 0 ≤ j → j < q → ¬ mo s kz (2 + j) = mo s kz (2 + q) := fun z => b2i_eq1.mp (by rw [← hfi]; omega)
                                      have hff : fi = 0 → ¬ (∀ j, 0 ≤ j → j < q → ¬ mo s kz (2 + j) = mo s kz (2 + q)) := fun z => b2i_eq0.mp (by rw [← hfi]; exact z)
                                      refine z_iload E dL_areStates_278 rfl ?_
                                      refine z_iload E dL_areStates_280 rfl ?_
                                      refine z_if_eq E 289 dL_areStates_282 rfl (by omega) (fun c_147 => ?_) (fun c_147 => ?_)
                                      · skip
                                        refine z_iconst E dL_areStates_289 ?_
                                        refine z_iadd E dL_areStates_290 ?_
                                        refine z_istore E dL_areStates_291 (L' := [some (.ref (ad G 10 0)), some (.ref (ad G 16 0)), some (.ref (ad G 17 0)), some (.ref (ad G 18 0)), some (.ref (ad G 19 0)), some (.ref (ad G 20 0)), some (.ref (ad G 21 0)), some (.ref (ad G 22 0)), some (.int (iI 1)), some (.int (iI kz)), some (.int (iI ch)), some (.int (iI st)), some (.int (iI 0)), some (.int (iI (ot + 0))), some (.int (iI (ow + 1))), some (.int (iI (un + 0))), some (.int (iI 0)), some (.int (iI q)), some (.int (iI (mo s kz (2 + q)))), some (.int (iI fi)), some (.int (iI e))]) (Nat.le_of_ble_eq_true rfl) rfl ?_
                                        refine z_aload_n E dL_areStates_293 0 rfl rfl ?_
                                        refine z_aload_n E dL_areStates_294 3 rfl rfl ?_
                                        refine z_iload E dL_areStates_295 rfl ?_
                                        refine z_iald E (rfl : vl G 18 0 = true) 16 rfl (by omega) (by omega) (by omega) dL_areStates_297 ?_
                                        refine z_iload E dL_areStates_298 rfl ?_
                                        refine z_callV E (ci := 5) (N := 4) (C := RX5) (T := TX5) (n := 2) (st := []) (rfl : vl G 10 0 = true) rfl rfl [.int (iI (V 18 0 kz)), .int (iI q)] (kX5_blockAt l G P V (V 18 0 kz) q hC.w0 hB hC.n0 hC.n1 hC.L (by omega) (by omega)) gL_areStates_X5_blockAt rfl ⟨rfl, rfl⟩ (by decide +kernel) ⟨Nat.le_of_ble_eq_true rfl, Nat.le_of_ble_eq_true rfl⟩ rfl rfl (Nat.le_of_ble_eq_true rfl) rfl dL_areStates_300 (z_dtI ?_)
                                        refine z_iload E dL_areStates_303 rfl ?_
                                        refine z_icne_e E ((ba_at hC.R hN hk0 k1 hq0 (by omega))) dL_areStates_305 312 rfl ?_
                                        refine z_iconst E dL_areStates_308 ?_
                                        refine z_goto E 313 dL_areStates_309 rfl ?_
                                        refine z_istore E dL_areStates_313 (L' := [some (.ref (ad G 10 0)), some (.ref (ad G 16 0)), some (.ref (ad G 17 0)), some (.ref (ad G 18 0)), some (.ref (ad G 19 0)), some (.ref (ad G 20 0)), some (.ref (ad G 21 0)), some (.ref (ad G 22 0)), some (.int (iI 1)), some (.int (iI kz)), some (.int (iI ch)), some (.int (iI st)), some (.int (iI 0)), some (.int (iI (ot + 0))), some (.int (iI (ow + 1))), some (.int (iI (un + 0))), some (.int (iI 0)), some (.int (iI q)), some (.int (iI (mo s kz (2 + q)))), some (.int (iI fi)), some (.int (iI e))]) (Nat.le_of_ble_eq_true rfl) rfl ?_
                                        refine z_iinc E q dL_areStates_315 (L' := [some (.ref (ad G 10 0)), some (.ref (ad G 16 0)), some (.ref (ad G 17 0)), some (.ref (ad G 18 0)), some (.ref (ad G 19 0)), some (.ref (ad G 20 0)), some (.ref (ad G 21 0)), some (.ref (ad G 22 0)), some (.int (iI 1)), some (.int (iI kz)), some (.int (iI ch)), some (.int (iI st)), some (.int (iI 0)), some (.int (iI (ot + 0))), some (.int (iI (ow + 1))), some (.int (iI (un + 0))), some (.int (iI 0)), some (.int (iI (q + 1))), some (.int (iI (mo s kz (2 + q)))), some (.int (iI fi)), some (.int (iI e))]) (Nat.le_of_ble_eq_true rfl) rfl rfl ?_
                                        refine z_goto E 150 dL_areStates_318 rfl ?_
                                        refine Kz.drop 18 (L' := [some (.ref (ad G 10 0)), some (.ref (ad G 16 0)), some (.ref (ad G 17 0)), some (.ref (ad G 18 0)), some (.ref (ad G 19 0)), some (.ref (ad G 20 0)), some (.ref (ad G 21 0)), some (.ref (ad G 22 0)), some (.int (iI 1)), some (.int (iI kz)), some (.int (iI ch)), some (.int (iI st)), some (.int (iI 0)), some (.int (iI (ot + 0))), some (.int (iI (ow + 1))), some (.int (iI (un + 0))), some (.int (iI 0)), some (.int (iI (q + 1))), none, some (.int (iI fi)), some (.int (iI e))]) rfl ?_
                                        refine Kz.drop 19 (L' := [some (.ref (ad G 10 0)), some (.ref (ad G 16 0)), some (.ref (ad G 17 0)), some (.ref (ad G 18 0)), some (.ref (ad G 19 0)), some (.ref (ad G 20 0)), some (.ref (ad G 21 0)), some (.ref (ad G 22 0)), some (.int (iI 1)), some (.int (iI kz)), some (.int (iI ch)), some (.int (iI st)), some (.int (iI 0)), some (.int (iI (ot + 0))), some (.int (iI (ow + 1))), some (.int (iI (un + 0))), some (.int (iI 0)), some (.int (iI (q + 1))), none, none, some (.int (iI e))]) rfl ?_
                                        refine Kz.drop 20 (L' := [some (.ref (ad G 10 0)), some (.ref (ad G 16 0)), some (.ref (ad G 17 0)), some (.ref (ad G 18 0)), some (.ref (ad G 19 0)), some (.ref (ad G 20 0)), some (.ref (ad G 21 0)), some (.ref (ad G 22 0)), some (.int (iI 1)), some (.int (iI kz)), some (.int (iI ch)), some (.int (iI st)), some (.int (iI 0)), some (.int (iI (ot + 0))), some (.int (iI (ow + 1))), some (.int (iI (un + 0))), some (.int (iI 0)), some (.int (iI (q + 1))), none, none, none]) rfl ?_
                                        exact ih_150 (ot + 0) (ow + 1) (un + 0) (q + 1) (by omega) (by omega) (by first | exact smb_t ho hq0 ⟨by omega, by assumption⟩ | exact smb_f ho hq0 (fun z => absurd z.1 (by omega)) | exact smb_f ho hq0 (fun z => z.2 (by assumption))) (by first | exact smb_t hw hq0 (by omega) | exact smb_f hw hq0 (by omega)) (by first | exact smb_t hu hq0 (hft (by omega)) | exact smb_f hu hq0 (hff (by omega))) (by omega)
                                      · skip
                                        refine z_iconst E dL_areStates_285 ?_
                                        refine z_goto E 290 dL_areStates_286 rfl ?_
                                        refine z_iadd E dL_areStates_290 ?_
                                        refine z_istore E dL_areStates_291 (L' := [some (.ref (ad G 10 0)), some (.ref (ad G 16 0)), some (.ref (ad G 17 0)), some (.ref (ad G 18 0)), some (.ref (ad G 19 0)), some (.ref (ad G 20 0)), some (.ref (ad G 21 0)), some (.ref (ad G 22 0)), some (.int (iI 1)), some (.int (iI kz)), some (.int (iI ch)), some (.int (iI st)), some (.int (iI 0)), some (.int (iI (ot + 0))), some (.int (iI (ow + 1))), some (.int (iI (un + 1))), some (.int (iI 0)), some (.int (iI q)), some (.int (iI (mo s kz (2 + q)))), some (.int (iI fi)), some (.int (iI e))]) (Nat.le_of_ble_eq_true rfl) rfl ?_
                                        refine z_aload_n E dL_areStates_293 0 rfl rfl ?_
                                        refine z_aload_n E dL_areStates_294 3 rfl rfl ?_
                                        refine z_iload E dL_areStates_295 rfl ?_
                                        refine z_iald E (rfl : vl G 18 0 = true) 16 rfl (by omega) (by omega) (by omega) dL_areStates_297 ?_
                                        refine z_iload E dL_areStates_298 rfl ?_
                                        refine z_callV E (ci := 5) (N := 4) (C := RX5) (T := TX5) (n := 2) (st := []) (rfl : vl G 10 0 = true) rfl rfl [.int (iI (V 18 0 kz)), .int (iI q)] (kX5_blockAt l G P V (V 18 0 kz) q hC.w0 hB hC.n0 hC.n1 hC.L (by omega) (by omega)) gL_areStates_X5_blockAt rfl ⟨rfl, rfl⟩ (by decide +kernel) ⟨Nat.le_of_ble_eq_true rfl, Nat.le_of_ble_eq_true rfl⟩ rfl rfl (Nat.le_of_ble_eq_true rfl) rfl dL_areStates_300 (z_dtI ?_)
                                        refine z_iload E dL_areStates_303 rfl ?_
                                        refine z_icne_e E ((ba_at hC.R hN hk0 k1 hq0 (by omega))) dL_areStates_305 312 rfl ?_
                                        refine z_iconst E dL_areStates_308 ?_
                                        refine z_goto E 313 dL_areStates_309 rfl ?_
                                        refine z_istore E dL_areStates_313 (L' := [some (.ref (ad G 10 0)), some (.ref (ad G 16 0)), some (.ref (ad G 17 0)), some (.ref (ad G 18 0)), some (.ref (ad G 19 0)), some (.ref (ad G 20 0)), some (.ref (ad G 21 0)), some (.ref (ad G 22 0)), some (.int (iI 1)), some (.int (iI kz)), some (.int (iI ch)), some (.int (iI st)), some (.int (iI 0)), some (.int (iI (ot + 0))), some (.int (iI (ow + 1))), some (.int (iI (un + 1))), some (.int (iI 0)), some (.int (iI q)), some (.int (iI (mo s kz (2 + q)))), some (.int (iI fi)), some (.int (iI e))]) (Nat.le_of_ble_eq_true rfl) rfl ?_
                                        refine z_iinc E q dL_areStates_315 (L' := [some (.ref (ad G 10 0)), some (.ref (ad G 16 0)), some (.ref (ad G 17 0)), some (.ref (ad G 18 0)), some (.ref (ad G 19 0)), some (.ref (ad G 20 0)), some (.ref (ad G 21 0)), some (.ref (ad G 22 0)), some (.int (iI 1)), some (.int (iI kz)), some (.int (iI ch)), some (.int (iI st)), some (.int (iI 0)), some (.int (iI (ot + 0))), some (.int (iI (ow + 1))), some (.int (iI (un + 1))), some (.int (iI 0)), some (.int (iI (q + 1))), some (.int (iI (mo s kz (2 + q)))), some (.int (iI fi)), some (.int (iI e))]) (Nat.le_of_ble_eq_true rfl) rfl rfl ?_
                                        refine z_goto E 150 dL_areStates_318 rfl ?_
                                        refine Kz.drop 18 (L' := [some (.ref (ad G 10 0)), some (.ref (ad G 16 0)), some (.ref (ad G 17 0)), some (.ref (ad G 18 0)), some (.ref (ad G 19 0)), some (.ref (ad G 20 0)), some (.ref (ad G 21 0)), some (.ref (ad G 22 0)), some (.int (iI 1)), some (.int (iI kz)), some (.int (iI ch)), some (.int (iI st)), some (.int (iI 0)), some (.int (iI (ot + 0))), some (.int (iI (ow + 1))), some (.int (iI (un + 1))), some (.int (iI 0)), some (.int (iI (q + 1))), none, some (.int (iI fi)), some (.int (iI e))]) rfl ?_
                                        refine Kz.drop 19 (L' := [some (.ref (ad G 10 0)), some (.ref (ad G 16 0)), some (.ref (ad G 17 0)), some (.ref (ad G 18 0)), some (.ref (ad G 19 0)), some (.ref (ad G 20 0)), some (.ref (ad G 21 0)), some (.ref (ad G 22 0)), some (.int (iI 1)), some (.int (iI kz)), some (.int (iI ch)), some (.int (iI st)), some (.int (iI 0)), some (.int (iI (ot + 0))), some (.int (iI (ow + 1))), some (.int (iI (un + 1))), some (.int (iI 0)), some (.int (iI (q + 1))), none, none, some (.int (iI e))]) rfl ?_
                                        refine Kz.drop 20 (L' := [some (.ref (ad G 10 0)), some (.ref (ad G 16 0)), some (.ref (ad G 17 0)), some (.ref (ad G 18 0)), some (.ref (ad G 19 0)), some (.ref (ad G 20 0)), some (.ref (ad G 21 0)), some (.ref (ad G 22 0)), some (.int (iI 1)), some (.int (iI kz)), some (.int (iI ch)), some (.int (iI st)), some (.int (iI 0)), some (.int (iI (ot + 0))), some (.int (iI (ow + 1))), some (.int (iI (un + 1))), some (.int (iI 0)), some (.int (iI (q + 1))), none, none, none]) rfl ?_
                                        exact ih_150 (ot + 0) (ow + 1) (un + 1) (q + 1) (by omega) (by omega) (by first | exact smb_t ho hq0 ⟨by omega, by assumption⟩ | exact smb_f ho hq0 (fun z => absurd z.1 (by omega)) | exact smb_f ho hq0 (fun z => z.2 (by assumption))) (by first | exact smb_t hw hq0 (by omega) | exact smb_f hw hq0 (by omega)) (by first | exact smb_t hu hq0 (hft (by omega)) | exact smb_f hu hq0 (hff (by omega))) (by omega)
                                    · skip
                                      refine z_iload E dL_areStates_246 rfl ?_
                                      refine z_if_eq E 269 dL_areStates_248 rfl (by omega) (fun c_152 => ?_) (fun c_152 => ?_)
                                      · skip
                                        refine z_iconst E dL_areStates_269 ?_
                                        refine z_istore E dL_areStates_270 (L' := [some (.ref (ad G 10 0)), some (.ref (ad G 16 0)), some (.ref (ad G 17 0)), some (.ref (ad G 18 0)), some (.ref (ad G 19 0)), some (.ref (ad G 20 0)), some (.ref (ad G 21 0)), some (.ref (ad G 22 0)), some (.int (iI 1)), some (.int (iI kz)), some (.int (iI ch)), some (.int (iI st)), some (.int (iI 0)), some (.int (iI (ot + 0))), some (.int (iI (ow + 1))), some (.int (iI un)), some (.int (iI 0)), some (.int (iI q)), some (.int (iI (mo s kz (2 + q)))), some (.int (iI 0)), some (.int (iI e))]) (Nat.le_of_ble_eq_true rfl) rfl ?_
                                        refine z_iinc E e dL_areStates_272 (L' := [some (.ref (ad G 10 0)), some (.ref (ad G 16 0)), some (.ref (ad G 17 0)), some (.ref (ad G 18 0)), some (.ref (ad G 19 0)), some (.ref (ad G 20 0)), some (.ref (ad G 21 0)), some (.ref (ad G 22 0)), some (.int (iI 1)), some (.int (iI kz)), some (.int (iI ch)), some (.int (iI st)), some (.int (iI 0)), some (.int (iI (ot + 0))), some (.int (iI (ow + 1))), some (.int (iI un)), some (.int (iI 0)), some (.int (iI q)), some (.int (iI (mo s kz (2 + q)))), some (.int (iI 0)), some (.int (iI (e + 1)))]) (Nat.le_of_ble_eq_true rfl) rfl rfl ?_
                                        refine z_goto E 239 dL_areStates_275 rfl ?_
                                        exact ih_239 0 (e + 1) (by omega) (by omega) (by first | exact ba_1 hfi (by omega) (by assumption) | exact ba_0a hfi (by omega) | exact ba_0p he0 (fun z => z (by assumption))) (by omega) (by omega)
                                      · skip
                                        refine z_aload E dL_areStates_251 rfl ?_
                                        refine z_iload E dL_areStates_253 rfl ?_
                                        refine z_iload E dL_areStates_255 rfl ?_
                                        refine z_callS E (n := 3) (st := []) [.ref (ad G 20 0), .int (iI kz), .int (iI e)] (kL_block l G P V kz e (by omega) (by omega) (hN.vr _).1) gL_areStates_L_block rfl ⟨rfl, rfl⟩ (by decide +kernel) ⟨Nat.le_of_ble_eq_true rfl, Nat.le_of_ble_eq_true rfl⟩ rfl rfl (Nat.le_of_ble_eq_true rfl) rfl dL_areStates_257 (z_dtI ?_)
                                        rw [hN.r kz e hk0 k1 he0 (by omega)]
                                        have he2 := hM.l kz e hk0 (by omega) he0 (by omega)
                                        refine z_iload E dL_areStates_260 rfl ?_
                                        refine z_icmp_eq E 269 dL_areStates_262 rfl (by omega) (by omega) (fun c_154 => ?_) (fun c_154 => ?_)
                                        · skip
                                          refine z_iconst E dL_areStates_269 ?_
                                          refine z_istore E dL_areStates_270 (L' := [some (.ref (ad G 10 0)), some (.ref (ad G 16 0)), some (.ref (ad G 17 0)), some (.ref (ad G 18 0)), some (.ref (ad G 19 0)), some (.ref (ad G 20 0)), some (.ref (ad G 21 0)), some (.ref (ad G 22 0)), some (.int (iI 1)), some (.int (iI kz)), some (.int (iI ch)), some (.int (iI st)), some (.int (iI 0)), some (.int (iI (ot + 0))), some (.int (iI (ow + 1))), some (.int (iI un)), some (.int (iI 0)), some (.int (iI q)), some (.int (iI (mo s kz (2 + q)))), some (.int (iI 0)), some (.int (iI e))]) (Nat.le_of_ble_eq_true rfl) rfl ?_
                                          refine z_iinc E e dL_areStates_272 (L' := [some (.ref (ad G 10 0)), some (.ref (ad G 16 0)), some (.ref (ad G 17 0)), some (.ref (ad G 18 0)), some (.ref (ad G 19 0)), some (.ref (ad G 20 0)), some (.ref (ad G 21 0)), some (.ref (ad G 22 0)), some (.int (iI 1)), some (.int (iI kz)), some (.int (iI ch)), some (.int (iI st)), some (.int (iI 0)), some (.int (iI (ot + 0))), some (.int (iI (ow + 1))), some (.int (iI un)), some (.int (iI 0)), some (.int (iI q)), some (.int (iI (mo s kz (2 + q)))), some (.int (iI 0)), some (.int (iI (e + 1)))]) (Nat.le_of_ble_eq_true rfl) rfl rfl ?_
                                          refine z_goto E 239 dL_areStates_275 rfl ?_
                                          exact ih_239 0 (e + 1) (by omega) (by omega) (by first | exact ba_1 hfi (by omega) (by assumption) | exact ba_0a hfi (by omega) | exact ba_0p he0 (fun z => z (by assumption))) (by omega) (by omega)
                                        · skip
                                          refine z_iconst E dL_areStates_265 ?_
                                          refine z_goto E 270 dL_areStates_266 rfl ?_
                                          refine z_istore E dL_areStates_270 (L' := [some (.ref (ad G 10 0)), some (.ref (ad G 16 0)), some (.ref (ad G 17 0)), some (.ref (ad G 18 0)), some (.ref (ad G 19 0)), some (.ref (ad G 20 0)), some (.ref (ad G 21 0)), some (.ref (ad G 22 0)), some (.int (iI 1)), some (.int (iI kz)), some (.int (iI ch)), some (.int (iI st)), some (.int (iI 0)), some (.int (iI (ot + 0))), some (.int (iI (ow + 1))), some (.int (iI un)), some (.int (iI 0)), some (.int (iI q)), some (.int (iI (mo s kz (2 + q)))), some (.int (iI 1)), some (.int (iI e))]) (Nat.le_of_ble_eq_true rfl) rfl ?_
                                          refine z_iinc E e dL_areStates_272 (L' := [some (.ref (ad G 10 0)), some (.ref (ad G 16 0)), some (.ref (ad G 17 0)), some (.ref (ad G 18 0)), some (.ref (ad G 19 0)), some (.ref (ad G 20 0)), some (.ref (ad G 21 0)), some (.ref (ad G 22 0)), some (.int (iI 1)), some (.int (iI kz)), some (.int (iI ch)), some (.int (iI st)), some (.int (iI 0)), some (.int (iI (ot + 0))), some (.int (iI (ow + 1))), some (.int (iI un)), some (.int (iI 0)), some (.int (iI q)), some (.int (iI (mo s kz (2 + q)))), some (.int (iI 1)), some (.int (iI (e + 1)))]) (Nat.le_of_ble_eq_true rfl) rfl rfl ?_
                                          refine z_goto E 239 dL_areStates_275 rfl ?_
                                          exact ih_239 1 (e + 1) (by omega) (by omega) (by first | exact ba_1 hfi (by omega) (by assumption) | exact ba_0a hfi (by omega) | exact ba_0p he0 (fun z => z (by assumption))) (by omega) (by omega)
                                exact lp_239_145 ((q - 0 : Int).toNat + 1) 1 0 (by omega) (by omega) ba_i (by omega) (Nat.lt_succ_self _)
                            · skip
                              refine z_iconst E dL_areStates_202 ?_
                              refine z_goto E 207 dL_areStates_203 rfl ?_
                              refine z_iadd E dL_areStates_207 ?_
                              refine z_istore E dL_areStates_208 (L' := [some (.ref (ad G 10 0)), some (.ref (ad G 16 0)), some (.ref (ad G 17 0)), some (.ref (ad G 18 0)), some (.ref (ad G 19 0)), some (.ref (ad G 20 0)), some (.ref (ad G 21 0)), some (.ref (ad G 22 0)), some (.int (iI 1)), some (.int (iI kz)), some (.int (iI ch)), some (.int (iI st)), some (.int (iI 0)), some (.int (iI (ot + 1))), some (.int (iI ow)), some (.int (iI un)), some (.int (iI 0)), some (.int (iI q)), some (.int (iI (mo s kz (2 + q)))), none, none]) (Nat.le_of_ble_eq_true rfl) rfl ?_
                              refine z_iload E dL_areStates_210 rfl ?_
                              refine z_aload_n E dL_areStates_212 1 rfl rfl ?_
                              refine z_aload E dL_areStates_213 rfl ?_
                              refine z_iload E dL_areStates_215 rfl ?_
                              refine z_iconst E dL_areStates_217 ?_
                              refine z_callS E (n := 4) (st := [.int (iI ow)]) [.ref (ad G 16 0), .ref (ad G 20 0), .int (iI (mo s kz (2 + q))), .int (iI 1)] (kL_uses l G P V (mo s kz (2 + q)) 1 (by omega) hN.vr (by omega) (by omega)) gL_areStates_L_uses rfl ⟨rfl, rfl⟩ (by decide +kernel) ⟨Nat.le_of_ble_eq_true rfl, Nat.le_of_ble_eq_true rfl⟩ rfl rfl (Nat.le_of_ble_eq_true rfl) rfl dL_areStates_218 (z_dtI ?_)
                              have hul := lU_bd (n := V 16 0 0) (R := V 20 0) (st := 1) (b := mo s kz (2 + q)) (by omega) (by omega)
                              refine z_iconst E dL_areStates_221 ?_
                              refine z_icmp_ne E 229 dL_areStates_222 rfl (by omega) (by omega) (fun c_156 => ?_) (fun c_156 => ?_)
                              · skip
                                refine z_iconst E dL_areStates_229 ?_
                                refine z_iadd E dL_areStates_230 ?_
                                refine z_istore E dL_areStates_231 (L' := [some (.ref (ad G 10 0)), some (.ref (ad G 16 0)), some (.ref (ad G 17 0)), some (.ref (ad G 18 0)), some (.ref (ad G 19 0)), some (.ref (ad G 20 0)), some (.ref (ad G 21 0)), some (.ref (ad G 22 0)), some (.int (iI 1)), some (.int (iI kz)), some (.int (iI ch)), some (.int (iI st)), some (.int (iI 0)), some (.int (iI (ot + 1))), some (.int (iI (ow + 0))), some (.int (iI un)), some (.int (iI 0)), some (.int (iI q)), some (.int (iI (mo s kz (2 + q)))), none, none]) (Nat.le_of_ble_eq_true rfl) rfl ?_
                                refine z_iconst E dL_areStates_233 ?_
                                refine z_istore E dL_areStates_234 (L' := [some (.ref (ad G 10 0)), some (.ref (ad G 16 0)), some (.ref (ad G 17 0)), some (.ref (ad G 18 0)), some (.ref (ad G 19 0)), some (.ref (ad G 20 0)), some (.ref (ad G 21 0)), some (.ref (ad G 22 0)), some (.int (iI 1)), some (.int (iI kz)), some (.int (iI ch)), some (.int (iI st)), some (.int (iI 0)), some (.int (iI (ot + 1))), some (.int (iI (ow + 0))), some (.int (iI un)), some (.int (iI 0)), some (.int (iI q)), some (.int (iI (mo s kz (2 + q)))), some (.int (iI 1)), none]) (Nat.le_of_ble_eq_true rfl) rfl ?_
                                refine z_iconst E dL_areStates_236 ?_
                                refine z_istore E dL_areStates_237 (L' := [some (.ref (ad G 10 0)), some (.ref (ad G 16 0)), some (.ref (ad G 17 0)), some (.ref (ad G 18 0)), some (.ref (ad G 19 0)), some (.ref (ad G 20 0)), some (.ref (ad G 21 0)), some (.ref (ad G 22 0)), some (.int (iI 1)), some (.int (iI kz)), some (.int (iI ch)), some (.int (iI st)), some (.int (iI 0)), some (.int (iI (ot + 1))), some (.int (iI (ow + 0))), some (.int (iI un)), some (.int (iI 0)), some (.int (iI q)), some (.int (iI (mo s kz (2 + q)))), some (.int (iI 1)), some (.int (iI 0))]) (Nat.le_of_ble_eq_true rfl) rfl ?_
                                have lp_239_157 : ∀ (fuel : Nat) (fi : Int) (e : Int), (0 ≤ e) → (e ≤ q) → (fi = b2i (∀ j, 0 ≤ j → j < e → ¬ mo s kz (2 + j) = mo s kz (2 + q))) → (fi = 0 ∨ fi = 1) → (q - e : Int).toNat < fuel → Kz X G P V 0 0 [some (.ref (ad G 10 0)), some (.ref (ad G 16 0)), some (.ref (ad G 17 0)), some (.ref (ad G 18 0)), some (.ref (ad G 19 0)), some (.ref (ad G 20 0)), some (.ref (ad G 21 0)), some (.ref (ad G 22 0)), some (.int (iI 1)), some (.int (iI kz)), some (.int (iI ch)), some (.int (iI st)), some (.int (iI 0)), some (.int (iI (ot + 1))), some (.int (iI (ow + 0))), some (.int (iI un)), some (.int (iI 0)), some (.int (iI q)), some (.int (iI (mo s kz (2 + q)))), some (.int (iI fi)), some (.int (iI e))] 239 [] := by
                                  intro fuel
                                  induction fuel with
                                  | zero => intro fi e he0 he1 hfi hf01 hf_239; exact absurd hf_239 (Nat.not_lt_zero _)
                                  | succ fuel ih_239 =>
                                    intro fi e he0 he1 hfi hf01 hf_239
                                    refine z_iload E dL_areStates_239 rfl ?_
                                    refine z_iload E dL_areStates_241 rfl ?_
                                    refine z_icmp_ge E 278 dL_areStates_243 rfl (by omega) (by omega) (fun c_158 => ?_) (fun c_158 => ?_)
                                    · skip
                                      have he : e = q := by omega
                                      rw [he] at hfi
                                      have hft : ¬ fi = 0 → ∀ j, 0 ≤ j → j < q → ¬ mo s kz (2 + j) = mo s kz (2 + q) := fun z => b2i_eq1.mp (by rw [← hfi]; omega)
                                      have hff : fi = 0 → ¬ (∀ j, 0 ≤ j → j < q → ¬ mo s kz (2 + j) = mo s kz (2 + q)) := fun z => b2i_eq0.mp (by rw [← hfi]; exact z)
                                      refine z_iload E dL_areStates_278 rfl ?_
                                      refine z_iload E dL_areStates_280 rfl ?_
                                      refine z_if_eq E 289 dL_areStates_282 rfl (by omega) (fun c_159 => ?_) (fun c_159 => ?_)
                                      · skip
                                        refine z_iconst E dL_areStates_289 ?_
                                        refine z_iadd E dL_areStates_290 ?_
                                        refine z_istore E dL_areStates_291 (L' := [some (.ref (ad G 10 0)), some (.ref (ad G 16 0)), some (.ref (ad G 17 0)), some (.ref (ad G 18 0)), some (.ref (ad G 19 0)), some (.ref (ad G 20 0)), some (.ref (ad G 21 0)), some (.ref (ad G 22 0)), some (.int (iI 1)), some (.int (iI kz)), some (.int (iI ch)), some (.int (iI st)), some (.int (iI 0)), some (.int (iI (ot + 1))), some (.int (iI (ow + 0))), some (.int (iI (un + 0))), some (.int (iI 0)), some (.int (iI q)), some (.int (iI (mo s kz (2 + q)))), some (.int (iI fi)), some (.int (iI e))]) (Nat.le_of_ble_eq_true rfl) rfl ?_
                                        refine z_aload_n E dL_areStates_293 0 rfl rfl ?_
                                        refine z_aload_n E dL_areStates_294 3 rfl rfl ?_
                                        refine z_iload E dL_areStates_295 rfl ?_
                                        refine z_iald E (rfl : vl G 18 0 = true) 16 rfl (by omega) (by omega) (by omega) dL_areStates_297 ?_
                                        refine z_iload E dL_areStates_298 rfl ?_
                                        refine z_callV E (ci := 5) (N := 4) (C := RX5) (T := TX5) (n := 2) (st := []) (rfl : vl G 10 0 = true) rfl rfl [.int (iI (V 18 0 kz)), .int (iI q)] (kX5_blockAt l G P V (V 18 0 kz) q hC.w0 hB hC.n0 hC.n1 hC.L (by omega) (by omega)) gL_areStates_X5_blockAt rfl ⟨rfl, rfl⟩ (by decide +kernel) ⟨Nat.le_of_ble_eq_true rfl, Nat.le_of_ble_eq_true rfl⟩ rfl rfl (Nat.le_of_ble_eq_true rfl) rfl dL_areStates_300 (z_dtI ?_)
                                        refine z_iload E dL_areStates_303 rfl ?_
                                        refine z_icne_e E ((ba_at hC.R hN hk0 k1 hq0 (by omega))) dL_areStates_305 312 rfl ?_
                                        refine z_iconst E dL_areStates_308 ?_
                                        refine z_goto E 313 dL_areStates_309 rfl ?_
                                        refine z_istore E dL_areStates_313 (L' := [some (.ref (ad G 10 0)), some (.ref (ad G 16 0)), some (.ref (ad G 17 0)), some (.ref (ad G 18 0)), some (.ref (ad G 19 0)), some (.ref (ad G 20 0)), some (.ref (ad G 21 0)), some (.ref (ad G 22 0)), some (.int (iI 1)), some (.int (iI kz)), some (.int (iI ch)), some (.int (iI st)), some (.int (iI 0)), some (.int (iI (ot + 1))), some (.int (iI (ow + 0))), some (.int (iI (un + 0))), some (.int (iI 0)), some (.int (iI q)), some (.int (iI (mo s kz (2 + q)))), some (.int (iI fi)), some (.int (iI e))]) (Nat.le_of_ble_eq_true rfl) rfl ?_
                                        refine z_iinc E q dL_areStates_315 (L' := [some (.ref (ad G 10 0)), some (.ref (ad G 16 0)), some (.ref (ad G 17 0)), some (.ref (ad G 18 0)), some (.ref (ad G 19 0)), some (.ref (ad G 20 0)), some (.ref (ad G 21 0)), some (.ref (ad G 22 0)), some (.int (iI 1)), some (.int (iI kz)), some (.int (iI ch)), some (.int (iI st)), some (.int (iI 0)), some (.int (iI (ot + 1))), some (.int (iI (ow + 0))), some (.int (iI (un + 0))), some (.int (iI 0)), some (.int (iI (q + 1))), some (.int (iI (mo s kz (2 + q)))), some (.int (iI fi)), some (.int (iI e))]) (Nat.le_of_ble_eq_true rfl) rfl rfl ?_
                                        refine z_goto E 150 dL_areStates_318 rfl ?_
                                        refine Kz.drop 18 (L' := [some (.ref (ad G 10 0)), some (.ref (ad G 16 0)), some (.ref (ad G 17 0)), some (.ref (ad G 18 0)), some (.ref (ad G 19 0)), some (.ref (ad G 20 0)), some (.ref (ad G 21 0)), some (.ref (ad G 22 0)), some (.int (iI 1)), some (.int (iI kz)), some (.int (iI ch)), some (.int (iI st)), some (.int (iI 0)), some (.int (iI (ot + 1))), some (.int (iI (ow + 0))), some (.int (iI (un + 0))), some (.int (iI 0)), some (.int (iI (q + 1))), none, some (.int (iI fi)), some (.int (iI e))]) rfl ?_
                                        refine Kz.drop 19 (L' := [some (.ref (ad G 10 0)), some (.ref (ad G 16 0)), some (.ref (ad G 17 0)), some (.ref (ad G 18 0)), some (.ref (ad G 19 0)), some (.ref (ad G 20 0)), some (.ref (ad G 21 0)), some (.ref (ad G 22 0)), some (.int (iI 1)), some (.int (iI kz)), some (.int (iI ch)), some (.int (iI st)), some (.int (iI 0)), some (.int (iI (ot + 1))), some (.int (iI (ow + 0))), some (.int (iI (un + 0))), some (.int (iI 0)), some (.int (iI (q + 1))), none, none, some (.int (iI e))]) rfl ?_
                                        refine Kz.drop 20 (L' := [some (.ref (ad G 10 0)), some (.ref (ad G 16 0)), some (.ref (ad G 17 0)), some (.ref (ad G 18 0)), some (.ref (ad G 19 0)), some (.ref (ad G 20 0)), some (.ref (ad G 21 0)), some (.ref (ad G 22 0)), some (.int (iI 1)), some (.int (iI kz)), some (.int (iI ch)), some (.int (iI st)), some (.int (iI 0)), some (.int (iI (ot + 1))), some (.int (iI (ow + 0))), some (.int (iI (un + 0))), some (.int (iI 0)), some (.int (iI (q + 1))), none, none, none]) rfl ?_
                                        exact ih_150 (ot + 1) (ow + 0) (un + 0) (q + 1) (by omega) (by omega) (by first | exact smb_t ho hq0 ⟨by omega, by assumption⟩ | exact smb_f ho hq0 (fun z => absurd z.1 (by omega)) | exact smb_f ho hq0 (fun z => z.2 (by assumption))) (by first | exact smb_t hw hq0 (by omega) | exact smb_f hw hq0 (by omega)) (by first | exact smb_t hu hq0 (hft (by omega)) | exact smb_f hu hq0 (hff (by omega))) (by omega)
                                      · skip
                                        refine z_iconst E dL_areStates_285 ?_
                                        refine z_goto E 290 dL_areStates_286 rfl ?_
                                        refine z_iadd E dL_areStates_290 ?_
                                        refine z_istore E dL_areStates_291 (L' := [some (.ref (ad G 10 0)), some (.ref (ad G 16 0)), some (.ref (ad G 17 0)), some (.ref (ad G 18 0)), some (.ref (ad G 19 0)), some (.ref (ad G 20 0)), some (.ref (ad G 21 0)), some (.ref (ad G 22 0)), some (.int (iI 1)), some (.int (iI kz)), some (.int (iI ch)), some (.int (iI st)), some (.int (iI 0)), some (.int (iI (ot + 1))), some (.int (iI (ow + 0))), some (.int (iI (un + 1))), some (.int (iI 0)), some (.int (iI q)), some (.int (iI (mo s kz (2 + q)))), some (.int (iI fi)), some (.int (iI e))]) (Nat.le_of_ble_eq_true rfl) rfl ?_
                                        refine z_aload_n E dL_areStates_293 0 rfl rfl ?_
                                        refine z_aload_n E dL_areStates_294 3 rfl rfl ?_
                                        refine z_iload E dL_areStates_295 rfl ?_
                                        refine z_iald E (rfl : vl G 18 0 = true) 16 rfl (by omega) (by omega) (by omega) dL_areStates_297 ?_
                                        refine z_iload E dL_areStates_298 rfl ?_
                                        refine z_callV E (ci := 5) (N := 4) (C := RX5) (T := TX5) (n := 2) (st := []) (rfl : vl G 10 0 = true) rfl rfl [.int (iI (V 18 0 kz)), .int (iI q)] (kX5_blockAt l G P V (V 18 0 kz) q hC.w0 hB hC.n0 hC.n1 hC.L (by omega) (by omega)) gL_areStates_X5_blockAt rfl ⟨rfl, rfl⟩ (by decide +kernel) ⟨Nat.le_of_ble_eq_true rfl, Nat.le_of_ble_eq_true rfl⟩ rfl rfl (Nat.le_of_ble_eq_true rfl) rfl dL_areStates_300 (z_dtI ?_)
                                        refine z_iload E dL_areStates_303 rfl ?_
                                        refine z_icne_e E ((ba_at hC.R hN hk0 k1 hq0 (by omega))) dL_areStates_305 312 rfl ?_
                                        refine z_iconst E dL_areStates_308 ?_
                                        refine z_goto E 313 dL_areStates_309 rfl ?_
                                        refine z_istore E dL_areStates_313 (L' := [some (.ref (ad G 10 0)), some (.ref (ad G 16 0)), some (.ref (ad G 17 0)), some (.ref (ad G 18 0)), some (.ref (ad G 19 0)), some (.ref (ad G 20 0)), some (.ref (ad G 21 0)), some (.ref (ad G 22 0)), some (.int (iI 1)), some (.int (iI kz)), some (.int (iI ch)), some (.int (iI st)), some (.int (iI 0)), some (.int (iI (ot + 1))), some (.int (iI (ow + 0))), some (.int (iI (un + 1))), some (.int (iI 0)), some (.int (iI q)), some (.int (iI (mo s kz (2 + q)))), some (.int (iI fi)), some (.int (iI e))]) (Nat.le_of_ble_eq_true rfl) rfl ?_
                                        refine z_iinc E q dL_areStates_315 (L' := [some (.ref (ad G 10 0)), some (.ref (ad G 16 0)), some (.ref (ad G 17 0)), some (.ref (ad G 18 0)), some (.ref (ad G 19 0)), some (.ref (ad G 20 0)), some (.ref (ad G 21 0)), some (.ref (ad G 22 0)), some (.int (iI 1)), some (.int (iI kz)), some (.int (iI ch)), some (.int (iI st)), some (.int (iI 0)), some (.int (iI (ot + 1))), some (.int (iI (ow + 0))), some (.int (iI (un + 1))), some (.int (iI 0)), some (.int (iI (q + 1))), some (.int (iI (mo s kz (2 + q)))), some (.int (iI fi)), some (.int (iI e))]) (Nat.le_of_ble_eq_true rfl) rfl rfl ?_
                                        refine z_goto E 150 dL_areStates_318 rfl ?_
                                        refine Kz.drop 18 (L' := [some (.ref (ad G 10 0)), some (.ref (ad G 16 0)), some (.ref (ad G 17 0)), some (.ref (ad G 18 0)), some (.ref (ad G 19 0)), some (.ref (ad G 20 0)), some (.ref (ad G 21 0)), some (.ref (ad G 22 0)), some (.int (iI 1)), some (.int (iI kz)), some (.int (iI ch)), some (.int (iI st)), some (.int (iI 0)), some (.int (iI (ot + 1))), some (.int (iI (ow + 0))), some (.int (iI (un + 1))), some (.int (iI 0)), some (.int (iI (q + 1))), none, some (.int (iI fi)), some (.int (iI e))]) rfl ?_
                                        refine Kz.drop 19 (L' := [some (.ref (ad G 10 0)), some (.ref (ad G 16 0)), some (.ref (ad G 17 0)), some (.ref (ad G 18 0)), some (.ref (ad G 19 0)), some (.ref (ad G 20 0)), some (.ref (ad G 21 0)), some (.ref (ad G 22 0)), some (.int (iI 1)), some (.int (iI kz)), some (.int (iI ch)), some (.int (iI st)), some (.int (iI 0)), some (.int (iI (ot + 1))), some (.int (iI (ow + 0))), some (.int (iI (un + 1))), some (.int (iI 0)), some (.int (iI (q + 1))), none, none, some (.int (iI e))]) rfl ?_
                                        refine Kz.drop 20 (L' := [some (.ref (ad G 10 0)), some (.ref (ad G 16 0)), some (.ref (ad G 17 0)), some (.ref (ad G 18 0)), some (.ref (ad G 19 0)), some (.ref (ad G 20 0)), some (.ref (ad G 21 0)), some (.ref (ad G 22 0)), some (.int (iI 1)), some (.int (iI kz)), some (.int (iI ch)), some (.int (iI st)), some (.int (iI 0)), some (.int (iI (ot + 1))), some (.int (iI (ow + 0))), some (.int (iI (un + 1))), some (.int (iI 0)), some (.int (iI (q + 1))), none, none, none]) rfl ?_
                                        exact ih_150 (ot + 1) (ow + 0) (un + 1) (q + 1) (by omega) (by omega) (by first | exact smb_t ho hq0 ⟨by omega, by assumption⟩ | exact smb_f ho hq0 (fun z => absurd z.1 (by omega)) | exact smb_f ho hq0 (fun z => z.2 (by assumption))) (by first | exact smb_t hw hq0 (by omega) | exact smb_f hw hq0 (by omega)) (by first | exact smb_t hu hq0 (hft (by omega)) | exact smb_f hu hq0 (hff (by omega))) (by omega)
                                    · skip
                                      refine z_iload E dL_areStates_246 rfl ?_
                                      refine z_if_eq E 269 dL_areStates_248 rfl (by omega) (fun c_164 => ?_) (fun c_164 => ?_)
                                      · skip
                                        refine z_iconst E dL_areStates_269 ?_
                                        refine z_istore E dL_areStates_270 (L' := [some (.ref (ad G 10 0)), some (.ref (ad G 16 0)), some (.ref (ad G 17 0)), some (.ref (ad G 18 0)), some (.ref (ad G 19 0)), some (.ref (ad G 20 0)), some (.ref (ad G 21 0)), some (.ref (ad G 22 0)), some (.int (iI 1)), some (.int (iI kz)), some (.int (iI ch)), some (.int (iI st)), some (.int (iI 0)), some (.int (iI (ot + 1))), some (.int (iI (ow + 0))), some (.int (iI un)), some (.int (iI 0)), some (.int (iI q)), some (.int (iI (mo s kz (2 + q)))), some (.int (iI 0)), some (.int (iI e))]) (Nat.le_of_ble_eq_true rfl) rfl ?_
                                        refine z_iinc E e dL_areStates_272 (L' := [some (.ref (ad G 10 0)), some (.ref (ad G 16 0)), some (.ref (ad G 17 0)), some (.ref (ad G 18 0)), some (.ref (ad G 19 0)), some (.ref (ad G 20 0)), some (.ref (ad G 21 0)), some (.ref (ad G 22 0)), some (.int (iI 1)), some (.int (iI kz)), some (.int (iI ch)), some (.int (iI st)), some (.int (iI 0)), some (.int (iI (ot + 1))), some (.int (iI (ow + 0))), some (.int (iI un)), some (.int (iI 0)), some (.int (iI q)), some (.int (iI (mo s kz (2 + q)))), some (.int (iI 0)), some (.int (iI (e + 1)))]) (Nat.le_of_ble_eq_true rfl) rfl rfl ?_
                                        refine z_goto E 239 dL_areStates_275 rfl ?_
                                        exact ih_239 0 (e + 1) (by omega) (by omega) (by first | exact ba_1 hfi (by omega) (by assumption) | exact ba_0a hfi (by omega) | exact ba_0p he0 (fun z => z (by assumption))) (by omega) (by omega)
                                      · skip
                                        refine z_aload E dL_areStates_251 rfl ?_
                                        refine z_iload E dL_areStates_253 rfl ?_
                                        refine z_iload E dL_areStates_255 rfl ?_
                                        refine z_callS E (n := 3) (st := []) [.ref (ad G 20 0), .int (iI kz), .int (iI e)] (kL_block l G P V kz e (by omega) (by omega) (hN.vr _).1) gL_areStates_L_block rfl ⟨rfl, rfl⟩ (by decide +kernel) ⟨Nat.le_of_ble_eq_true rfl, Nat.le_of_ble_eq_true rfl⟩ rfl rfl (Nat.le_of_ble_eq_true rfl) rfl dL_areStates_257 (z_dtI ?_)
                                        rw [hN.r kz e hk0 k1 he0 (by omega)]
                                        have he2 := hM.l kz e hk0 (by omega) he0 (by omega)
                                        refine z_iload E dL_areStates_260 rfl ?_
                                        refine z_icmp_eq E 269 dL_areStates_262 rfl (by omega) (by omega) (fun c_166 => ?_) (fun c_166 => ?_)
                                        · skip
                                          refine z_iconst E dL_areStates_269 ?_
                                          refine z_istore E dL_areStates_270 (L' := [some (.ref (ad G 10 0)), some (.ref (ad G 16 0)), some (.ref (ad G 17 0)), some (.ref (ad G 18 0)), some (.ref (ad G 19 0)), some (.ref (ad G 20 0)), some (.ref (ad G 21 0)), some (.ref (ad G 22 0)), some (.int (iI 1)), some (.int (iI kz)), some (.int (iI ch)), some (.int (iI st)), some (.int (iI 0)), some (.int (iI (ot + 1))), some (.int (iI (ow + 0))), some (.int (iI un)), some (.int (iI 0)), some (.int (iI q)), some (.int (iI (mo s kz (2 + q)))), some (.int (iI 0)), some (.int (iI e))]) (Nat.le_of_ble_eq_true rfl) rfl ?_
                                          refine z_iinc E e dL_areStates_272 (L' := [some (.ref (ad G 10 0)), some (.ref (ad G 16 0)), some (.ref (ad G 17 0)), some (.ref (ad G 18 0)), some (.ref (ad G 19 0)), some (.ref (ad G 20 0)), some (.ref (ad G 21 0)), some (.ref (ad G 22 0)), some (.int (iI 1)), some (.int (iI kz)), some (.int (iI ch)), some (.int (iI st)), some (.int (iI 0)), some (.int (iI (ot + 1))), some (.int (iI (ow + 0))), some (.int (iI un)), some (.int (iI 0)), some (.int (iI q)), some (.int (iI (mo s kz (2 + q)))), some (.int (iI 0)), some (.int (iI (e + 1)))]) (Nat.le_of_ble_eq_true rfl) rfl rfl ?_
                                          refine z_goto E 239 dL_areStates_275 rfl ?_
                                          exact ih_239 0 (e + 1) (by omega) (by omega) (by first | exact ba_1 hfi (by omega) (by assumption) | exact ba_0a hfi (by omega) | exact ba_0p he0 (fun z => z (by assumption))) (by omega) (by omega)
                                        · skip
                                          refine z_iconst E dL_areStates_265 ?_
                                          refine z_goto E 270 dL_areStates_266 rfl ?_
                                          refine z_istore E dL_areStates_270 (L' := [some (.ref (ad G 10 0)), some (.ref (ad G 16 0)), some (.ref (ad G 17 0)), some (.ref (ad G 18 0)), some (.ref (ad G 19 0)), some (.ref (ad G 20 0)), some (.ref (ad G 21 0)), some (.ref (ad G 22 0)), some (.int (iI 1)), some (.int (iI kz)), some (.int (iI ch)), some (.int (iI st)), some (.int (iI 0)), some (.int (iI (ot + 1))), some (.int (iI (ow + 0))), some (.int (iI un)), some (.int (iI 0)), some (.int (iI q)), some (.int (iI (mo s kz (2 + q)))), some (.int (iI 1)), some (.int (iI e))]) (Nat.le_of_ble_eq_true rfl) rfl ?_
                                          refine z_iinc E e dL_areStates_272 (L' := [some (.ref (ad G 10 0)), some (.ref (ad G 16 0)), some (.ref (ad G 17 0)), some (.ref (ad G 18 0)), some (.ref (ad G 19 0)), some (.ref (ad G 20 0)), some (.ref (ad G 21 0)), some (.ref (ad G 22 0)), some (.int (iI 1)), some (.int (iI kz)), some (.int (iI ch)), some (.int (iI st)), some (.int (iI 0)), some (.int (iI (ot + 1))), some (.int (iI (ow + 0))), some (.int (iI un)), some (.int (iI 0)), some (.int (iI q)), some (.int (iI (mo s kz (2 + q)))), some (.int (iI 1)), some (.int (iI (e + 1)))]) (Nat.le_of_ble_eq_true rfl) rfl rfl ?_
                                          refine z_goto E 239 dL_areStates_275 rfl ?_
                                          exact ih_239 1 (e + 1) (by omega) (by omega) (by first | exact ba_1 hfi (by omega) (by assumption) | exact ba_0a hfi (by omega) | exact ba_0p he0 (fun z => z (by assumption))) (by omega) (by omega)
                                exact lp_239_157 ((q - 0 : Int).toNat + 1) 1 0 (by omega) (by omega) ba_i (by omega) (Nat.lt_succ_self _)
                              · skip
                                refine z_iconst E dL_areStates_225 ?_
                                refine z_goto E 230 dL_areStates_226 rfl ?_
                                refine z_iadd E dL_areStates_230 ?_
                                refine z_istore E dL_areStates_231 (L' := [some (.ref (ad G 10 0)), some (.ref (ad G 16 0)), some (.ref (ad G 17 0)), some (.ref (ad G 18 0)), some (.ref (ad G 19 0)), some (.ref (ad G 20 0)), some (.ref (ad G 21 0)), some (.ref (ad G 22 0)), some (.int (iI 1)), some (.int (iI kz)), some (.int (iI ch)), some (.int (iI st)), some (.int (iI 0)), some (.int (iI (ot + 1))), some (.int (iI (ow + 1))), some (.int (iI un)), some (.int (iI 0)), some (.int (iI q)), some (.int (iI (mo s kz (2 + q)))), none, none]) (Nat.le_of_ble_eq_true rfl) rfl ?_
                                refine z_iconst E dL_areStates_233 ?_
                                refine z_istore E dL_areStates_234 (L' := [some (.ref (ad G 10 0)), some (.ref (ad G 16 0)), some (.ref (ad G 17 0)), some (.ref (ad G 18 0)), some (.ref (ad G 19 0)), some (.ref (ad G 20 0)), some (.ref (ad G 21 0)), some (.ref (ad G 22 0)), some (.int (iI 1)), some (.int (iI kz)), some (.int (iI ch)), some (.int (iI st)), some (.int (iI 0)), some (.int (iI (ot + 1))), some (.int (iI (ow + 1))), some (.int (iI un)), some (.int (iI 0)), some (.int (iI q)), some (.int (iI (mo s kz (2 + q)))), some (.int (iI 1)), none]) (Nat.le_of_ble_eq_true rfl) rfl ?_
                                refine z_iconst E dL_areStates_236 ?_
                                refine z_istore E dL_areStates_237 (L' := [some (.ref (ad G 10 0)), some (.ref (ad G 16 0)), some (.ref (ad G 17 0)), some (.ref (ad G 18 0)), some (.ref (ad G 19 0)), some (.ref (ad G 20 0)), some (.ref (ad G 21 0)), some (.ref (ad G 22 0)), some (.int (iI 1)), some (.int (iI kz)), some (.int (iI ch)), some (.int (iI st)), some (.int (iI 0)), some (.int (iI (ot + 1))), some (.int (iI (ow + 1))), some (.int (iI un)), some (.int (iI 0)), some (.int (iI q)), some (.int (iI (mo s kz (2 + q)))), some (.int (iI 1)), some (.int (iI 0))]) (Nat.le_of_ble_eq_true rfl) rfl ?_
                                have lp_239_167 : ∀ (fuel : Nat) (fi : Int) (e : Int), (0 ≤ e) → (e ≤ q) → (fi = b2i (∀ j, 0 ≤ j → j < e → ¬ mo s kz (2 + j) = mo s kz (2 + q))) → (fi = 0 ∨ fi = 1) → (q - e : Int).toNat < fuel → Kz X G P V 0 0 [some (.ref (ad G 10 0)), some (.ref (ad G 16 0)), some (.ref (ad G 17 0)), some (.ref (ad G 18 0)), some (.ref (ad G 19 0)), some (.ref (ad G 20 0)), some (.ref (ad G 21 0)), some (.ref (ad G 22 0)), some (.int (iI 1)), some (.int (iI kz)), some (.int (iI ch)), some (.int (iI st)), some (.int (iI 0)), some (.int (iI (ot + 1))), some (.int (iI (ow + 1))), some (.int (iI un)), some (.int (iI 0)), some (.int (iI q)), some (.int (iI (mo s kz (2 + q)))), some (.int (iI fi)), some (.int (iI e))] 239 [] := by
                                  intro fuel
                                  induction fuel with
                                  | zero => intro fi e he0 he1 hfi hf01 hf_239; exact absurd hf_239 (Nat.not_lt_zero _)
                                  | succ fuel ih_239 =>
                                    intro fi e he0 he1 hfi hf01 hf_239
                                    refine z_iload E dL_areStates_239 rfl ?_
                                    refine z_iload E dL_areStates_241 rfl ?_
                                    refine z_icmp_ge E 278 dL_areStates_243 rfl (by omega) (by omega) (fun c_168 => ?_) (fun c_168 => ?_)
                                    · skip
                                      have he : e = q := by omega
                                      rw [he] at hfi
                                      have hft : ¬ fi = 0 → ∀ j, 0 ≤ j → j < q → ¬ mo s kz (2 + j) = mo s kz (2 + q) := fun z => b2i_eq1.mp (by rw [← hfi]; omega)
                                      have hff : fi = 0 → ¬ (∀ j, 0 ≤ j → j < q → ¬ mo s kz (2 + j) = mo s kz (2 + q)) := fun z => b2i_eq0.mp (by rw [← hfi]; exact z)
                                      refine z_iload E dL_areStates_278 rfl ?_
                                      refine z_iload E dL_areStates_280 rfl ?_
                                      refine z_if_eq E 289 dL_areStates_282 rfl (by omega) (fun c_169 => ?_) (fun c_169 => ?_)
                                      · skip
                                        refine z_iconst E dL_areStates_289 ?_
                                        refine z_iadd E dL_areStates_290 ?_
                                        refine z_istore E dL_areStates_291 (L' := [some (.ref (ad G 10 0)), some (.ref (ad G 16 0)), some (.ref (ad G 17 0)), some (.ref (ad G 18 0)), some (.ref (ad G 19 0)), some (.ref (ad G 20 0)), some (.ref (ad G 21 0)), some (.ref (ad G 22 0)), some (.int (iI 1)), some (.int (iI kz)), some (.int (iI ch)), some (.int (iI st)), some (.int (iI 0)), some (.int (iI (ot + 1))), some (.int (iI (ow + 1))), some (.int (iI (un + 0))), some (.int (iI 0)), some (.int (iI q)), some (.int (iI (mo s kz (2 + q)))), some (.int (iI fi)), some (.int (iI e))]) (Nat.le_of_ble_eq_true rfl) rfl ?_
                                        refine z_aload_n E dL_areStates_293 0 rfl rfl ?_
                                        refine z_aload_n E dL_areStates_294 3 rfl rfl ?_
                                        refine z_iload E dL_areStates_295 rfl ?_
                                        refine z_iald E (rfl : vl G 18 0 = true) 16 rfl (by omega) (by omega) (by omega) dL_areStates_297 ?_
                                        refine z_iload E dL_areStates_298 rfl ?_
                                        refine z_callV E (ci := 5) (N := 4) (C := RX5) (T := TX5) (n := 2) (st := []) (rfl : vl G 10 0 = true) rfl rfl [.int (iI (V 18 0 kz)), .int (iI q)] (kX5_blockAt l G P V (V 18 0 kz) q hC.w0 hB hC.n0 hC.n1 hC.L (by omega) (by omega)) gL_areStates_X5_blockAt rfl ⟨rfl, rfl⟩ (by decide +kernel) ⟨Nat.le_of_ble_eq_true rfl, Nat.le_of_ble_eq_true rfl⟩ rfl rfl (Nat.le_of_ble_eq_true rfl) rfl dL_areStates_300 (z_dtI ?_)
                                        refine z_iload E dL_areStates_303 rfl ?_
                                        refine z_icne_e E ((ba_at hC.R hN hk0 k1 hq0 (by omega))) dL_areStates_305 312 rfl ?_
                                        refine z_iconst E dL_areStates_308 ?_
                                        refine z_goto E 313 dL_areStates_309 rfl ?_
                                        refine z_istore E dL_areStates_313 (L' := [some (.ref (ad G 10 0)), some (.ref (ad G 16 0)), some (.ref (ad G 17 0)), some (.ref (ad G 18 0)), some (.ref (ad G 19 0)), some (.ref (ad G 20 0)), some (.ref (ad G 21 0)), some (.ref (ad G 22 0)), some (.int (iI 1)), some (.int (iI kz)), some (.int (iI ch)), some (.int (iI st)), some (.int (iI 0)), some (.int (iI (ot + 1))), some (.int (iI (ow + 1))), some (.int (iI (un + 0))), some (.int (iI 0)), some (.int (iI q)), some (.int (iI (mo s kz (2 + q)))), some (.int (iI fi)), some (.int (iI e))]) (Nat.le_of_ble_eq_true rfl) rfl ?_
                                        refine z_iinc E q dL_areStates_315 (L' := [some (.ref (ad G 10 0)), some (.ref (ad G 16 0)), some (.ref (ad G 17 0)), some (.ref (ad G 18 0)), some (.ref (ad G 19 0)), some (.ref (ad G 20 0)), some (.ref (ad G 21 0)), some (.ref (ad G 22 0)), some (.int (iI 1)), some (.int (iI kz)), some (.int (iI ch)), some (.int (iI st)), some (.int (iI 0)), some (.int (iI (ot + 1))), some (.int (iI (ow + 1))), some (.int (iI (un + 0))), some (.int (iI 0)), some (.int (iI (q + 1))), some (.int (iI (mo s kz (2 + q)))), some (.int (iI fi)), some (.int (iI e))]) (Nat.le_of_ble_eq_true rfl) rfl rfl ?_
                                        refine z_goto E 150 dL_areStates_318 rfl ?_
                                        refine Kz.drop 18 (L' := [some (.ref (ad G 10 0)), some (.ref (ad G 16 0)), some (.ref (ad G 17 0)), some (.ref (ad G 18 0)), some (.ref (ad G 19 0)), some (.ref (ad G 20 0)), some (.ref (ad G 21 0)), some (.ref (ad G 22 0)), some (.int (iI 1)), some (.int (iI kz)), some (.int (iI ch)), some (.int (iI st)), some (.int (iI 0)), some (.int (iI (ot + 1))), some (.int (iI (ow + 1))), some (.int (iI (un + 0))), some (.int (iI 0)), some (.int (iI (q + 1))), none, some (.int (iI fi)), some (.int (iI e))]) rfl ?_
                                        refine Kz.drop 19 (L' := [some (.ref (ad G 10 0)), some (.ref (ad G 16 0)), some (.ref (ad G 17 0)), some (.ref (ad G 18 0)), some (.ref (ad G 19 0)), some (.ref (ad G 20 0)), some (.ref (ad G 21 0)), some (.ref (ad G 22 0)), some (.int (iI 1)), some (.int (iI kz)), some (.int (iI ch)), some (.int (iI st)), some (.int (iI 0)), some (.int (iI (ot + 1))), some (.int (iI (ow + 1))), some (.int (iI (un + 0))), some (.int (iI 0)), some (.int (iI (q + 1))), none, none, some (.int (iI e))]) rfl ?_
                                        refine Kz.drop 20 (L' := [some (.ref (ad G 10 0)), some (.ref (ad G 16 0)), some (.ref (ad G 17 0)), some (.ref (ad G 18 0)), some (.ref (ad G 19 0)), some (.ref (ad G 20 0)), some (.ref (ad G 21 0)), some (.ref (ad G 22 0)), some (.int (iI 1)), some (.int (iI kz)), some (.int (iI ch)), some (.int (iI st)), some (.int (iI 0)), some (.int (iI (ot + 1))), some (.int (iI (ow + 1))), some (.int (iI (un + 0))), some (.int (iI 0)), some (.int (iI (q + 1))), none, none, none]) rfl ?_
                                        exact ih_150 (ot + 1) (ow + 1) (un + 0) (q + 1) (by omega) (by omega) (by first | exact smb_t ho hq0 ⟨by omega, by assumption⟩ | exact smb_f ho hq0 (fun z => absurd z.1 (by omega)) | exact smb_f ho hq0 (fun z => z.2 (by assumption))) (by first | exact smb_t hw hq0 (by omega) | exact smb_f hw hq0 (by omega)) (by first | exact smb_t hu hq0 (hft (by omega)) | exact smb_f hu hq0 (hff (by omega))) (by omega)
                                      · skip
                                        refine z_iconst E dL_areStates_285 ?_
                                        refine z_goto E 290 dL_areStates_286 rfl ?_
                                        refine z_iadd E dL_areStates_290 ?_
                                        refine z_istore E dL_areStates_291 (L' := [some (.ref (ad G 10 0)), some (.ref (ad G 16 0)), some (.ref (ad G 17 0)), some (.ref (ad G 18 0)), some (.ref (ad G 19 0)), some (.ref (ad G 20 0)), some (.ref (ad G 21 0)), some (.ref (ad G 22 0)), some (.int (iI 1)), some (.int (iI kz)), some (.int (iI ch)), some (.int (iI st)), some (.int (iI 0)), some (.int (iI (ot + 1))), some (.int (iI (ow + 1))), some (.int (iI (un + 1))), some (.int (iI 0)), some (.int (iI q)), some (.int (iI (mo s kz (2 + q)))), some (.int (iI fi)), some (.int (iI e))]) (Nat.le_of_ble_eq_true rfl) rfl ?_
                                        refine z_aload_n E dL_areStates_293 0 rfl rfl ?_
                                        refine z_aload_n E dL_areStates_294 3 rfl rfl ?_
                                        refine z_iload E dL_areStates_295 rfl ?_
                                        refine z_iald E (rfl : vl G 18 0 = true) 16 rfl (by omega) (by omega) (by omega) dL_areStates_297 ?_
                                        refine z_iload E dL_areStates_298 rfl ?_
                                        refine z_callV E (ci := 5) (N := 4) (C := RX5) (T := TX5) (n := 2) (st := []) (rfl : vl G 10 0 = true) rfl rfl [.int (iI (V 18 0 kz)), .int (iI q)] (kX5_blockAt l G P V (V 18 0 kz) q hC.w0 hB hC.n0 hC.n1 hC.L (by omega) (by omega)) gL_areStates_X5_blockAt rfl ⟨rfl, rfl⟩ (by decide +kernel) ⟨Nat.le_of_ble_eq_true rfl, Nat.le_of_ble_eq_true rfl⟩ rfl rfl (Nat.le_of_ble_eq_true rfl) rfl dL_areStates_300 (z_dtI ?_)
                                        refine z_iload E dL_areStates_303 rfl ?_
                                        refine z_icne_e E ((ba_at hC.R hN hk0 k1 hq0 (by omega))) dL_areStates_305 312 rfl ?_
                                        refine z_iconst E dL_areStates_308 ?_
                                        refine z_goto E 313 dL_areStates_309 rfl ?_
                                        refine z_istore E dL_areStates_313 (L' := [some (.ref (ad G 10 0)), some (.ref (ad G 16 0)), some (.ref (ad G 17 0)), some (.ref (ad G 18 0)), some (.ref (ad G 19 0)), some (.ref (ad G 20 0)), some (.ref (ad G 21 0)), some (.ref (ad G 22 0)), some (.int (iI 1)), some (.int (iI kz)), some (.int (iI ch)), some (.int (iI st)), some (.int (iI 0)), some (.int (iI (ot + 1))), some (.int (iI (ow + 1))), some (.int (iI (un + 1))), some (.int (iI 0)), some (.int (iI q)), some (.int (iI (mo s kz (2 + q)))), some (.int (iI fi)), some (.int (iI e))]) (Nat.le_of_ble_eq_true rfl) rfl ?_
                                        refine z_iinc E q dL_areStates_315 (L' := [some (.ref (ad G 10 0)), some (.ref (ad G 16 0)), some (.ref (ad G 17 0)), some (.ref (ad G 18 0)), some (.ref (ad G 19 0)), some (.ref (ad G 20 0)), some (.ref (ad G 21 0)), some (.ref (ad G 22 0)), some (.int (iI 1)), some (.int (iI kz)), some (.int (iI ch)), some (.int (iI st)), some (.int (iI 0)), some (.int (iI (ot + 1))), some (.int (iI (ow + 1))), some (.int (iI (un + 1))), some (.int (iI 0)), some (.int (iI (q + 1))), some (.int (iI (mo s kz (2 + q)))), some (.int (iI fi)), some (.int (iI e))]) (Nat.le_of_ble_eq_true rfl) rfl rfl ?_
                                        refine z_goto E 150 dL_areStates_318 rfl ?_
                                        refine Kz.drop 18 (L' := [some (.ref (ad G 10 0)), some (.ref (ad G 16 0)), some (.ref (ad G 17 0)), some (.ref (ad G 18 0)), some (.ref (ad G 19 0)), some (.ref (ad G 20 0)), some (.ref (ad G 21 0)), some (.ref (ad G 22 0)), some (.int (iI 1)), some (.int (iI kz)), some (.int (iI ch)), some (.int (iI st)), some (.int (iI 0)), some (.int (iI (ot + 1))), some (.int (iI (ow + 1))), some (.int (iI (un + 1))), some (.int (iI 0)), some (.int (iI (q + 1))), none, some (.int (iI fi)), some (.int (iI e))]) rfl ?_
                                        refine Kz.drop 19 (L' := [some (.ref (ad G 10 0)), some (.ref (ad G 16 0)), some (.ref (ad G 17 0)), some (.ref (ad G 18 0)), some (.ref (ad G 19 0)), some (.ref (ad G 20 0)), some (.ref (ad G 21 0)), some (.ref (ad G 22 0)), some (.int (iI 1)), some (.int (iI kz)), some (.int (iI ch)), some (.int (iI st)), some (.int (iI 0)), some (.int (iI (ot + 1))), some (.int (iI (ow + 1))), some (.int (iI (un + 1))), some (.int (iI 0)), some (.int (iI (q + 1))), none, none, some (.int (iI e))]) rfl ?_
                                        refine Kz.drop 20 (L' := [some (.ref (ad G 10 0)), some (.ref (ad G 16 0)), some (.ref (ad G 17 0)), some (.ref (ad G 18 0)), some (.ref (ad G 19 0)), some (.ref (ad G 20 0)), some (.ref (ad G 21 0)), some (.ref (ad G 22 0)), some (.int (iI 1)), some (.int (iI kz)), some (.int (iI ch)), some (.int (iI st)), some (.int (iI 0)), some (.int (iI (ot + 1))), some (.int (iI (ow + 1))), some (.int (iI (un + 1))), some (.int (iI 0)), some (.int (iI (q + 1))), none, none, none]) rfl ?_
                                        exact ih_150 (ot + 1) (ow + 1) (un + 1) (q + 1) (by omega) (by omega) (by first | exact smb_t ho hq0 ⟨by omega, by assumption⟩ | exact smb_f ho hq0 (fun z => absurd z.1 (by omega)) | exact smb_f ho hq0 (fun z => z.2 (by assumption))) (by first | exact smb_t hw hq0 (by omega) | exact smb_f hw hq0 (by omega)) (by first | exact smb_t hu hq0 (hft (by omega)) | exact smb_f hu hq0 (hff (by omega))) (by omega)
                                    · skip
                                      refine z_iload E dL_areStates_246 rfl ?_
                                      refine z_if_eq E 269 dL_areStates_248 rfl (by omega) (fun c_174 => ?_) (fun c_174 => ?_)
                                      · skip
                                        refine z_iconst E dL_areStates_269 ?_
                                        refine z_istore E dL_areStates_270 (L' := [some (.ref (ad G 10 0)), some (.ref (ad G 16 0)), some (.ref (ad G 17 0)), some (.ref (ad G 18 0)), some (.ref (ad G 19 0)), some (.ref (ad G 20 0)), some (.ref (ad G 21 0)), some (.ref (ad G 22 0)), some (.int (iI 1)), some (.int (iI kz)), some (.int (iI ch)), some (.int (iI st)), some (.int (iI 0)), some (.int (iI (ot + 1))), some (.int (iI (ow + 1))), some (.int (iI un)), some (.int (iI 0)), some (.int (iI q)), some (.int (iI (mo s kz (2 + q)))), some (.int (iI 0)), some (.int (iI e))]) (Nat.le_of_ble_eq_true rfl) rfl ?_
                                        refine z_iinc E e dL_areStates_272 (L' := [some (.ref (ad G 10 0)), some (.ref (ad G 16 0)), some (.ref (ad G 17 0)), some (.ref (ad G 18 0)), some (.ref (ad G 19 0)), some (.ref (ad G 20 0)), some (.ref (ad G 21 0)), some (.ref (ad G 22 0)), some (.int (iI 1)), some (.int (iI kz)), some (.int (iI ch)), some (.int (iI st)), some (.int (iI 0)), some (.int (iI (ot + 1))), some (.int (iI (ow + 1))), some (.int (iI un)), some (.int (iI 0)), some (.int (iI q)), some (.int (iI (mo s kz (2 + q)))), some (.int (iI 0)), some (.int (iI (e + 1)))]) (Nat.le_of_ble_eq_true rfl) rfl rfl ?_
                                        refine z_goto E 239 dL_areStates_275 rfl ?_
                                        exact ih_239 0 (e + 1) (by omega) (by omega) (by first | exact ba_1 hfi (by omega) (by assumption) | exact ba_0a hfi (by omega) | exact ba_0p he0 (fun z => z (by assumption))) (by omega) (by omega)
                                      · skip
                                        refine z_aload E dL_areStates_251 rfl ?_
                                        refine z_iload E dL_areStates_253 rfl ?_
                                        refine z_iload E dL_areStates_255 rfl ?_
                                        refine z_callS E (n := 3) (st := []) [.ref (ad G 20 0), .int (iI kz), .int (iI e)] (kL_block l G P V kz e (by omega) (by omega) (hN.vr _).1) gL_areStates_L_block rfl ⟨rfl, rfl⟩ (by decide +kernel) ⟨Nat.le_of_ble_eq_true rfl, Nat.le_of_ble_eq_true rfl⟩ rfl rfl (Nat.le_of_ble_eq_true rfl) rfl dL_areStates_257 (z_dtI ?_)
                                        rw [hN.r kz e hk0 k1 he0 (by omega)]
                                        have he2 := hM.l kz e hk0 (by omega) he0 (by omega)
                                        refine z_iload E dL_areStates_260 rfl ?_
                                        refine z_icmp_eq E 269 dL_areStates_262 rfl (by omega) (by omega) (fun c_176 => ?_) (fun c_176 => ?_)
                                        · skip
                                          refine z_iconst E dL_areStates_269 ?_
                                          refine z_istore E dL_areStates_270 (L' := [some (.ref (ad G 10 0)), some (.ref (ad G 16 0)), some (.ref (ad G 17 0)), some (.ref (ad G 18 0)), some (.ref (ad G 19 0)), some (.ref (ad G 20 0)), some (.ref (ad G 21 0)), some (.ref (ad G 22 0)), some (.int (iI 1)), some (.int (iI kz)), some (.int (iI ch)), some (.int (iI st)), some (.int (iI 0)), some (.int (iI (ot + 1))), some (.int (iI (ow + 1))), some (.int (iI un)), some (.int (iI 0)), some (.int (iI q)), some (.int (iI (mo s kz (2 + q)))), some (.int (iI 0)), some (.int (iI e))]) (Nat.le_of_ble_eq_true rfl) rfl ?_
                                          refine z_iinc E e dL_areStates_272 (L' := [some (.ref (ad G 10 0)), some (.ref (ad G 16 0)), some (.ref (ad G 17 0)), some (.ref (ad G 18 0)), some (.ref (ad G 19 0)), some (.ref (ad G 20 0)), some (.ref (ad G 21 0)), some (.ref (ad G 22 0)), some (.int (iI 1)), some (.int (iI kz)), some (.int (iI ch)), some (.int (iI st)), some (.int (iI 0)), some (.int (iI (ot + 1))), some (.int (iI (ow + 1))), some (.int (iI un)), some (.int (iI 0)), some (.int (iI q)), some (.int (iI (mo s kz (2 + q)))), some (.int (iI 0)), some (.int (iI (e + 1)))]) (Nat.le_of_ble_eq_true rfl) rfl rfl ?_
                                          refine z_goto E 239 dL_areStates_275 rfl ?_
                                          exact ih_239 0 (e + 1) (by omega) (by omega) (by first | exact ba_1 hfi (by omega) (by assumption) | exact ba_0a hfi (by omega) | exact ba_0p he0 (fun z => z (by assumption))) (by omega) (by omega)
                                        · skip
                                          refine z_iconst E dL_areStates_265 ?_
                                          refine z_goto E 270 dL_areStates_266 rfl ?_
                                          refine z_istore E dL_areStates_270 (L' := [some (.ref (ad G 10 0)), some (.ref (ad G 16 0)), some (.ref (ad G 17 0)), some (.ref (ad G 18 0)), some (.ref (ad G 19 0)), some (.ref (ad G 20 0)), some (.ref (ad G 21 0)), some (.ref (ad G 22 0)), some (.int (iI 1)), some (.int (iI kz)), some (.int (iI ch)), some (.int (iI st)), some (.int (iI 0)), some (.int (iI (ot + 1))), some (.int (iI (ow + 1))), some (.int (iI un)), some (.int (iI 0)), some (.int (iI q)), some (.int (iI (mo s kz (2 + q)))), some (.int (iI 1)), some (.int (iI e))]) (Nat.le_of_ble_eq_true rfl) rfl ?_
                                          refine z_iinc E e dL_areStates_272 (L' := [some (.ref (ad G 10 0)), some (.ref (ad G 16 0)), some (.ref (ad G 17 0)), some (.ref (ad G 18 0)), some (.ref (ad G 19 0)), some (.ref (ad G 20 0)), some (.ref (ad G 21 0)), some (.ref (ad G 22 0)), some (.int (iI 1)), some (.int (iI kz)), some (.int (iI ch)), some (.int (iI st)), some (.int (iI 0)), some (.int (iI (ot + 1))), some (.int (iI (ow + 1))), some (.int (iI un)), some (.int (iI 0)), some (.int (iI q)), some (.int (iI (mo s kz (2 + q)))), some (.int (iI 1)), some (.int (iI (e + 1)))]) (Nat.le_of_ble_eq_true rfl) rfl rfl ?_
                                          refine z_goto E 239 dL_areStates_275 rfl ?_
                                          exact ih_239 1 (e + 1) (by omega) (by omega) (by first | exact ba_1 hfi (by omega) (by assumption) | exact ba_0a hfi (by omega) | exact ba_0p he0 (fun z => z (by assumption))) (by omega) (by omega)
                                exact lp_239_167 ((q - 0 : Int).toNat + 1) 1 0 (by omega) (by omega) ba_i (by omega) (Nat.lt_succ_self _)
                    exact lp_150_15 ((6 - 0 : Int).toNat + 1) 0 0 0 0 (by omega) (by omega) (sm_0 (by omega)).symm (sm_0 (by omega)).symm (sm_0 (by omega)).symm (Nat.lt_succ_self _)
                  · skip
                    refine z_iinc E st dL_areStates_129 (L' := [some (.ref (ad G 10 0)), some (.ref (ad G 16 0)), some (.ref (ad G 17 0)), some (.ref (ad G 18 0)), some (.ref (ad G 19 0)), some (.ref (ad G 20 0)), some (.ref (ad G 21 0)), some (.ref (ad G 22 0)), some (.int (iI 1)), some (.int (iI kz)), some (.int (iI ch)), some (.int (iI (st + 1))), some (.int (iI 0)), some (.int (iI 0)), some (.int (iI 0)), some (.int (iI 0)), some (.int (iI 0)), some (.int (iI x)), none, none, none]) (Nat.le_of_ble_eq_true rfl) rfl rfl ?_
                    refine z_aload E dL_areStates_132 rfl ?_
                    refine z_aload_n E dL_areStates_134 1 rfl rfl ?_
                    refine z_aload_n E dL_areStates_135 3 rfl rfl ?_
                    refine z_iload E dL_areStates_136 rfl ?_
                    refine z_callS E (n := 3) (st := [.ref (ad G 19 0)]) [.ref (ad G 16 0), .ref (ad G 18 0), .int (iI x)] (kL_find l G P V x hB (by omega) (by omega)) gL_areStates_L_find rfl ⟨rfl, rfl⟩ (by decide +kernel) ⟨Nat.le_of_ble_eq_true rfl, Nat.le_of_ble_eq_true rfl⟩ rfl rfl (Nat.le_of_ble_eq_true rfl) rfl dL_areStates_138 (z_dtI ?_)
                    rw [hN.find]
                    have ex : V 19 0 (mS s x) = mo s (mS s x) 1 := (hN.n _ hx lx.1).2
                    have qx := STx_s hM hst (by omega) (by rw [← ex]; exact hB.g 19 0 _ rfl)
                    rw [← ex] at qx
                    refine z_iald E (rfl : vl G 19 0 = true) 16 rfl (by omega) (by omega) (by omega) dL_areStates_141 ?_
                    have hr_178 := hB.g 19 0 (mS s x) rfl
                    refine z_istore E dL_areStates_142 (L' := [some (.ref (ad G 10 0)), some (.ref (ad G 16 0)), some (.ref (ad G 17 0)), some (.ref (ad G 18 0)), some (.ref (ad G 19 0)), some (.ref (ad G 20 0)), some (.ref (ad G 21 0)), some (.ref (ad G 22 0)), some (.int (iI 1)), some (.int (iI kz)), some (.int (iI ch)), some (.int (iI (st + 1))), some (.int (iI 0)), some (.int (iI 0)), some (.int (iI 0)), some (.int (iI 0)), some (.int (iI 0)), some (.int (iI (V 19 0 (mS s x)))), none, none, none]) (Nat.le_of_ble_eq_true rfl) rfl ?_
                    refine z_goto E 124 dL_areStates_144 rfl ?_
                    exact ih_124 (st + 1) (V 19 0 (mS s x)) qx.1 (by have := qx.2; have := qx.1.1; omega)
              exact lp_124_13 ((mS s (V 18 0 kz) : Int).toNat + 1) 0 (V 18 0 kz) (STx_0 hM xk.1 (by omega)) (Nat.lt_succ_self _)
            · skip
              refine z_iload E dL_areStates_90 rfl ?_
              refine z_aload E dL_areStates_92 rfl ?_
              refine z_iload E dL_areStates_94 rfl ?_
              refine z_iald E (rfl : vl G 19 0 = true) 16 rfl (by omega) (by omega) (by omega) dL_areStates_96 ?_
              have hr_179 := hB.g 19 0 i rfl
              refine z_aload_n E dL_areStates_97 3 rfl rfl ?_
              refine z_iload E dL_areStates_98 rfl ?_
              refine z_iald E (rfl : vl G 18 0 = true) 16 rfl (by omega) (by omega) (by omega) dL_areStates_100 ?_
              have hr_180 := hB.g 18 0 kz rfl
              refine z_icmp_ne E 108 dL_areStates_101 rfl (by omega) (by omega) (fun c_181 => ?_) (fun c_181 => ?_)
              · skip
                refine z_iconst E dL_areStates_108 ?_
                refine z_iadd E dL_areStates_109 ?_
                refine z_istore E dL_areStates_110 (L' := [some (.ref (ad G 10 0)), some (.ref (ad G 16 0)), some (.ref (ad G 17 0)), some (.ref (ad G 18 0)), some (.ref (ad G 19 0)), some (.ref (ad G 20 0)), some (.ref (ad G 21 0)), some (.ref (ad G 22 0)), some (.int (iI 1)), some (.int (iI kz)), some (.int (iI (ch + 0))), some (.int (iI 0)), some (.int (iI 0)), some (.int (iI 0)), some (.int (iI 0)), some (.int (iI 0)), some (.int (iI 0)), some (.int (iI i)), none, none, none]) (Nat.le_of_ble_eq_true rfl) rfl ?_
                refine z_iinc E i dL_areStates_112 (L' := [some (.ref (ad G 10 0)), some (.ref (ad G 16 0)), some (.ref (ad G 17 0)), some (.ref (ad G 18 0)), some (.ref (ad G 19 0)), some (.ref (ad G 20 0)), some (.ref (ad G 21 0)), some (.ref (ad G 22 0)), some (.int (iI 1)), some (.int (iI kz)), some (.int (iI (ch + 0))), some (.int (iI 0)), some (.int (iI 0)), some (.int (iI 0)), some (.int (iI 0)), some (.int (iI 0)), some (.int (iI 0)), some (.int (iI (i + 1))), none, none, none]) (Nat.le_of_ble_eq_true rfl) rfl rfl ?_
                refine z_goto E 82 dL_areStates_115 rfl ?_
                exact ih_82 (ch + 0) (i + 1) (by omega) (by omega) (by first | exact smb_t hch (by omega) (by first | assumption | omega) | exact smb_f hch (by omega) (by first | assumption | omega) | exact smb_f0 hch (by omega) (by first | assumption | omega)) (by omega)
              · skip
                refine z_iconst E dL_areStates_104 ?_
                refine z_goto E 109 dL_areStates_105 rfl ?_
                refine z_iadd E dL_areStates_109 ?_
                refine z_istore E dL_areStates_110 (L' := [some (.ref (ad G 10 0)), some (.ref (ad G 16 0)), some (.ref (ad G 17 0)), some (.ref (ad G 18 0)), some (.ref (ad G 19 0)), some (.ref (ad G 20 0)), some (.ref (ad G 21 0)), some (.ref (ad G 22 0)), some (.int (iI 1)), some (.int (iI kz)), some (.int (iI (ch + 1))), some (.int (iI 0)), some (.int (iI 0)), some (.int (iI 0)), some (.int (iI 0)), some (.int (iI 0)), some (.int (iI 0)), some (.int (iI i)), none, none, none]) (Nat.le_of_ble_eq_true rfl) rfl ?_
                refine z_iinc E i dL_areStates_112 (L' := [some (.ref (ad G 10 0)), some (.ref (ad G 16 0)), some (.ref (ad G 17 0)), some (.ref (ad G 18 0)), some (.ref (ad G 19 0)), some (.ref (ad G 20 0)), some (.ref (ad G 21 0)), some (.ref (ad G 22 0)), some (.int (iI 1)), some (.int (iI kz)), some (.int (iI (ch + 1))), some (.int (iI 0)), some (.int (iI 0)), some (.int (iI 0)), some (.int (iI 0)), some (.int (iI 0)), some (.int (iI 0)), some (.int (iI (i + 1))), none, none, none]) (Nat.le_of_ble_eq_true rfl) rfl rfl ?_
                refine z_goto E 82 dL_areStates_115 rfl ?_
                exact ih_82 (ch + 1) (i + 1) (by omega) (by omega) (by first | exact smb_t hch (by omega) (by first | assumption | omega) | exact smb_f hch (by omega) (by first | assumption | omega) | exact smb_f0 hch (by omega) (by first | assumption | omega)) (by omega)
        exact lp_82_10 ((s 0 - 0 : Int).toNat + 1) 0 0 (by omega) (by omega) (sm_0 (by omega)).symm (Nat.lt_succ_self _)
  exact lp_45_7 ((s 0 - 0 : Int).toNat + 1) 0 (by omega) (by omega) (Nat.lt_succ_self _)

set_option maxHeartbeats 4000000 in
set_option maxRecDepth 100000 in
theorem kL_isSo (l : Launch) (G : Gl) (P : Nat → Nat) (V : Vt) (s : Int → Int) (hC : LC P V s) (hN : LN V s) : Met l yL_isSo wsL_isSo ({ frames := 6, cells := 0, slots := 0, locals := 156 }) (va_Pc [.ref (ad G 10 0), .ref (ad G 16 0), .ref (ad G 17 0), .ref (ad G 18 0), .ref (ad G 19 0), .ref (ad G 20 0), .ref (ad G 21 0), .ref (ad G 22 0)] (Sg G P V)) (Qk G mkI (fun r P' V' => r = 1 ∧ P' = P ∧ V' = V)) 0 0 (mem G) := by
  refine z_met (cc := cL_isSo) (nL := 11) (ret := (some .boolean)) (own := RL) (by decide +kernel) rfl rfl (Nat.le_of_ble_eq_true rfl) (L := [some (.ref (ad G 10 0)), some (.ref (ad G 16 0)), some (.ref (ad G 17 0)), some (.ref (ad G 18 0)), some (.ref (ad G 19 0)), some (.ref (ad G 20 0)), some (.ref (ad G 21 0)), some (.ref (ad G 22 0)), none, none, none]) rfl ?_
  intro X E Er0
  have f0 : Cond.constant RL 84 (-1000001) ∈ wsL_isSo := by decide +kernel
  have hB := hC.B
  have hM := hC.M
  have hz := hM.z
  have g0 := hN.g0
  have ms1 := hM.s1
  have sb := hC.s1
  refine z_iconst E dL_isSo_0 ?_
  refine z_istore E dL_isSo_1 (L' := [some (.ref (ad G 10 0)), some (.ref (ad G 16 0)), some (.ref (ad G 17 0)), some (.ref (ad G 18 0)), some (.ref (ad G 19 0)), some (.ref (ad G 20 0)), some (.ref (ad G 21 0)), some (.ref (ad G 22 0)), some (.int (iI 0)), none, none]) (Nat.le_of_ble_eq_true rfl) rfl ?_
  refine z_aload_n E dL_isSo_3 0 rfl rfl ?_
  refine z_aload_n E dL_isSo_4 1 rfl rfl ?_
  refine z_aload_n E dL_isSo_5 2 rfl rfl ?_
  refine z_aload_n E dL_isSo_6 3 rfl rfl ?_
  refine z_aload E dL_isSo_7 rfl ?_
  refine z_aload E dL_isSo_9 rfl ?_
  refine z_aload E dL_isSo_11 rfl ?_
  refine z_aload E dL_isSo_13 rfl ?_
  refine z_callS E (n := 8) (st := []) [.ref (ad G 10 0), .ref (ad G 16 0), .ref (ad G 17 0), .ref (ad G 18 0), .ref (ad G 19 0), .ref (ad G 20 0), .ref (ad G 21 0), .ref (ad G 22 0)] (kL_areStates l G P V s hC hN) gL_isSo_L_areStates rfl ⟨rfl, rfl⟩ (by decide +kernel) ⟨Nat.le_of_ble_eq_true rfl, Nat.le_of_ble_eq_true rfl⟩ rfl rfl (Nat.le_of_ble_eq_true rfl) rfl dL_isSo_15 (z_exI (fun r_1 P_1 V_1 h_1 => ?_))
  obtain ⟨hr_1, hP_1, hV_1⟩ := h_1
  rw [hr_1, hP_1, hV_1]
  refine z_if_eq E 39 dL_isSo_18 rfl (by omega) (fun c => absurd c (by decide)) (fun _ => ?_)
  refine z_aload_n E dL_isSo_21 0 rfl rfl ?_
  refine z_aload_n E dL_isSo_22 1 rfl rfl ?_
  refine z_aload E dL_isSo_23 rfl ?_
  refine z_aload E dL_isSo_25 rfl ?_
  refine z_aload E dL_isSo_27 rfl ?_
  refine z_callS E (n := 5) (st := []) [.ref (ad G 10 0), .ref (ad G 16 0), .ref (ad G 20 0), .ref (ad G 21 0), .ref (ad G 22 0)] (kL_areBlocks l G P V s hC hN) gL_isSo_L_areBlocks rfl ⟨rfl, rfl⟩ (by decide +kernel) ⟨Nat.le_of_ble_eq_true rfl, Nat.le_of_ble_eq_true rfl⟩ rfl rfl (Nat.le_of_ble_eq_true rfl) rfl dL_isSo_29 (z_exI (fun r_3 P_3 V_3 h_3 => ?_))
  obtain ⟨hr_3, hP_3, hV_3⟩ := h_3
  rw [hr_3, hP_3, hV_3]
  refine z_if_eq E 39 dL_isSo_32 rfl (by omega) (fun c => absurd c (by decide)) (fun _ => ?_)
  refine z_iconst E dL_isSo_35 ?_
  refine z_goto E 40 dL_isSo_36 rfl ?_
  refine z_istore E dL_isSo_40 (L' := [some (.ref (ad G 10 0)), some (.ref (ad G 16 0)), some (.ref (ad G 17 0)), some (.ref (ad G 18 0)), some (.ref (ad G 19 0)), some (.ref (ad G 20 0)), some (.ref (ad G 21 0)), some (.ref (ad G 22 0)), some (.int (iI 0)), some (.int (iI 1)), none]) (Nat.le_of_ble_eq_true rfl) rfl ?_
  refine z_iconst E dL_isSo_42 ?_
  refine z_istore E dL_isSo_43 (L' := [some (.ref (ad G 10 0)), some (.ref (ad G 16 0)), some (.ref (ad G 17 0)), some (.ref (ad G 18 0)), some (.ref (ad G 19 0)), some (.ref (ad G 20 0)), some (.ref (ad G 21 0)), some (.ref (ad G 22 0)), some (.int (iI 0)), some (.int (iI 1)), some (.int (iI 0))]) (Nat.le_of_ble_eq_true rfl) rfl ?_
  have lp_45_5 : ∀ (fuel : Nat) (m : Int) (i : Int), (0 ≤ i) → (i ≤ 4) → (m = sm i (fun b => b2i (0 ≤ V 17 0 b))) → (4 - i : Int).toNat < fuel → Kz X G P V 0 0 [some (.ref (ad G 10 0)), some (.ref (ad G 16 0)), some (.ref (ad G 17 0)), some (.ref (ad G 18 0)), some (.ref (ad G 19 0)), some (.ref (ad G 20 0)), some (.ref (ad G 21 0)), some (.ref (ad G 22 0)), some (.int (iI m)), some (.int (iI 1)), some (.int (iI i))] 45 [] := by
    intro fuel
    induction fuel with
    | zero => intro m i hi0 hi1 hm hf_45; exact absurd hf_45 (Nat.not_lt_zero _)
    | succ fuel ih_45 =>
      intro m i hi0 hi1 hm hf_45
      refine z_iload E dL_isSo_45 rfl ?_
      refine z_iconst E dL_isSo_47 ?_
      refine z_icmp_ge E 111 dL_isSo_48 rfl (by omega) (by omega) (fun c_6 => ?_) (fun c_6 => ?_)
      · skip
        refine z_iload E dL_isSo_111 rfl ?_
        refine z_if_eq E 233 dL_isSo_113 rfl (by omega) (fun c => absurd c (by decide)) (fun _ => ?_)
        refine z_aload_n E dL_isSo_116 0 rfl rfl ?_
        refine z_iconst E dL_isSo_117 ?_
        refine z_callV E (ci := 5) (N := 4) (C := RX5) (T := TX5) (n := 1) (st := []) (rfl : vl G 10 0 = true) rfl rfl [.int (iI 0)] (kX5_count l G P V 0 hC.w0 hB hC.n0 hC.n1 hC.L (by omega)) gL_isSo_X5_count rfl ⟨rfl, rfl⟩ (by decide +kernel) ⟨Nat.le_of_ble_eq_true rfl, Nat.le_of_ble_eq_true rfl⟩ rfl rfl (Nat.le_of_ble_eq_true rfl) rfl dL_isSo_118 (z_dtI ?_)
        refine z_aload_n E dL_isSo_121 1 rfl rfl ?_
        refine z_iconst E dL_isSo_122 ?_
        refine z_iald E (rfl : vl G 16 0 = true) 6 rfl (by omega) (by omega) (by omega) dL_isSo_123 ?_
        refine z_icne_e E (((cq_0 hC.R).trans g0.symm)) dL_isSo_124 233 rfl ?_
        refine z_aload_n E dL_isSo_127 0 rfl rfl ?_
        refine z_iconst E dL_isSo_128 ?_
        refine z_callV E (ci := 5) (N := 4) (C := RX5) (T := TX5) (n := 1) (st := []) (rfl : vl G 10 0 = true) rfl rfl [.int (iI 1)] (kX5_count l G P V 1 hC.w0 hB hC.n0 hC.n1 hC.L (by omega)) gL_isSo_X5_count rfl ⟨rfl, rfl⟩ (by decide +kernel) ⟨Nat.le_of_ble_eq_true rfl, Nat.le_of_ble_eq_true rfl⟩ rfl rfl (Nat.le_of_ble_eq_true rfl) rfl dL_isSo_129 (z_dtI ?_)
        refine z_iload E dL_isSo_132 rfl ?_
        refine z_icne_e E (((cq_1 hC.R hN).trans (by rw [hm, show i = 4 by omega]))) dL_isSo_134 233 rfl ?_
        refine z_aload_n E dL_isSo_137 0 rfl rfl ?_
        refine z_iconst E dL_isSo_138 ?_
        refine z_callV E (ci := 5) (N := 4) (C := RX5) (T := TX5) (n := 1) (st := []) (rfl : vl G 10 0 = true) rfl rfl [.int (iI 3)] (kX5_count l G P V 3 hC.w0 hB hC.n0 hC.n1 hC.L (by omega)) gL_isSo_X5_count rfl ⟨rfl, rfl⟩ (by decide +kernel) ⟨Nat.le_of_ble_eq_true rfl, Nat.le_of_ble_eq_true rfl⟩ rfl rfl (Nat.le_of_ble_eq_true rfl) rfl dL_isSo_139 (z_dtI ?_)
        refine z_bipush E dL_isSo_142 rfl ?_
        refine z_aload_n E dL_isSo_144 1 rfl rfl ?_
        refine z_iconst E dL_isSo_145 ?_
        refine z_iald E (rfl : vl G 16 0 = true) 6 rfl (by omega) (by omega) (by omega) dL_isSo_146 ?_
        refine z_imul E dL_isSo_147 ?_
        refine z_icne_e E (((cq_3 hC.R).trans (by rw [g0]; omega))) dL_isSo_148 233 rfl ?_
        refine z_aload_n E dL_isSo_151 0 rfl rfl ?_
        refine z_iconst E dL_isSo_152 ?_
        refine z_callV E (ci := 5) (N := 4) (C := RX5) (T := TX5) (n := 1) (st := []) (rfl : vl G 10 0 = true) rfl rfl [.int (iI 5)] (kX5_count l G P V 5 hC.w0 hB hC.n0 hC.n1 hC.L (by omega)) gL_isSo_X5_count rfl ⟨rfl, rfl⟩ (by decide +kernel) ⟨Nat.le_of_ble_eq_true rfl, Nat.le_of_ble_eq_true rfl⟩ rfl rfl (Nat.le_of_ble_eq_true rfl) rfl dL_isSo_153 (z_dtI ?_)
        refine z_aload_n E dL_isSo_156 1 rfl rfl ?_
        refine z_iconst E dL_isSo_157 ?_
        refine z_iald E (rfl : vl G 16 0 = true) 6 rfl (by omega) (by omega) (by omega) dL_isSo_158 ?_
        refine z_icne_e E (((cq_5 hC.R).trans (hN.g 1 (by omega) (by omega)).symm)) dL_isSo_159 233 rfl ?_
        refine z_aload_n E dL_isSo_162 0 rfl rfl ?_
        refine z_bipush E dL_isSo_163 rfl ?_
        refine z_callV E (ci := 5) (N := 4) (C := RX5) (T := TX5) (n := 1) (st := []) (rfl : vl G 10 0 = true) rfl rfl [.int (iI 6)] (kX5_count l G P V 6 hC.w0 hB hC.n0 hC.n1 hC.L (by omega)) gL_isSo_X5_count rfl ⟨rfl, rfl⟩ (by decide +kernel) ⟨Nat.le_of_ble_eq_true rfl, Nat.le_of_ble_eq_true rfl⟩ rfl rfl (Nat.le_of_ble_eq_true rfl) rfl dL_isSo_165 (z_dtI ?_)
        refine z_aload_n E dL_isSo_168 1 rfl rfl ?_
        refine z_iconst E dL_isSo_169 ?_
        refine z_iald E (rfl : vl G 16 0 = true) 6 rfl (by omega) (by omega) (by omega) dL_isSo_170 ?_
        refine z_icne_e E (((cq_6 hC.R).trans (hN.g 2 (by omega) (by omega)).symm)) dL_isSo_171 233 rfl ?_
        refine z_aload_n E dL_isSo_174 0 rfl rfl ?_
        refine z_bipush E dL_isSo_175 rfl ?_
        refine z_callV E (ci := 5) (N := 4) (C := RX5) (T := TX5) (n := 1) (st := []) (rfl : vl G 10 0 = true) rfl rfl [.int (iI 7)] (kX5_count l G P V 7 hC.w0 hB hC.n0 hC.n1 hC.L (by omega)) gL_isSo_X5_count rfl ⟨rfl, rfl⟩ (by decide +kernel) ⟨Nat.le_of_ble_eq_true rfl, Nat.le_of_ble_eq_true rfl⟩ rfl rfl (Nat.le_of_ble_eq_true rfl) rfl dL_isSo_177 (z_dtI ?_)
        refine z_aload_n E dL_isSo_180 1 rfl rfl ?_
        refine z_iconst E dL_isSo_181 ?_
        refine z_iald E (rfl : vl G 16 0 = true) 6 rfl (by omega) (by omega) (by omega) dL_isSo_182 ?_
        refine z_icne_e E (((cq_7 hC.R).trans (hN.g 3 (by omega) (by omega)).symm)) dL_isSo_183 233 rfl ?_
        refine z_aload_n E dL_isSo_186 0 rfl rfl ?_
        refine z_bipush E dL_isSo_187 rfl ?_
        refine z_callV E (ci := 5) (N := 4) (C := RX5) (T := TX5) (n := 1) (st := []) (rfl : vl G 10 0 = true) rfl rfl [.int (iI 8)] (kX5_count l G P V 8 hC.w0 hB hC.n0 hC.n1 hC.L (by omega)) gL_isSo_X5_count rfl ⟨rfl, rfl⟩ (by decide +kernel) ⟨Nat.le_of_ble_eq_true rfl, Nat.le_of_ble_eq_true rfl⟩ rfl rfl (Nat.le_of_ble_eq_true rfl) rfl dL_isSo_189 (z_dtI ?_)
        refine z_aload_n E dL_isSo_192 1 rfl rfl ?_
        refine z_iconst E dL_isSo_193 ?_
        refine z_iald E (rfl : vl G 16 0 = true) 6 rfl (by omega) (by omega) (by omega) dL_isSo_194 ?_
        refine z_icne_e E (((cq_8 hC.R).trans (hN.g 4 (by omega) (by omega)).symm)) dL_isSo_195 233 rfl ?_
        refine z_aload_n E dL_isSo_198 0 rfl rfl ?_
        refine z_bipush E dL_isSo_199 rfl ?_
        refine z_callV E (ci := 5) (N := 4) (C := RX5) (T := TX5) (n := 1) (st := []) (rfl : vl G 10 0 = true) rfl rfl [.int (iI 10)] (kX5_count l G P V 10 hC.w0 hB hC.n0 hC.n1 hC.L (by omega)) gL_isSo_X5_count rfl ⟨rfl, rfl⟩ (by decide +kernel) ⟨Nat.le_of_ble_eq_true rfl, Nat.le_of_ble_eq_true rfl⟩ rfl rfl (Nat.le_of_ble_eq_true rfl) rfl dL_isSo_201 (z_dtI ?_)
        refine z_if_ne E 233 dL_isSo_204 rfl (cq_10R (V := V) (w := P 0) hC.o0) (fun c_23 => ?_) (fun c_23 => ?_)
        · skip
          exact absurd (cq_10 (V := V) (w := P 0) hC.o0) c_23
        · skip
          refine z_aload_n E dL_isSo_207 0 rfl rfl ?_
          refine z_bipush E dL_isSo_208 rfl ?_
          refine z_callV E (ci := 5) (N := 4) (C := RX5) (T := TX5) (n := 1) (st := []) (rfl : vl G 10 0 = true) rfl rfl [.int (iI 20)] (kX5_count l G P V 20 hC.w0 hB hC.n0 hC.n1 hC.L (by omega)) gL_isSo_X5_count rfl ⟨rfl, rfl⟩ (by decide +kernel) ⟨Nat.le_of_ble_eq_true rfl, Nat.le_of_ble_eq_true rfl⟩ rfl rfl (Nat.le_of_ble_eq_true rfl) rfl dL_isSo_210 (z_dtI ?_)
          refine z_aload_n E dL_isSo_213 1 rfl rfl ?_
          refine z_iconst E dL_isSo_214 ?_
          refine z_iald E (rfl : vl G 16 0 = true) 6 rfl (by omega) (by omega) (by omega) dL_isSo_215 ?_
          refine z_icne_e E (((cq_20 hC.R).trans (hN.g 5 (by omega) (by omega)).symm)) dL_isSo_216 233 rfl ?_
          refine z_aload_n E dL_isSo_219 0 rfl rfl ?_
          refine z_iconst E dL_isSo_220 ?_
          refine z_callV E (ci := 5) (N := 4) (C := RX5) (T := TX5) (n := 1) (st := []) (rfl : vl G 10 0 = true) rfl rfl [.int (iI 4)] (kX5_head l G P V 4 hC.w0 hB (by omega)) gL_isSo_X5_head rfl ⟨rfl, rfl⟩ (by decide +kernel) ⟨Nat.le_of_ble_eq_true rfl, Nat.le_of_ble_eq_true rfl⟩ rfl rfl (Nat.le_of_ble_eq_true rfl) rfl dL_isSo_221 (z_dtI ?_)
          refine z_ldc E (-1000001) f0 rfl dL_isSo_224 ?_
          refine z_icne_e E ((hd_4 (V := V) (w := P 0))) dL_isSo_226 233 rfl ?_
          refine z_iconst E dL_isSo_229 ?_
          refine z_goto E 234 dL_isSo_230 rfl ?_
          exact z_zret E Er0 dL_isSo_234 (by first | decide | omega) (⟨rfl, rfl, rfl⟩)
      · skip
        refine z_iload E dL_isSo_51 rfl ?_
        refine z_if_eq E 111 dL_isSo_53 rfl (by omega) (fun c => absurd c (by decide)) (fun _ => ?_)
        refine z_iload E dL_isSo_56 rfl ?_
        refine z_aload_n E dL_isSo_58 2 rfl rfl ?_
        refine z_iload E dL_isSo_59 rfl ?_
        refine z_iald E (rfl : vl G 17 0 = true) 4 rfl (by omega) (by omega) (by omega) dL_isSo_61 ?_
        have hr_29 := hB.g 17 0 i rfl
        refine z_if_ge E 69 dL_isSo_62 rfl (by omega) (fun c_30 => ?_) (fun c_30 => ?_)
        · skip
          refine z_iconst E dL_isSo_69 ?_
          refine z_iadd E dL_isSo_70 ?_
          refine z_istore E dL_isSo_71 (L' := [some (.ref (ad G 10 0)), some (.ref (ad G 16 0)), some (.ref (ad G 17 0)), some (.ref (ad G 18 0)), some (.ref (ad G 19 0)), some (.ref (ad G 20 0)), some (.ref (ad G 21 0)), some (.ref (ad G 22 0)), some (.int (iI (m + 1))), some (.int (iI 1)), some (.int (iI i))]) (Nat.le_of_ble_eq_true rfl) rfl ?_
          refine z_aload_n E dL_isSo_73 0 rfl rfl ?_
          refine z_iload E dL_isSo_74 rfl ?_
          refine z_callV E (ci := 5) (N := 4) (C := RX5) (T := TX5) (n := 1) (st := []) (rfl : vl G 10 0 = true) rfl rfl [.int (iI i)] (kX5_head l G P V i hC.w0 hB (by omega)) gL_isSo_X5_head rfl ⟨rfl, rfl⟩ (by decide +kernel) ⟨Nat.le_of_ble_eq_true rfl, Nat.le_of_ble_eq_true rfl⟩ rfl rfl (Nat.le_of_ble_eq_true rfl) rfl dL_isSo_76 (z_dtI ?_)
          refine z_aload_n E dL_isSo_79 2 rfl rfl ?_
          refine z_iload E dL_isSo_80 rfl ?_
          refine z_iald E (rfl : vl G 17 0 = true) 4 rfl (by omega) (by omega) (by omega) dL_isSo_82 ?_
          refine z_if_ge E 91 dL_isSo_83 rfl (by omega) (fun c_32 => ?_) (fun c_32 => ?_)
          · skip
            refine z_aload_n E dL_isSo_91 2 rfl rfl ?_
            refine z_iload E dL_isSo_92 rfl ?_
            refine z_iald E (rfl : vl G 17 0 = true) 4 rfl (by omega) (by omega) (by omega) dL_isSo_94 ?_
            refine z_icne_e E ((by first | (exfalso; omega) | exact (hd_at hC.R hN hi0 (by omega)).1 (by omega) | exact (hd_at hC.R hN hi0 (by omega)).2 (by omega))) dL_isSo_95 102 rfl ?_
            refine z_iconst E dL_isSo_98 ?_
            refine z_goto E 103 dL_isSo_99 rfl ?_
            refine z_istore E dL_isSo_103 (L' := [some (.ref (ad G 10 0)), some (.ref (ad G 16 0)), some (.ref (ad G 17 0)), some (.ref (ad G 18 0)), some (.ref (ad G 19 0)), some (.ref (ad G 20 0)), some (.ref (ad G 21 0)), some (.ref (ad G 22 0)), some (.int (iI (m + 1))), some (.int (iI 1)), some (.int (iI i))]) (Nat.le_of_ble_eq_true rfl) rfl ?_
            refine z_iinc E i dL_isSo_105 (L' := [some (.ref (ad G 10 0)), some (.ref (ad G 16 0)), some (.ref (ad G 17 0)), some (.ref (ad G 18 0)), some (.ref (ad G 19 0)), some (.ref (ad G 20 0)), some (.ref (ad G 21 0)), some (.ref (ad G 22 0)), some (.int (iI (m + 1))), some (.int (iI 1)), some (.int (iI (i + 1)))]) (Nat.le_of_ble_eq_true rfl) rfl rfl ?_
            refine z_goto E 45 dL_isSo_108 rfl ?_
            exact ih_45 (m + 1) (i + 1) (by omega) (by omega) (by first | (exfalso; omega) | exact smb_t hm hi0 (by omega) | exact smb_f hm hi0 (by omega)) (by omega)
          · skip
            refine z_ldc E (-1000001) f0 rfl dL_isSo_86 ?_
            refine z_goto E 95 dL_isSo_88 rfl ?_
            refine z_icne_e E ((by first | (exfalso; omega) | exact (hd_at hC.R hN hi0 (by omega)).1 (by omega) | exact (hd_at hC.R hN hi0 (by omega)).2 (by omega))) dL_isSo_95 102 rfl ?_
            refine z_iconst E dL_isSo_98 ?_
            refine z_goto E 103 dL_isSo_99 rfl ?_
            refine z_istore E dL_isSo_103 (L' := [some (.ref (ad G 10 0)), some (.ref (ad G 16 0)), some (.ref (ad G 17 0)), some (.ref (ad G 18 0)), some (.ref (ad G 19 0)), some (.ref (ad G 20 0)), some (.ref (ad G 21 0)), some (.ref (ad G 22 0)), some (.int (iI (m + 1))), some (.int (iI 1)), some (.int (iI i))]) (Nat.le_of_ble_eq_true rfl) rfl ?_
            refine z_iinc E i dL_isSo_105 (L' := [some (.ref (ad G 10 0)), some (.ref (ad G 16 0)), some (.ref (ad G 17 0)), some (.ref (ad G 18 0)), some (.ref (ad G 19 0)), some (.ref (ad G 20 0)), some (.ref (ad G 21 0)), some (.ref (ad G 22 0)), some (.int (iI (m + 1))), some (.int (iI 1)), some (.int (iI (i + 1)))]) (Nat.le_of_ble_eq_true rfl) rfl rfl ?_
            refine z_goto E 45 dL_isSo_108 rfl ?_
            exact ih_45 (m + 1) (i + 1) (by omega) (by omega) (by first | (exfalso; omega) | exact smb_t hm hi0 (by omega) | exact smb_f hm hi0 (by omega)) (by omega)
        · skip
          refine z_iconst E dL_isSo_65 ?_
          refine z_goto E 70 dL_isSo_66 rfl ?_
          refine z_iadd E dL_isSo_70 ?_
          refine z_istore E dL_isSo_71 (L' := [some (.ref (ad G 10 0)), some (.ref (ad G 16 0)), some (.ref (ad G 17 0)), some (.ref (ad G 18 0)), some (.ref (ad G 19 0)), some (.ref (ad G 20 0)), some (.ref (ad G 21 0)), some (.ref (ad G 22 0)), some (.int (iI (m + 0))), some (.int (iI 1)), some (.int (iI i))]) (Nat.le_of_ble_eq_true rfl) rfl ?_
          refine z_aload_n E dL_isSo_73 0 rfl rfl ?_
          refine z_iload E dL_isSo_74 rfl ?_
          refine z_callV E (ci := 5) (N := 4) (C := RX5) (T := TX5) (n := 1) (st := []) (rfl : vl G 10 0 = true) rfl rfl [.int (iI i)] (kX5_head l G P V i hC.w0 hB (by omega)) gL_isSo_X5_head rfl ⟨rfl, rfl⟩ (by decide +kernel) ⟨Nat.le_of_ble_eq_true rfl, Nat.le_of_ble_eq_true rfl⟩ rfl rfl (Nat.le_of_ble_eq_true rfl) rfl dL_isSo_76 (z_dtI ?_)
          refine z_aload_n E dL_isSo_79 2 rfl rfl ?_
          refine z_iload E dL_isSo_80 rfl ?_
          refine z_iald E (rfl : vl G 17 0 = true) 4 rfl (by omega) (by omega) (by omega) dL_isSo_82 ?_
          refine z_if_ge E 91 dL_isSo_83 rfl (by omega) (fun c_36 => ?_) (fun c_36 => ?_)
          · skip
            refine z_aload_n E dL_isSo_91 2 rfl rfl ?_
            refine z_iload E dL_isSo_92 rfl ?_
            refine z_iald E (rfl : vl G 17 0 = true) 4 rfl (by omega) (by omega) (by omega) dL_isSo_94 ?_
            refine z_icne_e E ((by first | (exfalso; omega) | exact (hd_at hC.R hN hi0 (by omega)).1 (by omega) | exact (hd_at hC.R hN hi0 (by omega)).2 (by omega))) dL_isSo_95 102 rfl ?_
            refine z_iconst E dL_isSo_98 ?_
            refine z_goto E 103 dL_isSo_99 rfl ?_
            refine z_istore E dL_isSo_103 (L' := [some (.ref (ad G 10 0)), some (.ref (ad G 16 0)), some (.ref (ad G 17 0)), some (.ref (ad G 18 0)), some (.ref (ad G 19 0)), some (.ref (ad G 20 0)), some (.ref (ad G 21 0)), some (.ref (ad G 22 0)), some (.int (iI (m + 0))), some (.int (iI 1)), some (.int (iI i))]) (Nat.le_of_ble_eq_true rfl) rfl ?_
            refine z_iinc E i dL_isSo_105 (L' := [some (.ref (ad G 10 0)), some (.ref (ad G 16 0)), some (.ref (ad G 17 0)), some (.ref (ad G 18 0)), some (.ref (ad G 19 0)), some (.ref (ad G 20 0)), some (.ref (ad G 21 0)), some (.ref (ad G 22 0)), some (.int (iI (m + 0))), some (.int (iI 1)), some (.int (iI (i + 1)))]) (Nat.le_of_ble_eq_true rfl) rfl rfl ?_
            refine z_goto E 45 dL_isSo_108 rfl ?_
            exact ih_45 (m + 0) (i + 1) (by omega) (by omega) (by first | (exfalso; omega) | exact smb_t hm hi0 (by omega) | exact smb_f hm hi0 (by omega)) (by omega)
          · skip
            refine z_ldc E (-1000001) f0 rfl dL_isSo_86 ?_
            refine z_goto E 95 dL_isSo_88 rfl ?_
            refine z_icne_e E ((by first | (exfalso; omega) | exact (hd_at hC.R hN hi0 (by omega)).1 (by omega) | exact (hd_at hC.R hN hi0 (by omega)).2 (by omega))) dL_isSo_95 102 rfl ?_
            refine z_iconst E dL_isSo_98 ?_
            refine z_goto E 103 dL_isSo_99 rfl ?_
            refine z_istore E dL_isSo_103 (L' := [some (.ref (ad G 10 0)), some (.ref (ad G 16 0)), some (.ref (ad G 17 0)), some (.ref (ad G 18 0)), some (.ref (ad G 19 0)), some (.ref (ad G 20 0)), some (.ref (ad G 21 0)), some (.ref (ad G 22 0)), some (.int (iI (m + 0))), some (.int (iI 1)), some (.int (iI i))]) (Nat.le_of_ble_eq_true rfl) rfl ?_
            refine z_iinc E i dL_isSo_105 (L' := [some (.ref (ad G 10 0)), some (.ref (ad G 16 0)), some (.ref (ad G 17 0)), some (.ref (ad G 18 0)), some (.ref (ad G 19 0)), some (.ref (ad G 20 0)), some (.ref (ad G 21 0)), some (.ref (ad G 22 0)), some (.int (iI (m + 0))), some (.int (iI 1)), some (.int (iI (i + 1)))]) (Nat.le_of_ble_eq_true rfl) rfl rfl ?_
            refine z_goto E 45 dL_isSo_108 rfl ?_
            exact ih_45 (m + 0) (i + 1) (by omega) (by omega) (by first | (exfalso; omega) | exact smb_t hm hi0 (by omega) | exact smb_f hm hi0 (by omega)) (by omega)
  exact lp_45_5 ((4 - 0 : Int).toNat + 1) 0 0 (by omega) (by omega) (sm_0 (by omega)).symm (Nat.lt_succ_self _)
