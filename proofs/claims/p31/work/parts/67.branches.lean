set_option maxHeartbeats 4000000 in
set_option maxRecDepth 100000 in
theorem kL_branches (l : Launch) (G : Gl) (P : Nat → Nat) (V : Vt) (way : Int) (y : Int) (s : Int → Int) (hC : LC P V s) (hN : LN V s) (hH : HBr s) (sl : s 1 < 1000000) (w0 : 0 ≤ way ∧ way ≤ 2) (y0 : 0 ≤ y ∧ y < 10000000) : Met l yL_branches wsL_branches ({ frames := 5, cells := 0, slots := 0, locals := 157 }) (va_Pc [.ref (ad G 10 0), .ref (ad G 16 0), .ref (ad G 17 0), .ref (ad G 18 0), .ref (ad G 19 0), .int (iI way), .int (iI y)] (Sg G P V)) (Qk G mkI (fun r P' V' => r = 1 ∧ ∃ s' : Int → Int, LC P' V' s' ∧ LN V' s' ∧ HBr s' ∧ s' 1 ≤ s 1 + 1)) 0 0 (mem G) := by
  refine z_met (cc := cL_branches) (nL := 11) (ret := (some .boolean)) (own := RL) (by decide +kernel) rfl rfl (Nat.le_of_ble_eq_true rfl) (L := [some (.ref (ad G 10 0)), some (.ref (ad G 16 0)), some (.ref (ad G 17 0)), some (.ref (ad G 18 0)), some (.ref (ad G 19 0)), some (.int (iI way)), some (.int (iI y)), none, none, none, none]) rfl ?_
  intro X E Er0
  have f0 : Cond.constant RL 91 (-1000002) ∈ wsL_branches := by decide +kernel
  have f1 : Cond.constant RL 84 (-1000001) ∈ wsL_branches := by decide +kernel
  have f2 : Cond.constant RL 61 (-1000003) ∈ wsL_branches := by decide +kernel
  have hB := hC.B
  have hM := hC.M
  have hz := hM.z
  have g0 := hN.g0
  have ms1 := hM.s1
  refine z_aload_n E dL_branches_0 3 rfl rfl ?_
  refine z_iload E dL_branches_1 rfl ?_
  refine z_iconst E dL_branches_3 ?_
  refine z_idiv E dL_branches_4 (by omega) (by omega) (by decide) (by decide) ?_
  refine z_aload_n E dL_branches_5 1 rfl rfl ?_
  refine z_iconst E dL_branches_6 ?_
  refine z_iald E (rfl : vl G 16 0 = true) 6 rfl (by omega) (by omega) (by omega) dL_branches_7 ?_
  refine z_irem E dL_branches_8 (by omega) (by omega) (by omega) (by omega) ?_
  have hxi := emod_in (x := y / 4) (n := V 16 0 0) (by omega)
  refine z_iald E (rfl : vl G 18 0 = true) 16 rfl (by omega) (by omega) (by omega) dL_branches_9 ?_
  have hr_1 := hB.g 18 0 ((y / 4) % (V 16 0 0)) rfl
  obtain ⟨x, hx_x⟩ : ∃ z : Int, z = V 18 0 ((y / 4) % (V 16 0 0)) := ⟨_, rfl⟩
  rw [← hx_x]
  have hxs := hN.st hM hxi.1 hxi.2
  rw [← hx_x] at hxs
  refine z_istore E dL_branches_10 (L' := [some (.ref (ad G 10 0)), some (.ref (ad G 16 0)), some (.ref (ad G 17 0)), some (.ref (ad G 18 0)), some (.ref (ad G 19 0)), some (.int (iI way)), some (.int (iI y)), some (.int (iI x)), none, none, none]) (Nat.le_of_ble_eq_true rfl) rfl ?_
  refine z_iconst E dL_branches_12 ?_
  refine z_istore E dL_branches_13 (L' := [some (.ref (ad G 10 0)), some (.ref (ad G 16 0)), some (.ref (ad G 17 0)), some (.ref (ad G 18 0)), some (.ref (ad G 19 0)), some (.int (iI way)), some (.int (iI y)), some (.int (iI x)), some (.int (iI 0)), none, none]) (Nat.le_of_ble_eq_true rfl) rfl ?_
  refine z_iconst E dL_branches_15 ?_
  refine z_istore E dL_branches_16 (L' := [some (.ref (ad G 10 0)), some (.ref (ad G 16 0)), some (.ref (ad G 17 0)), some (.ref (ad G 18 0)), some (.ref (ad G 19 0)), some (.int (iI way)), some (.int (iI y)), some (.int (iI x)), some (.int (iI 0)), some (.int (iI (-1))), none]) (Nat.le_of_ble_eq_true rfl) rfl ?_
  refine z_iconst E dL_branches_18 ?_
  refine z_istore E dL_branches_19 (L' := [some (.ref (ad G 10 0)), some (.ref (ad G 16 0)), some (.ref (ad G 17 0)), some (.ref (ad G 18 0)), some (.ref (ad G 19 0)), some (.int (iI way)), some (.int (iI y)), some (.int (iI x)), some (.int (iI 0)), some (.int (iI (-1))), some (.int (iI 3))]) (Nat.le_of_ble_eq_true rfl) rfl ?_
  have lp_21_2 : ∀ (fuel : Nat) (m : Int) (fr : Int) (i : Int), (-1 ≤ i) → (i ≤ 3) → (m + sm (i + 1) (fun d => b2i (0 ≤ V 17 0 d)) = sm 4 (fun d => b2i (0 ≤ V 17 0 d))) → (0 ≤ m ∧ m ≤ 3 - i) → (LpF (V 17 0) i fr) → (i + 1 : Int).toNat < fuel → Kz X G P V 0 0 [some (.ref (ad G 10 0)), some (.ref (ad G 16 0)), some (.ref (ad G 17 0)), some (.ref (ad G 18 0)), some (.ref (ad G 19 0)), some (.int (iI way)), some (.int (iI y)), some (.int (iI x)), some (.int (iI m)), some (.int (iI fr)), some (.int (iI i))] 21 [] := by
    intro fuel
    induction fuel with
    | zero => intro m fr i hi0 hi1 hm hm0 hfr hf_21; exact absurd hf_21 (Nat.not_lt_zero _)
    | succ fuel ih_21 =>
      intro m fr i hi0 hi1 hm hm0 hfr hf_21
      refine z_iload E dL_branches_21 rfl ?_
      refine z_if_lt E 65 dL_branches_23 rfl (by omega) (fun c_3 => ?_) (fun c_3 => ?_)
      · skip
        have hi2 : i = -1 := by omega
        rw [hi2] at hfr hm
        have hff := LpF_e hN hfr
        have hfb := LpF_R hfr (by omega)
        have hmm : m = sm 4 (fun d => b2i (0 ≤ mh s d)) := by rw [← hN.hds, ← hm, show (-1 : Int) + 1 = 0 by decide, sm_0 (by omega), Int.add_zero]
        refine z_iload E dL_branches_65 rfl ?_
        refine z_if_ne E 108 dL_branches_67 rfl (by omega) (fun c_4 => ?_) (fun c_4 => ?_)
        · skip
          refine z_iload E dL_branches_108 rfl ?_
          refine z_iconst E dL_branches_110 ?_
          refine z_irem E dL_branches_111 (by omega) (by omega) (by decide) (by decide) ?_
          refine z_istore E dL_branches_112 (L' := [some (.ref (ad G 10 0)), some (.ref (ad G 16 0)), some (.ref (ad G 17 0)), some (.ref (ad G 18 0)), some (.ref (ad G 19 0)), some (.int (iI way)), some (.int (iI y)), some (.int (iI x)), some (.int (iI m)), some (.int (iI fr)), some (.int (iI (y % 4)))]) (Nat.le_of_ble_eq_true rfl) rfl ?_
          have bq0 : 0 ≤ y % 4 := by omega
          have bq1 : y % 4 < 4 := by omega
          have eh := hN.h (y % 4) bq0 bq1
          refine z_aload_n E dL_branches_114 2 rfl rfl ?_
          refine z_iload E dL_branches_115 rfl ?_
          refine z_iald E (rfl : vl G 17 0 = true) 4 rfl (by omega) (by omega) (by omega) dL_branches_117 ?_
          have hr_5 := hB.g 17 0 (y % 4) rfl
          refine z_if_ge E 172 dL_branches_118 rfl (by omega) (fun c_6 => ?_) (fun c_6 => ?_)
          · skip
            have hib : ISb s (y % 4) := ⟨bq0, by omega, by omega⟩
            have hsl := hib.sl hM
            refine z_iload E dL_branches_172 rfl ?_
            refine z_iconst E dL_branches_174 ?_
            refine z_icmp_ne E 226 dL_branches_175 rfl (by omega) (by omega) (fun c_7 => ?_) (fun c_7 => ?_)
            · skip
              refine z_aload_n E dL_branches_226 2 rfl rfl ?_
              refine z_iload E dL_branches_227 rfl ?_
              refine z_iald E (rfl : vl G 17 0 = true) 4 rfl (by omega) (by omega) (by omega) dL_branches_229 ?_
              refine z_if_ne E 250 dL_branches_230 rfl (by omega) (fun c_8 => ?_) (fun c_8 => ?_)
              · skip
                refine z_aload_n E dL_branches_250 2 rfl rfl ?_
                refine z_iload E dL_branches_251 rfl ?_
                refine z_aload E dL_branches_253 rfl ?_
                refine z_aload_n E dL_branches_255 1 rfl rfl ?_
                refine z_aload_n E dL_branches_256 3 rfl rfl ?_
                refine z_aload_n E dL_branches_257 2 rfl rfl ?_
                refine z_iload E dL_branches_258 rfl ?_
                refine z_iald E (rfl : vl G 17 0 = true) 4 rfl (by omega) (by omega) (by omega) dL_branches_260 ?_
                refine z_callS E (n := 3) (st := [.ref (ad G 19 0), .int (iI (y % 4)), .ref (ad G 17 0)]) [.ref (ad G 16 0), .ref (ad G 18 0), .int (iI (V 17 0 (y % 4)))] (kL_find l G P V (V 17 0 (y % 4)) hB (by omega) (by omega)) gL_branches_L_find rfl ⟨rfl, rfl⟩ (by decide +kernel) ⟨Nat.le_of_ble_eq_true rfl, Nat.le_of_ble_eq_true rfl⟩ rfl rfl (Nat.le_of_ble_eq_true rfl) rfl dL_branches_261 (z_dtI ?_)
                rw [hN.find, eh]
                have ep : V 19 0 (mS s (mh s (y % 4))) = mo s (mS s (mh s (y % 4))) 1 := (hN.n _ hsl.1 hsl.2.1).2
                refine z_iald E (rfl : vl G 19 0 = true) 16 rfl (by omega) (by omega) (by omega) dL_branches_264 ?_
                have hr_10 := hB.g 19 0 (mS s (mh s (y % 4))) rfl
                refine z_iast E (rfl : vl G 17 0 = true) 4 (fun _ => rfl) (by omega) (by omega) (by omega) dL_branches_265 ?_
                obtain ⟨V11, hV11⟩ : ∃ Z : Vt, Z = up V 17 0 (updI (V 17 0) (y % 4) (V 19 0 (mS s (mh s (y % 4))))) := ⟨_, rfl⟩
                rw [← hV11]
                have hB11 : BV V11 := hV11 ▸ BV_up hB (by intro _; omega)
                have hC1 : LC P V11 s := hC.law hB11 (fun r w hr => by rw [hV11, up_r (by omega)])
                have hN1 := LN_h (V' := V11) hN bq0 bq1 (by rw [hV11, up_s]) (fun r a b c => by rw [hV11, up_r (by omega)])
                rw [ep] at hN1
                have er : V11 17 0 (y % 4) = mo s (mS s (mh s (y % 4))) 1 := by rw [hV11, up_s, updI_s, ep]
                refine z_aload_n E dL_branches_266 0 rfl rfl ?_
                refine z_iload E dL_branches_267 rfl ?_
                refine z_callV E (ci := 5) (N := 4) (C := RX5) (T := TX5) (n := 1) (st := []) (rfl : vl G 10 0 = true) rfl rfl [.int (iI (y % 4))] (kX5_back l G P V11 (y % 4) hC1.w0 hB11 hC1.n0 hC1.n1 hC1.L hC1.U hC1.h5 hC1.cm hC1.w1 hC1.uw hC1.o hC1.z (by omega)) gL_branches_X5_back rfl ⟨rfl, rfl⟩ (by decide +kernel) ⟨Nat.le_of_ble_eq_true rfl, Nat.le_of_ble_eq_true rfl⟩ rfl rfl (Nat.le_of_ble_eq_true rfl) rfl dL_branches_269 (z_exI (fun r_12 P_12 V_12 h_12 => ?_))
                obtain ⟨sa, qa, hCa, hfa⟩ := o_back hC1 sl h_12
                have hB_12 := hCa.B
                have hda := t_ba hM hib qa
                have er2 := hfa 17 0 (by omega)
                have hra : mh s (y % 4) = 0 ∨ (¬ mh s (y % 4) = 0 ∧ r_12 = mo s (mS s (mh s (y % 4))) 1) := hda.imp (fun z => z.1) (fun z => ⟨z.1, z.2.1⟩)
                refine z_aload_n E dL_branches_272 2 rfl rfl ?_
                refine z_iload E dL_branches_273 rfl ?_
                refine z_iald E (rfl : vl G 17 0 = true) 4 rfl (by omega) (by omega) (by omega) dL_branches_275 ?_
                have hr_13 := hB_12.g 17 0 (y % 4) rfl
                refine z_icne_e E (by rw [er2, er]; omega) dL_branches_276 283 rfl ?_
                refine z_iconst E dL_branches_279 ?_
                refine z_goto E 284 dL_branches_280 rfl ?_
                exact z_zret E Er0 dL_branches_284 (by first | decide | omega) (by rcases hda with ⟨z1, z2, z3⟩ | ⟨z1, z2, z3, z4⟩; (exfalso; omega); (rw [z2] at z4 z3; subst z4; exact ⟨rfl, _, hCa, hN1.cg (fun r a b => hfa r 0 (by omega)), HBr_h bq0 bq1 z3, by rw [upd_1 (by omega)]; omega⟩))
              · skip
                refine z_aload_n E dL_branches_233 0 rfl rfl ?_
                refine z_iload E dL_branches_234 rfl ?_
                refine z_callV E (ci := 5) (N := 4) (C := RX5) (T := TX5) (n := 1) (st := []) (rfl : vl G 10 0 = true) rfl rfl [.int (iI (y % 4))] (kX5_back l G P V (y % 4) hC.w0 hB hC.n0 hC.n1 hC.L hC.U hC.h5 hC.cm hC.w1 hC.uw hC.o hC.z (by omega)) gL_branches_X5_back rfl ⟨rfl, rfl⟩ (by decide +kernel) ⟨Nat.le_of_ble_eq_true rfl, Nat.le_of_ble_eq_true rfl⟩ rfl rfl (Nat.le_of_ble_eq_true rfl) rfl dL_branches_236 (z_exI (fun r_15 P_15 V_15 h_15 => ?_))
                obtain ⟨sa, qa, hCa, hfa⟩ := o_back hC sl h_15
                have hB_15 := hCa.B
                have hda := t_ba hM hib qa
                have hra : (mh s (y % 4) = 0 ∧ r_15 = -1000002) ∨ ¬ mh s (y % 4) = 0 := hda.imp (fun z => ⟨z.1, z.2.1⟩) (fun z => z.1)
                refine z_ldc E (-1000002) f0 rfl dL_branches_239 ?_
                refine z_icne_e E (by omega) dL_branches_241 248 rfl ?_
                refine z_iconst E dL_branches_244 ?_
                refine z_goto E 249 dL_branches_245 rfl ?_
                exact z_zret E Er0 dL_branches_249 (by first | decide | omega) (by rcases hda with ⟨z1, z2, z3⟩ | ⟨z1, z2, z3, z4⟩; (subst z3; exact ⟨rfl, _, hCa, hN.cg (fun r a b => hfa r 0 (by omega)), hH, by omega⟩); (exfalso; omega))
            · skip
              refine z_aload_n E dL_branches_178 2 rfl rfl ?_
              refine z_iload E dL_branches_179 rfl ?_
              refine z_iload E dL_branches_181 rfl ?_
              refine z_iconst E dL_branches_183 ?_
              refine z_icmp_le E 191 dL_branches_184 rfl (by omega) (by omega) (fun c_17 => ?_) (fun c_17 => ?_)
              · skip
                refine z_aload_n E dL_branches_191 2 rfl rfl ?_
                refine z_iload E dL_branches_192 rfl ?_
                refine z_iald E (rfl : vl G 17 0 = true) 4 rfl (by omega) (by omega) (by omega) dL_branches_194 ?_
                refine z_iast E (rfl : vl G 17 0 = true) 4 (fun _ => rfl) (by omega) (by omega) (by omega) dL_branches_195 ?_
                obtain ⟨V18, hV18⟩ : ∃ Z : Vt, Z = up V 17 0 (updI (V 17 0) (y % 4) (V 17 0 (y % 4))) := ⟨_, rfl⟩
                rw [← hV18]
                have hB18 : BV V18 := hV18 ▸ BV_up hB (by intro _; omega)
                have hC1 : LC P V18 s := hC.law hB18 (fun r w hr => by rw [hV18, up_r (by omega)])
                have hN1 := LN_h (V' := V18) hN bq0 bq1 (by rw [hV18, up_s]) (fun r a b c => by rw [hV18, up_r (by omega)])
                refine z_aload_n E dL_branches_196 0 rfl rfl ?_
                refine z_iload E dL_branches_197 rfl ?_
                refine z_callV E (ci := 5) (N := 4) (C := RX5) (T := TX5) (n := 1) (st := []) (rfl : vl G 10 0 = true) rfl rfl [.int (iI (y % 4))] (kX5_leave l G P V18 (y % 4) hC1.w0 hB18 hC1.n0 hC1.n1 hC1.L hC1.U hC1.h5 hC1.cm hC1.w1 hC1.uw hC1.o hC1.z (by omega)) gL_branches_X5_leave rfl ⟨rfl, rfl⟩ (by decide +kernel) ⟨Nat.le_of_ble_eq_true rfl, Nat.le_of_ble_eq_true rfl⟩ rfl rfl (Nat.le_of_ble_eq_true rfl) rfl dL_branches_199 (z_exI (fun r_19 P_19 V_19 h_19 => ?_))
                obtain ⟨sa, qa, hCa, hfa⟩ := o_leave hC1 sl h_19
                have hB_19 := hCa.B
                have hda := t_le hib hmm qa
                have hra : (m ≤ 1 ∧ r_19 = -1000002) ∨ (1 < m ∧ r_19 = m - 1) := hda.imp (fun z => ⟨z.1, z.2.1⟩) (fun z => ⟨z.1, z.2.1⟩)
                refine z_iload E dL_branches_202 rfl ?_
                refine z_iconst E dL_branches_204 ?_
                refine z_icmp_le E 215 dL_branches_205 rfl (by omega) (by omega) (fun c_20 => ?_) (fun c_20 => ?_)
                · skip
                  refine z_ldc E (-1000002) f0 rfl dL_branches_215 ?_
                  refine z_icne_e E (by omega) dL_branches_217 224 rfl ?_
                  refine z_iconst E dL_branches_220 ?_
                  refine z_goto E 225 dL_branches_221 rfl ?_
                  exact z_zret E Er0 dL_branches_225 (by first | decide | omega) (by rcases hda with ⟨z1, z2, z3⟩ | ⟨z1, z2, z3, z4⟩; (first | (exfalso; omega) | (subst z3; rw [eh] at hN1; exact ⟨rfl, _, hCa, (LN_hid hN1).cg (fun r a b => hfa r 0 (by omega)), hH, by omega⟩)); (first | (exfalso; omega) | (subst z3; exact ⟨rfl, _, hCa, hN1.cg (fun r a b => hfa r 0 (by omega)), z4, by rw [upd_1 (by omega)]; omega⟩)))
                · skip
                  refine z_iload E dL_branches_208 rfl ?_
                  refine z_iconst E dL_branches_210 ?_
                  refine z_isub E dL_branches_211 ?_
                  refine z_goto E 217 dL_branches_212 rfl ?_
                  refine z_icne_e E (by omega) dL_branches_217 224 rfl ?_
                  refine z_iconst E dL_branches_220 ?_
                  refine z_goto E 225 dL_branches_221 rfl ?_
                  exact z_zret E Er0 dL_branches_225 (by first | decide | omega) (by rcases hda with ⟨z1, z2, z3⟩ | ⟨z1, z2, z3, z4⟩; (first | (exfalso; omega) | (subst z3; rw [eh] at hN1; exact ⟨rfl, _, hCa, (LN_hid hN1).cg (fun r a b => hfa r 0 (by omega)), hH, by omega⟩)); (first | (exfalso; omega) | (subst z3; exact ⟨rfl, _, hCa, hN1.cg (fun r a b => hfa r 0 (by omega)), z4, by rw [upd_1 (by omega)]; omega⟩)))
              · skip
                refine z_iconst E dL_branches_187 ?_
                refine z_goto E 195 dL_branches_188 rfl ?_
                refine z_iast E (rfl : vl G 17 0 = true) 4 (fun _ => rfl) (by omega) (by omega) (by omega) dL_branches_195 ?_
                obtain ⟨V23, hV23⟩ : ∃ Z : Vt, Z = up V 17 0 (updI (V 17 0) (y % 4) (-1)) := ⟨_, rfl⟩
                rw [← hV23]
                have hB23 : BV V23 := hV23 ▸ BV_up hB (by intro _; omega)
                have hC1 : LC P V23 s := hC.law hB23 (fun r w hr => by rw [hV23, up_r (by omega)])
                have hN1 := LN_h (V' := V23) hN bq0 bq1 (by rw [hV23, up_s]) (fun r a b c => by rw [hV23, up_r (by omega)])
                refine z_aload_n E dL_branches_196 0 rfl rfl ?_
                refine z_iload E dL_branches_197 rfl ?_
                refine z_callV E (ci := 5) (N := 4) (C := RX5) (T := TX5) (n := 1) (st := []) (rfl : vl G 10 0 = true) rfl rfl [.int (iI (y % 4))] (kX5_leave l G P V23 (y % 4) hC1.w0 hB23 hC1.n0 hC1.n1 hC1.L hC1.U hC1.h5 hC1.cm hC1.w1 hC1.uw hC1.o hC1.z (by omega)) gL_branches_X5_leave rfl ⟨rfl, rfl⟩ (by decide +kernel) ⟨Nat.le_of_ble_eq_true rfl, Nat.le_of_ble_eq_true rfl⟩ rfl rfl (Nat.le_of_ble_eq_true rfl) rfl dL_branches_199 (z_exI (fun r_24 P_24 V_24 h_24 => ?_))
                obtain ⟨sa, qa, hCa, hfa⟩ := o_leave hC1 sl h_24
                have hB_24 := hCa.B
                have hda := t_le hib hmm qa
                have hra : (m ≤ 1 ∧ r_24 = -1000002) ∨ (1 < m ∧ r_24 = m - 1) := hda.imp (fun z => ⟨z.1, z.2.1⟩) (fun z => ⟨z.1, z.2.1⟩)
                refine z_iload E dL_branches_202 rfl ?_
                refine z_iconst E dL_branches_204 ?_
                refine z_icmp_le E 215 dL_branches_205 rfl (by omega) (by omega) (fun c_25 => ?_) (fun c_25 => ?_)
                · skip
                  refine z_ldc E (-1000002) f0 rfl dL_branches_215 ?_
                  refine z_icne_e E (by omega) dL_branches_217 224 rfl ?_
                  refine z_iconst E dL_branches_220 ?_
                  refine z_goto E 225 dL_branches_221 rfl ?_
                  exact z_zret E Er0 dL_branches_225 (by first | decide | omega) (by rcases hda with ⟨z1, z2, z3⟩ | ⟨z1, z2, z3, z4⟩; (first | (exfalso; omega) | (subst z3; rw [eh] at hN1; exact ⟨rfl, _, hCa, (LN_hid hN1).cg (fun r a b => hfa r 0 (by omega)), hH, by omega⟩)); (first | (exfalso; omega) | (subst z3; exact ⟨rfl, _, hCa, hN1.cg (fun r a b => hfa r 0 (by omega)), z4, by rw [upd_1 (by omega)]; omega⟩)))
                · skip
                  refine z_iload E dL_branches_208 rfl ?_
                  refine z_iconst E dL_branches_210 ?_
                  refine z_isub E dL_branches_211 ?_
                  refine z_goto E 217 dL_branches_212 rfl ?_
                  refine z_icne_e E (by omega) dL_branches_217 224 rfl ?_
                  refine z_iconst E dL_branches_220 ?_
                  refine z_goto E 225 dL_branches_221 rfl ?_
                  exact z_zret E Er0 dL_branches_225 (by first | decide | omega) (by rcases hda with ⟨z1, z2, z3⟩ | ⟨z1, z2, z3, z4⟩; (first | (exfalso; omega) | (subst z3; rw [eh] at hN1; exact ⟨rfl, _, hCa, (LN_hid hN1).cg (fun r a b => hfa r 0 (by omega)), hH, by omega⟩)); (first | (exfalso; omega) | (subst z3; exact ⟨rfl, _, hCa, hN1.cg (fun r a b => hfa r 0 (by omega)), z4, by rw [upd_1 (by omega)]; omega⟩)))
          · skip
            have hnb : ¬ ISb s (y % 4) := fun z => by have := z.2.2; omega
            have hm1 : mh s (y % 4) = -1 := by have := hM.h (y % 4) bq0 bq1; omega
            refine z_aload_n E dL_branches_121 0 rfl rfl ?_
            refine z_iload E dL_branches_122 rfl ?_
            refine z_callV E (ci := 5) (N := 4) (C := RX5) (T := TX5) (n := 1) (st := []) (rfl : vl G 10 0 = true) rfl rfl [.int (iI (y % 4))] (kX5_leave l G P V (y % 4) hC.w0 hB hC.n0 hC.n1 hC.L hC.U hC.h5 hC.cm hC.w1 hC.uw hC.o hC.z (by omega)) gL_branches_X5_leave rfl ⟨rfl, rfl⟩ (by decide +kernel) ⟨Nat.le_of_ble_eq_true rfl, Nat.le_of_ble_eq_true rfl⟩ rfl rfl (Nat.le_of_ble_eq_true rfl) rfl dL_branches_124 (z_exI (fun r_28 P_28 V_28 h_28 => ?_))
            obtain ⟨sa, qa, hCa, hfa⟩ := o_leave hC sl h_28
            have hB_28 := hCa.B
            obtain ⟨ea, ea2⟩ := t_le0 hnb qa
            rw [ea2] at hCa
            refine z_ldc E (-1000001) f1 rfl dL_branches_127 ?_
            refine z_icne_e E (ea) dL_branches_129 170 rfl ?_
            refine z_aload_n E dL_branches_132 0 rfl rfl ?_
            refine z_iload E dL_branches_133 rfl ?_
            refine z_callV E (ci := 5) (N := 4) (C := RX5) (T := TX5) (n := 1) (st := []) (rfl : vl G 10 0 = true) rfl rfl [.int (iI (y % 4))] (kX5_back l G P_28 V_28 (y % 4) hCa.w0 hB_28 hCa.n0 hCa.n1 hCa.L hCa.U hCa.h5 hCa.cm hCa.w1 hCa.uw hCa.o hCa.z (by omega)) gL_branches_X5_back rfl ⟨rfl, rfl⟩ (by decide +kernel) ⟨Nat.le_of_ble_eq_true rfl, Nat.le_of_ble_eq_true rfl⟩ rfl rfl (Nat.le_of_ble_eq_true rfl) rfl dL_branches_135 (z_exI (fun r_30 P_30 V_30 h_30 => ?_))
            obtain ⟨sb, qb, hCb, hfb⟩ := o_back hCa sl h_30
            have hB_30 := hCb.B
            obtain ⟨eb, eb2⟩ := t_ba0 hnb qb
            rw [eb2] at hCb
            refine z_ldc E (-1000001) f1 rfl dL_branches_138 ?_
            refine z_icne_e E (eb) dL_branches_140 170 rfl ?_
            refine z_aload_n E dL_branches_143 0 rfl rfl ?_
            refine z_iload E dL_branches_144 rfl ?_
            refine z_callV E (ci := 5) (N := 4) (C := RX5) (T := TX5) (n := 1) (st := []) (rfl : vl G 10 0 = true) rfl rfl [.int (iI (y % 4))] (kX5_head l G P_30 V_30 (y % 4) hCb.w0 hB_30 (by omega)) gL_branches_X5_head rfl ⟨rfl, rfl⟩ (by decide +kernel) ⟨Nat.le_of_ble_eq_true rfl, Nat.le_of_ble_eq_true rfl⟩ rfl rfl (Nat.le_of_ble_eq_true rfl) rfl dL_branches_146 (z_dtI ?_)
            refine z_ldc E (-1000001) f1 rfl dL_branches_149 ?_
            refine z_icne_e E (by rw [if_neg (fun z => z.2.2 (by rw [hCb.R.hd _ bq0 bq1]; exact hm1))]) dL_branches_151 170 rfl ?_
            refine z_aload_n E dL_branches_154 0 rfl rfl ?_
            refine z_iload E dL_branches_155 rfl ?_
            refine z_iconst E dL_branches_157 ?_
            refine z_callV E (ci := 5) (N := 4) (C := RX5) (T := TX5) (n := 2) (st := []) (rfl : vl G 10 0 = true) rfl rfl [.int (iI (y % 4)), .int (iI 0)] (kX5_merge l G P_30 V_30 (y % 4) 0 hCb.w0 hB_30 hCb.n0 hCb.n1 hCb.L hCb.U hCb.h5 hCb.cm hCb.w1 hCb.uw hCb.o hCb.z (by omega) (by omega)) gL_branches_X5_merge rfl ⟨rfl, rfl⟩ (by decide +kernel) ⟨Nat.le_of_ble_eq_true rfl, Nat.le_of_ble_eq_true rfl⟩ rfl rfl (Nat.le_of_ble_eq_true rfl) rfl dL_branches_158 (z_exI (fun r_34 P_34 V_34 h_34 => ?_))
            obtain ⟨sc, qc, hCc, hfc⟩ := o_merge hCb sl h_34
            have hB_34 := hCc.B
            obtain ⟨ec, ec2⟩ := t_me0 hnb qc
            rw [ec2] at hCc
            refine z_ldc E (-1000001) f1 rfl dL_branches_161 ?_
            refine z_icne_e E (ec) dL_branches_163 170 rfl ?_
            refine z_iconst E dL_branches_166 ?_
            refine z_goto E 171 dL_branches_167 rfl ?_
            exact z_zret E Er0 dL_branches_171 (by first | decide | omega) (⟨rfl, s, hCc, ((hN.cg (fun r a b => hfa r 0 (by omega))).cg (fun r a b => hfb r 0 (by omega))).cg (fun r a b => hfc r 0 (by omega)), hH, by omega⟩)
        · skip
          refine z_iload E dL_branches_70 rfl ?_
          refine z_if_lt E 81 dL_branches_72 rfl (by omega) (fun c_36 => ?_) (fun c_36 => ?_)
          · skip
            refine z_aload_n E dL_branches_81 0 rfl rfl ?_
            refine z_iload E dL_branches_82 rfl ?_
            refine z_callV E (ci := 5) (N := 4) (C := RX5) (T := TX5) (n := 1) (st := []) (rfl : vl G 10 0 = true) rfl rfl [.int (iI x)] (kX5_branch l G P V x hC.w0 hB hC.n0 hC.n1 hC.L hC.U hC.h5 hC.cm hC.w1 hC.uw hC.o hC.z (by omega)) gL_branches_X5_branch rfl ⟨rfl, rfl⟩ (by decide +kernel) ⟨Nat.le_of_ble_eq_true rfl, Nat.le_of_ble_eq_true rfl⟩ rfl rfl (Nat.le_of_ble_eq_true rfl) rfl dL_branches_84 (z_exI (fun r_37 P_37 V_37 h_37 => ?_))
            obtain ⟨sa, qa, hCa, hfa⟩ := o_branch hC sl h_37
            have hB_37 := hCa.B
            have hda := t_br hxs.1 qa
            have hra : (FBm s = -1 ∧ r_37 = -1000003) ∨ (0 ≤ FBm s ∧ r_37 = FBm s) := hda.imp (fun z => ⟨z.1, z.2.1⟩) (fun z => ⟨z.1, z.2.1⟩)
            refine z_iload E dL_branches_87 rfl ?_
            refine z_if_ge E 97 dL_branches_89 rfl (by omega) (fun c_38 => ?_) (fun c_38 => ?_)
            · skip
              refine z_iload E dL_branches_97 rfl ?_
              refine z_icne_e E (by omega) dL_branches_99 106 rfl ?_
              refine z_iconst E dL_branches_102 ?_
              refine z_goto E 107 dL_branches_103 rfl ?_
              exact z_zret E Er0 dL_branches_107 (by first | decide | omega) (by rcases hda with ⟨z1, z2, z3⟩ | ⟨z1, z2, z3⟩; (first | (exfalso; omega) | (subst z3; exact ⟨rfl, _, hCa, hN.cg (fun r a b => hfa r 0 (by omega)), hH, by omega⟩)); (first | (exfalso; omega) | (rw [← hff] at z3; subst z3; exact ⟨rfl, _, hCa, hN1.cg (fun r a b => hfa r 0 (by omega)), HBr_h (by omega) (by omega) hxs.2.2.1, by rw [upd_1 (by omega)]; omega⟩)))
            · skip
              refine z_ldc E (-1000003) f2 rfl dL_branches_92 ?_
              refine z_goto E 99 dL_branches_94 rfl ?_
              refine z_icne_e E (by omega) dL_branches_99 106 rfl ?_
              refine z_iconst E dL_branches_102 ?_
              refine z_goto E 107 dL_branches_103 rfl ?_
              exact z_zret E Er0 dL_branches_107 (by first | decide | omega) (by rcases hda with ⟨z1, z2, z3⟩ | ⟨z1, z2, z3⟩; (first | (exfalso; omega) | (subst z3; exact ⟨rfl, _, hCa, hN.cg (fun r a b => hfa r 0 (by omega)), hH, by omega⟩)); (first | (exfalso; omega) | (rw [← hff] at z3; subst z3; exact ⟨rfl, _, hCa, hN1.cg (fun r a b => hfa r 0 (by omega)), HBr_h (by omega) (by omega) hxs.2.2.1, by rw [upd_1 (by omega)]; omega⟩)))
          · skip
            refine z_aload_n E dL_branches_75 2 rfl rfl ?_
            refine z_iload E dL_branches_76 rfl ?_
            refine z_iload E dL_branches_78 rfl ?_
            refine z_iast E (rfl : vl G 17 0 = true) 4 (fun _ => rfl) (by omega) (by omega) (by omega) dL_branches_80 ?_
            obtain ⟨V41, hV41⟩ : ∃ Z : Vt, Z = up V 17 0 (updI (V 17 0) fr x) := ⟨_, rfl⟩
            rw [← hV41]
            have hB41 : BV V41 := hV41 ▸ BV_up hB (by intro _; omega)
            have hC1 : LC P V41 s := hC.law hB41 (fun r w hr => by rw [hV41, up_r (by omega)])
            have hN1 : LN V41 (updI s (6 + fr) x) := LN_h hN (by omega) (by omega) (by rw [hV41, up_s]) (fun r a b c => by rw [hV41, up_r (by omega)])
            refine z_aload_n E dL_branches_81 0 rfl rfl ?_
            refine z_iload E dL_branches_82 rfl ?_
            refine z_callV E (ci := 5) (N := 4) (C := RX5) (T := TX5) (n := 1) (st := []) (rfl : vl G 10 0 = true) rfl rfl [.int (iI x)] (kX5_branch l G P V41 x hC1.w0 hB41 hC1.n0 hC1.n1 hC1.L hC1.U hC1.h5 hC1.cm hC1.w1 hC1.uw hC1.o hC1.z (by omega)) gL_branches_X5_branch rfl ⟨rfl, rfl⟩ (by decide +kernel) ⟨Nat.le_of_ble_eq_true rfl, Nat.le_of_ble_eq_true rfl⟩ rfl rfl (Nat.le_of_ble_eq_true rfl) rfl dL_branches_84 (z_exI (fun r_42 P_42 V_42 h_42 => ?_))
            obtain ⟨sa, qa, hCa, hfa⟩ := o_branch hC1 sl h_42
            have hB_42 := hCa.B
            have hda := t_br hxs.1 qa
            have hra : (FBm s = -1 ∧ r_42 = -1000003) ∨ (0 ≤ FBm s ∧ r_42 = FBm s) := hda.imp (fun z => ⟨z.1, z.2.1⟩) (fun z => ⟨z.1, z.2.1⟩)
            refine z_iload E dL_branches_87 rfl ?_
            refine z_if_ge E 97 dL_branches_89 rfl (by omega) (fun c_43 => ?_) (fun c_43 => ?_)
            · skip
              refine z_iload E dL_branches_97 rfl ?_
              refine z_icne_e E (by omega) dL_branches_99 106 rfl ?_
              refine z_iconst E dL_branches_102 ?_
              refine z_goto E 107 dL_branches_103 rfl ?_
              exact z_zret E Er0 dL_branches_107 (by first | decide | omega) (by rcases hda with ⟨z1, z2, z3⟩ | ⟨z1, z2, z3⟩; (first | (exfalso; omega) | (subst z3; exact ⟨rfl, _, hCa, hN.cg (fun r a b => hfa r 0 (by omega)), hH, by omega⟩)); (first | (exfalso; omega) | (rw [← hff] at z3; subst z3; exact ⟨rfl, _, hCa, hN1.cg (fun r a b => hfa r 0 (by omega)), HBr_h (by omega) (by omega) hxs.2.2.1, by rw [upd_1 (by omega)]; omega⟩)))
            · skip
              refine z_ldc E (-1000003) f2 rfl dL_branches_92 ?_
              refine z_goto E 99 dL_branches_94 rfl ?_
              refine z_icne_e E (by omega) dL_branches_99 106 rfl ?_
              refine z_iconst E dL_branches_102 ?_
              refine z_goto E 107 dL_branches_103 rfl ?_
              exact z_zret E Er0 dL_branches_107 (by first | decide | omega) (by rcases hda with ⟨z1, z2, z3⟩ | ⟨z1, z2, z3⟩; (first | (exfalso; omega) | (subst z3; exact ⟨rfl, _, hCa, hN.cg (fun r a b => hfa r 0 (by omega)), hH, by omega⟩)); (first | (exfalso; omega) | (rw [← hff] at z3; subst z3; exact ⟨rfl, _, hCa, hN1.cg (fun r a b => hfa r 0 (by omega)), HBr_h (by omega) (by omega) hxs.2.2.1, by rw [upd_1 (by omega)]; omega⟩)))
      · skip
        refine z_iload E dL_branches_26 rfl ?_
        refine z_aload_n E dL_branches_28 2 rfl rfl ?_
        refine z_iload E dL_branches_29 rfl ?_
        refine z_iald E (rfl : vl G 17 0 = true) 4 rfl (by omega) (by omega) (by omega) dL_branches_31 ?_
        have hr_46 := hB.g 17 0 i rfl
        refine z_if_ge E 39 dL_branches_32 rfl (by omega) (fun c_47 => ?_) (fun c_47 => ?_)
        · skip
          refine z_iconst E dL_branches_39 ?_
          refine z_iadd E dL_branches_40 ?_
          refine z_istore E dL_branches_41 (L' := [some (.ref (ad G 10 0)), some (.ref (ad G 16 0)), some (.ref (ad G 17 0)), some (.ref (ad G 18 0)), some (.ref (ad G 19 0)), some (.int (iI way)), some (.int (iI y)), some (.int (iI x)), some (.int (iI (m + 1))), some (.int (iI fr)), some (.int (iI i))]) (Nat.le_of_ble_eq_true rfl) rfl ?_
          refine z_aload_n E dL_branches_43 2 rfl rfl ?_
          refine z_iload E dL_branches_44 rfl ?_
          refine z_iald E (rfl : vl G 17 0 = true) 4 rfl (by omega) (by omega) (by omega) dL_branches_46 ?_
          refine z_if_ge E 55 dL_branches_47 rfl (by omega) (fun c_48 => ?_) (fun c_48 => ?_)
          · skip
            refine z_iload E dL_branches_55 rfl ?_
            refine z_istore E dL_branches_57 (L' := [some (.ref (ad G 10 0)), some (.ref (ad G 16 0)), some (.ref (ad G 17 0)), some (.ref (ad G 18 0)), some (.ref (ad G 19 0)), some (.int (iI way)), some (.int (iI y)), some (.int (iI x)), some (.int (iI (m + 1))), some (.int (iI fr)), some (.int (iI i))]) (Nat.le_of_ble_eq_true rfl) rfl ?_
            refine z_iinc E i dL_branches_59 (L' := [some (.ref (ad G 10 0)), some (.ref (ad G 16 0)), some (.ref (ad G 17 0)), some (.ref (ad G 18 0)), some (.ref (ad G 19 0)), some (.int (iI way)), some (.int (iI y)), some (.int (iI x)), some (.int (iI (m + 1))), some (.int (iI fr)), some (.int (iI (i + (-1))))]) (Nat.le_of_ble_eq_true rfl) rfl rfl ?_
            refine z_goto E 21 dL_branches_62 rfl ?_
            exact ih_21 (m + 1) fr (i + (-1)) (by omega) (by omega) (by first | (exfalso; omega) | exact lm_t hm (by omega) (by omega) | exact lm_f hm (by omega) (by omega)) (by omega) (by first | (exfalso; omega) | exact LpF_n hi1 hfr (by omega) | exact LpF_s hfr (by omega)) (by omega)
          · skip
            refine z_iload E dL_branches_50 rfl ?_
            refine z_goto E 57 dL_branches_52 rfl ?_
            refine z_istore E dL_branches_57 (L' := [some (.ref (ad G 10 0)), some (.ref (ad G 16 0)), some (.ref (ad G 17 0)), some (.ref (ad G 18 0)), some (.ref (ad G 19 0)), some (.int (iI way)), some (.int (iI y)), some (.int (iI x)), some (.int (iI (m + 1))), some (.int (iI i)), some (.int (iI i))]) (Nat.le_of_ble_eq_true rfl) rfl ?_
            refine z_iinc E i dL_branches_59 (L' := [some (.ref (ad G 10 0)), some (.ref (ad G 16 0)), some (.ref (ad G 17 0)), some (.ref (ad G 18 0)), some (.ref (ad G 19 0)), some (.int (iI way)), some (.int (iI y)), some (.int (iI x)), some (.int (iI (m + 1))), some (.int (iI i)), some (.int (iI (i + (-1))))]) (Nat.le_of_ble_eq_true rfl) rfl rfl ?_
            refine z_goto E 21 dL_branches_62 rfl ?_
            exact ih_21 (m + 1) i (i + (-1)) (by omega) (by omega) (by first | (exfalso; omega) | exact lm_t hm (by omega) (by omega) | exact lm_f hm (by omega) (by omega)) (by omega) (by first | (exfalso; omega) | exact LpF_n hi1 hfr (by omega) | exact LpF_s hfr (by omega)) (by omega)
        · skip
          refine z_iconst E dL_branches_35 ?_
          refine z_goto E 40 dL_branches_36 rfl ?_
          refine z_iadd E dL_branches_40 ?_
          refine z_istore E dL_branches_41 (L' := [some (.ref (ad G 10 0)), some (.ref (ad G 16 0)), some (.ref (ad G 17 0)), some (.ref (ad G 18 0)), some (.ref (ad G 19 0)), some (.int (iI way)), some (.int (iI y)), some (.int (iI x)), some (.int (iI (m + 0))), some (.int (iI fr)), some (.int (iI i))]) (Nat.le_of_ble_eq_true rfl) rfl ?_
          refine z_aload_n E dL_branches_43 2 rfl rfl ?_
          refine z_iload E dL_branches_44 rfl ?_
          refine z_iald E (rfl : vl G 17 0 = true) 4 rfl (by omega) (by omega) (by omega) dL_branches_46 ?_
          refine z_if_ge E 55 dL_branches_47 rfl (by omega) (fun c_49 => ?_) (fun c_49 => ?_)
          · skip
            refine z_iload E dL_branches_55 rfl ?_
            refine z_istore E dL_branches_57 (L' := [some (.ref (ad G 10 0)), some (.ref (ad G 16 0)), some (.ref (ad G 17 0)), some (.ref (ad G 18 0)), some (.ref (ad G 19 0)), some (.int (iI way)), some (.int (iI y)), some (.int (iI x)), some (.int (iI (m + 0))), some (.int (iI fr)), some (.int (iI i))]) (Nat.le_of_ble_eq_true rfl) rfl ?_
            refine z_iinc E i dL_branches_59 (L' := [some (.ref (ad G 10 0)), some (.ref (ad G 16 0)), some (.ref (ad G 17 0)), some (.ref (ad G 18 0)), some (.ref (ad G 19 0)), some (.int (iI way)), some (.int (iI y)), some (.int (iI x)), some (.int (iI (m + 0))), some (.int (iI fr)), some (.int (iI (i + (-1))))]) (Nat.le_of_ble_eq_true rfl) rfl rfl ?_
            refine z_goto E 21 dL_branches_62 rfl ?_
            exact ih_21 (m + 0) fr (i + (-1)) (by omega) (by omega) (by first | (exfalso; omega) | exact lm_t hm (by omega) (by omega) | exact lm_f hm (by omega) (by omega)) (by omega) (by first | (exfalso; omega) | exact LpF_n hi1 hfr (by omega) | exact LpF_s hfr (by omega)) (by omega)
          · skip
            refine z_iload E dL_branches_50 rfl ?_
            refine z_goto E 57 dL_branches_52 rfl ?_
            refine z_istore E dL_branches_57 (L' := [some (.ref (ad G 10 0)), some (.ref (ad G 16 0)), some (.ref (ad G 17 0)), some (.ref (ad G 18 0)), some (.ref (ad G 19 0)), some (.int (iI way)), some (.int (iI y)), some (.int (iI x)), some (.int (iI (m + 0))), some (.int (iI i)), some (.int (iI i))]) (Nat.le_of_ble_eq_true rfl) rfl ?_
            refine z_iinc E i dL_branches_59 (L' := [some (.ref (ad G 10 0)), some (.ref (ad G 16 0)), some (.ref (ad G 17 0)), some (.ref (ad G 18 0)), some (.ref (ad G 19 0)), some (.int (iI way)), some (.int (iI y)), some (.int (iI x)), some (.int (iI (m + 0))), some (.int (iI i)), some (.int (iI (i + (-1))))]) (Nat.le_of_ble_eq_true rfl) rfl rfl ?_
            refine z_goto E 21 dL_branches_62 rfl ?_
            exact ih_21 (m + 0) i (i + (-1)) (by omega) (by omega) (by first | (exfalso; omega) | exact lm_t hm (by omega) (by omega) | exact lm_f hm (by omega) (by omega)) (by omega) (by first | (exfalso; omega) | exact LpF_n hi1 hfr (by omega) | exact LpF_s hfr (by omega)) (by omega)
  exact lp_21_2 ((3 + 1 : Int).toNat + 1) 0 (-1) 3 (by omega) (by omega) (by rw [Int.zero_add]; rfl) (by omega) LpF_0 (Nat.lt_succ_self _)
