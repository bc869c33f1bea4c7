set_option maxHeartbeats 4000000 in
set_option maxRecDepth 100000 in
theorem kL_writes (l : Launch) (G : Gl) (P : Nat → Nat) (V : Vt) (way : Int) (y : Int) (s : Int → Int) (hC : LC P V s) (hN : LN V s) (hH : HBr s) (sl : s 1 < 1000000) (w0 : 0 ≤ way ∧ way ≤ 3) (y0 : 0 ≤ y ∧ y < 10000000) (hG0 : fv G = false) (sz : Nat) : Met l yL_writes wsL_writes ({ frames := 5, cells := 1, slots := 48, locals := 162 }) (va_Pc [.ref (ad G 10 0), .ref (ad G 16 0), .ref (ad G 17 0), .ref (ad G 18 0), .ref (ad G 19 0), .ref (ad G 20 0), .ref (ad G 21 0), .ref (ad G 22 0), .int (iI way), .int (iI y)] (Sz G P V sz)) (Qk G mkI (fun r P' V' => r = 1 ∧ ∃ s' : Int → Int, LC P' V' s' ∧ LN V' s' ∧ HBr s' ∧ s' 1 ≤ s 1 + 1)) 1 48 (mqz G sz) := by
  refine z_metA (cc := cL_writes) (nL := 19) (ret := (some .boolean)) (own := RL) (by decide +kernel) rfl rfl (Nat.le_of_ble_eq_true rfl) (L := [some (.ref (ad G 10 0)), some (.ref (ad G 16 0)), some (.ref (ad G 17 0)), some (.ref (ad G 18 0)), some (.ref (ad G 19 0)), some (.ref (ad G 20 0)), some (.ref (ad G 21 0)), some (.ref (ad G 22 0)), some (.int (iI way)), some (.int (iI y)), none, none, none, none, none, none, none, none, none]) rfl ?_
  intro X E Er0 hEa
  have f0 : Cond.arrayClass .int ∈ wsL_writes := by decide +kernel
  have f1 : Cond.constant RL 61 (-1000003) ∈ wsL_writes := by decide +kernel
  have hB := hC.B
  have hM := hC.M
  have hz := hM.z
  have g0 := hN.g0
  have ms1 := hM.s1
  refine z_iload E dL_writes_0 rfl ?_
  refine z_iconst E dL_writes_2 ?_
  refine z_irem E dL_writes_3 (by omega) (by omega) (by decide) (by decide) ?_
  refine z_istore E dL_writes_4 (L' := [some (.ref (ad G 10 0)), some (.ref (ad G 16 0)), some (.ref (ad G 17 0)), some (.ref (ad G 18 0)), some (.ref (ad G 19 0)), some (.ref (ad G 20 0)), some (.ref (ad G 21 0)), some (.ref (ad G 22 0)), some (.int (iI way)), some (.int (iI y)), some (.int (iI (y % 4))), none, none, none, none, none, none, none, none]) (Nat.le_of_ble_eq_true rfl) rfl ?_
  refine z_iconst E dL_writes_6 ?_
  refine z_istore E dL_writes_7 (L' := [some (.ref (ad G 10 0)), some (.ref (ad G 16 0)), some (.ref (ad G 17 0)), some (.ref (ad G 18 0)), some (.ref (ad G 19 0)), some (.ref (ad G 20 0)), some (.ref (ad G 21 0)), some (.ref (ad G 22 0)), some (.int (iI way)), some (.int (iI y)), some (.int (iI (y % 4))), some (.int (iI 0)), none, none, none, none, none, none, none]) (Nat.le_of_ble_eq_true rfl) rfl ?_
  have lp_9_1 : ∀ (fuel : Nat) (br : Int) (i : Int), (0 ≤ i) → (i ≤ 4) → (0 ≤ br ∧ br < 4) → (LpB (V 17 0) (y % 4) i br) → (4 - i : Int).toNat < fuel → Kz X G P V 0 0 [some (.ref (ad G 10 0)), some (.ref (ad G 16 0)), some (.ref (ad G 17 0)), some (.ref (ad G 18 0)), some (.ref (ad G 19 0)), some (.ref (ad G 20 0)), some (.ref (ad G 21 0)), some (.ref (ad G 22 0)), some (.int (iI way)), some (.int (iI y)), some (.int (iI br)), some (.int (iI i)), none, none, none, none, none, none, none] 9 [] := by
    intro fuel
    induction fuel with
    | zero => intro br i hi0 hi1 hbr hlp hf_9; exact absurd hf_9 (Nat.not_lt_zero _)
    | succ fuel ih_9 =>
      intro br i hi0 hi1 hbr hlp hf_9
      refine z_iload E dL_writes_9 rfl ?_
      refine z_iconst E dL_writes_11 ?_
      refine z_icmp_ge E 41 dL_writes_12 rfl (by omega) (by omega) (fun c_2 => ?_) (fun c_2 => ?_)
      · skip
        have hi4 : i = 4 := by omega
        rw [hi4] at hlp
        have hhv : 0 ≤ V 17 0 br := LpB_e hN hH (by omega) (by omega) hlp
        have eh := hN.h br hbr.1 hbr.2
        have hhb : 0 ≤ mh s br := by omega
        have hb : 0 ≤ mS s (mh s br) := by rcases hM.h br hbr.1 hbr.2 with z | z; (exfalso; omega); exact z.2
        have lb := mS_in hb
        have hgb : ∀ c, 0 ≤ c → c < 48 → 0 ≤ mc s (mS s (mh s br)) c ∧ mc s (mS s (mh s br)) c < 1024 := fun c a b => hN.mc_bd hM hb lb.1 a b
        refine z_aload_n E dL_writes_41 1 rfl rfl ?_
        refine z_aload_n E dL_writes_42 3 rfl rfl ?_
        refine z_aload_n E dL_writes_43 2 rfl rfl ?_
        refine z_iload E dL_writes_44 rfl ?_
        refine z_iald E (rfl : vl G 17 0 = true) 4 rfl (by omega) (by omega) (by omega) dL_writes_46 ?_
        have hr_3 := hB.g 17 0 br rfl
        refine z_callS E (n := 3) (st := []) [.ref (ad G 16 0), .ref (ad G 18 0), .int (iI (V 17 0 br))] (kL_find l G P V (V 17 0 br) hB (by omega) (by omega)) gL_writes_L_find rfl ⟨rfl, rfl⟩ (by decide +kernel) ⟨Nat.le_of_ble_eq_true rfl, Nat.le_of_ble_eq_true rfl⟩ rfl rfl (Nat.le_of_ble_eq_true rfl) rfl dL_writes_47 (z_dtI ?_)
        rw [hN.find, eh]
        refine z_istore E dL_writes_50 (L' := [some (.ref (ad G 10 0)), some (.ref (ad G 16 0)), some (.ref (ad G 17 0)), some (.ref (ad G 18 0)), some (.ref (ad G 19 0)), some (.ref (ad G 20 0)), some (.ref (ad G 21 0)), some (.ref (ad G 22 0)), some (.int (iI way)), some (.int (iI y)), some (.int (iI br)), some (.int (iI (mS s (mh s br)))), none, none, none, none, none, none, none]) (Nat.le_of_ble_eq_true rfl) rfl ?_
        refine z_bipush E dL_writes_52 rfl ?_
        refine z_newv E Er0 hEa hG0 f0 ⟨Nat.le_of_ble_eq_true rfl, Nat.le_of_ble_eq_true rfl⟩ dL_writes_54 (fun G hd hfv E Er0 => ?_)
        have hv23 : vl G 23 0 = true := by show vlB (fv G) 23 0 = true; rw [hfv]; rfl
        rw [← hd 10 0 (by decide), ← hd 16 0 (by decide), ← hd 17 0 (by decide), ← hd 18 0 (by decide), ← hd 19 0 (by decide), ← hd 20 0 (by decide), ← hd 21 0 (by decide), ← hd 22 0 (by decide)]
        obtain ⟨V5, hV5⟩ : ∃ Z : Vt, Z = up V 23 0 (fun _ => 0) := ⟨_, rfl⟩
        rw [← hV5]
        have hB5 : BV V5 := hV5 ▸ BV_upF hB (fun j _ => by omega)
        refine z_astore E dL_writes_56 (L' := [some (.ref (ad G 10 0)), some (.ref (ad G 16 0)), some (.ref (ad G 17 0)), some (.ref (ad G 18 0)), some (.ref (ad G 19 0)), some (.ref (ad G 20 0)), some (.ref (ad G 21 0)), some (.ref (ad G 22 0)), some (.int (iI way)), some (.int (iI y)), some (.int (iI br)), some (.int (iI (mS s (mh s br)))), some (.ref (ad G 23 0)), none, none, none, none, none, none]) (Nat.le_of_ble_eq_true rfl) rfl ?_
        refine z_iconst E dL_writes_58 ?_
        refine z_istore E dL_writes_59 (L' := [some (.ref (ad G 10 0)), some (.ref (ad G 16 0)), some (.ref (ad G 17 0)), some (.ref (ad G 18 0)), some (.ref (ad G 19 0)), some (.ref (ad G 20 0)), some (.ref (ad G 21 0)), some (.ref (ad G 22 0)), some (.int (iI way)), some (.int (iI y)), some (.int (iI br)), some (.int (iI (mS s (mh s br)))), some (.ref (ad G 23 0)), some (.int (iI 0)), none, none, none, none, none]) (Nat.le_of_ble_eq_true rfl) rfl ?_
        have lp_61_6 : ∀ (fuel : Nat) (k : Int) (Vl_61 : Vt), BV Vl_61 → (0 ≤ k) → (k ≤ 48) → (Vl_61 = up V 23 0 (mix (fun _ => 0) (fun c => mc s (mS s (mh s br)) c) k)) → (48 - k : Int).toNat < fuel → Kz X G P Vl_61 (0 + 1) (0 + 48) [some (.ref (ad G 10 0)), some (.ref (ad G 16 0)), some (.ref (ad G 17 0)), some (.ref (ad G 18 0)), some (.ref (ad G 19 0)), some (.ref (ad G 20 0)), some (.ref (ad G 21 0)), some (.ref (ad G 22 0)), some (.int (iI way)), some (.int (iI y)), some (.int (iI br)), some (.int (iI (mS s (mh s br)))), some (.ref (ad G 23 0)), some (.int (iI k)), none, none, none, none, none] 61 [] := by
          intro fuel
          induction fuel with
          | zero => intro k Vl_61 hBl_61 hk0 hk1 hVl hf_61; exact absurd hf_61 (Nat.not_lt_zero _)
          | succ fuel ih_61 =>
            intro k Vl_61 hBl_61 hk0 hk1 hVl hf_61
            have hE1 : ∀ r w, r ≠ 23 → Vl_61 r w = V r w := fun r w hr => by rw [hVl, up_r hr]
            have hNl : LN Vl_61 s := hN.cg (fun r a b => hE1 r 0 (by omega))
            have g16 : Vl_61 16 0 0 = V 16 0 0 := by rw [hE1 16 0 (by decide)]
            refine z_iload E dL_writes_61 rfl ?_
            refine z_bipush E dL_writes_63 rfl ?_
            refine z_icmp_ge E 92 dL_writes_65 rfl (by omega) (by omega) (fun c_7 => ?_) (fun c_7 => ?_)
            · skip
              have hk48 : k = 48 := by omega
              rw [hk48] at hVl
              refine z_aload_n E dL_writes_92 3 rfl rfl ?_
              refine z_iload E dL_writes_93 rfl ?_
              refine z_iconst E dL_writes_95 ?_
              refine z_idiv E dL_writes_96 (by omega) (by omega) (by decide) (by decide) ?_
              refine z_aload_n E dL_writes_97 1 rfl rfl ?_
              refine z_iconst E dL_writes_98 ?_
              refine z_iald E (rfl : vl G 16 0 = true) 6 rfl (by omega) (by omega) (by omega) dL_writes_99 ?_
              refine z_irem E dL_writes_100 (by omega) (by omega) (by omega) (by omega) ?_
              have hxi := emod_in (x := y / 4) (n := Vl_61 16 0 0) (by omega)
              refine z_iald E (rfl : vl G 18 0 = true) 16 rfl (by omega) (by omega) (by omega) dL_writes_101 ?_
              have hr_8 := hBl_61.g 18 0 ((y / 4) % (Vl_61 16 0 0)) rfl
              obtain ⟨x, hx_x⟩ : ∃ z : Int, z = Vl_61 18 0 ((y / 4) % (Vl_61 16 0 0)) := ⟨_, rfl⟩
              rw [← hx_x]
              have hxs := hNl.st hM hxi.1 hxi.2
              rw [← hx_x] at hxs
              refine z_istore E dL_writes_102 (L' := [some (.ref (ad G 10 0)), some (.ref (ad G 16 0)), some (.ref (ad G 17 0)), some (.ref (ad G 18 0)), some (.ref (ad G 19 0)), some (.ref (ad G 20 0)), some (.ref (ad G 21 0)), some (.ref (ad G 22 0)), some (.int (iI way)), some (.int (iI y)), some (.int (iI br)), some (.int (iI (mS s (mh s br)))), some (.ref (ad G 23 0)), some (.int (iI x)), none, none, none, none, none]) (Nat.le_of_ble_eq_true rfl) rfl ?_
              refine z_iload E dL_writes_104 rfl ?_
              refine z_bipush E dL_writes_106 rfl ?_
              refine z_idiv E dL_writes_108 (by omega) (by omega) (by decide) (by decide) ?_
              refine z_bipush E dL_writes_109 rfl ?_
              refine z_irem E dL_writes_111 (by omega) (by omega) (by decide) (by decide) ?_
              refine z_istore E dL_writes_112 (L' := [some (.ref (ad G 10 0)), some (.ref (ad G 16 0)), some (.ref (ad G 17 0)), some (.ref (ad G 18 0)), some (.ref (ad G 19 0)), some (.ref (ad G 20 0)), some (.ref (ad G 21 0)), some (.ref (ad G 22 0)), some (.int (iI way)), some (.int (iI y)), some (.int (iI br)), some (.int (iI (mS s (mh s br)))), some (.ref (ad G 23 0)), some (.int (iI x)), some (.int (iI ((y / 64) % 48))), none, none, none, none]) (Nat.le_of_ble_eq_true rfl) rfl ?_
              refine z_iload E dL_writes_114 rfl ?_
              refine z_bipush E dL_writes_116 rfl ?_
              refine z_idiv E dL_writes_118 (by omega) (by omega) (by decide) (by decide) ?_
              refine z_iload E dL_writes_119 rfl ?_
              refine z_iconst E dL_writes_121 ?_
              refine z_irem E dL_writes_122 (by omega) (by omega) (by decide) (by decide) ?_
              refine z_if_ne E 132 dL_writes_123 rfl (by omega) (fun c_9 => ?_) (fun c_9 => ?_)
              · skip
                refine z_iconst E dL_writes_132 ?_
                refine z_irem E dL_writes_133 (by omega) (by omega) (by decide) (by decide) ?_
                obtain ⟨val, hx_val⟩ : ∃ z : Int, z = (y / 7) % 4 := ⟨_, rfl⟩
                rw [← hx_val]
                have hval : 0 ≤ val ∧ val ≤ 999 := by omega
                refine z_istore E dL_writes_134 (L' := [some (.ref (ad G 10 0)), some (.ref (ad G 16 0)), some (.ref (ad G 17 0)), some (.ref (ad G 18 0)), some (.ref (ad G 19 0)), some (.ref (ad G 20 0)), some (.ref (ad G 21 0)), some (.ref (ad G 22 0)), some (.int (iI way)), some (.int (iI y)), some (.int (iI br)), some (.int (iI (mS s (mh s br)))), some (.ref (ad G 23 0)), some (.int (iI x)), some (.int (iI ((y / 64) % 48))), some (.int (iI val)), none, none, none]) (Nat.le_of_ble_eq_true rfl) rfl ?_
                refine z_iload E dL_writes_136 rfl ?_
                refine z_if_ne E 199 dL_writes_138 rfl (by omega) (fun c_10 => ?_) (fun c_10 => ?_)
                · skip
                  refine z_iload E dL_writes_199 rfl ?_
                  refine z_iconst E dL_writes_201 ?_
                  refine z_icmp_ne E 300 dL_writes_202 rfl (by omega) (by omega) (fun c_11 => ?_) (fun c_11 => ?_)
                  · skip
                    refine z_iload E dL_writes_300 rfl ?_
                    refine z_iconst E dL_writes_302 ?_
                    refine z_icmp_ne E 443 dL_writes_303 rfl (by omega) (by omega) (fun c_12 => ?_) (fun c_12 => ?_)
                    · skip
                      refine z_aload_n E dL_writes_443 1 rfl rfl ?_
                      refine z_aload_n E dL_writes_444 2 rfl rfl ?_
                      refine z_aload_n E dL_writes_445 3 rfl rfl ?_
                      refine z_aload E dL_writes_446 rfl ?_
                      refine z_aload E dL_writes_448 rfl ?_
                      refine z_aload E dL_writes_450 rfl ?_
                      refine z_aload E dL_writes_452 rfl ?_
                      refine z_iload E dL_writes_454 rfl ?_
                      refine z_iload E dL_writes_456 rfl ?_
                      refine z_aload E dL_writes_458 rfl ?_
                      refine z_callS E (n := 10) (st := []) [.ref (ad G 16 0), .ref (ad G 17 0), .ref (ad G 18 0), .ref (ad G 19 0), .ref (ad G 20 0), .ref (ad G 21 0), .ref (ad G 22 0), .int (iI br), .int (iI x), .ref (ad G 23 0)] (kL_merge l G P Vl_61 br x s hBl_61 hNl hM hbr hhb hxs.1 (by omega) (by omega) hv23) gL_writes_L_merge rfl ⟨rfl, rfl⟩ (by decide +kernel) ⟨Nat.le_of_ble_eq_true rfl, Nat.le_of_ble_eq_true rfl⟩ rfl rfl (Nat.le_of_ble_eq_true rfl) rfl dL_writes_460 (z_exI (fun r_13 P_13 V_13 h_13 => ?_)) (hN := ⟨Nat.le_of_ble_eq_true rfl, Nat.le_of_ble_eq_true rfl⟩)
                      obtain ⟨hP_13, hB_13, h_13⟩ := h_13
                      rw [hP_13]
                      obtain ⟨hrm, hfm, hce9⟩ := h_13
                      have hE : ∀ r w, r ≠ 23 → V_13 r w = V r w := fun r w hr => by rw [hfm r w (fun z => hr z.1), hVl, up_r hr]
                      have hcb := ceb_mg hce9 hgb (fun c a b => hN.mc_bd hM hxs.1 hxs.2.1 a b)
                      refine z_istore E dL_writes_463 (L' := [some (.ref (ad G 10 0)), some (.ref (ad G 16 0)), some (.ref (ad G 17 0)), some (.ref (ad G 18 0)), some (.ref (ad G 19 0)), some (.ref (ad G 20 0)), some (.ref (ad G 21 0)), some (.ref (ad G 22 0)), some (.int (iI way)), some (.int (iI y)), some (.int (iI br)), some (.int (iI (mS s (mh s br)))), some (.ref (ad G 23 0)), some (.int (iI x)), some (.int (iI ((y / 64) % 48))), some (.int (iI val)), some (.int (iI r_13)), none, none]) (Nat.le_of_ble_eq_true rfl) rfl ?_
                      refine z_aload_n E dL_writes_465 1 rfl rfl ?_
                      refine z_aload_n E dL_writes_466 2 rfl rfl ?_
                      refine z_aload_n E dL_writes_467 3 rfl rfl ?_
                      refine z_aload E dL_writes_468 rfl ?_
                      refine z_aload E dL_writes_470 rfl ?_
                      refine z_aload E dL_writes_472 rfl ?_
                      refine z_aload E dL_writes_474 rfl ?_
                      refine z_iload E dL_writes_476 rfl ?_
                      refine z_aload E dL_writes_478 rfl ?_
                      refine z_callS E (n := 9) (st := []) [.ref (ad G 16 0), .ref (ad G 17 0), .ref (ad G 18 0), .ref (ad G 19 0), .ref (ad G 20 0), .ref (ad G 21 0), .ref (ad G 22 0), .int (iI br), .ref (ad G 23 0)] (kL_store l G P V_13 br s hB_13 (hN.cg (fun r a b => hE r 0 (by omega))) hM hbr hhb (by omega) hcb hv23) gL_writes_L_store rfl ⟨rfl, rfl⟩ (by decide +kernel) ⟨Nat.le_of_ble_eq_true rfl, Nat.le_of_ble_eq_true rfl⟩ rfl rfl (Nat.le_of_ble_eq_true rfl) rfl dL_writes_480 (z_exI (fun r_14 P_14 V_14 h_14 => ?_)) (hN := ⟨Nat.le_of_ble_eq_true rfl, Nat.le_of_ble_eq_true rfl⟩)
                      obtain ⟨hP_14, hB_14, h_14⟩ := h_14
                      rw [hP_14]
                      obtain ⟨hfr9, ra, s9, ht9, hra9, hN9⟩ := h_14
                      have hC9 : LC P V_14 s := hC.law hB_14 (fun r w hr => by rw [hfr9 r w (by omega)]; exact hE r w (by omega))
                      have hru := trS_le hM ht9
                      refine z_istore E dL_writes_483 (L' := [some (.ref (ad G 10 0)), some (.ref (ad G 16 0)), some (.ref (ad G 17 0)), some (.ref (ad G 18 0)), some (.ref (ad G 19 0)), some (.ref (ad G 20 0)), some (.ref (ad G 21 0)), some (.ref (ad G 22 0)), some (.int (iI way)), some (.int (iI y)), some (.int (iI br)), some (.int (iI (mS s (mh s br)))), some (.ref (ad G 23 0)), some (.int (iI x)), some (.int (iI ((y / 64) % 48))), some (.int (iI val)), some (.int (iI r_13)), some (.int (iI r_14)), none]) (Nat.le_of_ble_eq_true rfl) rfl ?_
                      refine z_aload_n E dL_writes_485 1 rfl rfl ?_
                      refine z_iconst E dL_writes_486 ?_
                      refine z_dup2 E dL_writes_487 rfl rfl ?_
                      refine z_iald E (rfl : vl G 16 0 = true) 6 rfl (by omega) (by omega) (by omega) dL_writes_488 ?_
                      refine z_iload E dL_writes_489 rfl ?_
                      refine z_if_ge E 498 dL_writes_491 rfl (by omega) (fun c_15 => ?_) (fun c_15 => ?_)
                      · skip
                        refine z_iload E dL_writes_498 rfl ?_
                        refine z_iadd E dL_writes_500 ?_
                        refine z_iast E (rfl : vl G 16 0 = true) 6 (fun _ => rfl) (by omega) (by omega) (by omega) dL_writes_501 ?_
                        obtain ⟨V16, hV16⟩ : ∃ Z : Vt, Z = up V_14 16 0 (updI (V_14 16 0) 4 ((V_14 16 0 4) + r_13)) := ⟨_, rfl⟩
                        rw [← hV16]
                        have hB16 : BV V16 := hV16 ▸ BV_up hB_14 (fun hz => absurd (by simp [ctr]) hz)
                        have hC10 : LC P V16 s := hC9.law hB16 (fun r w hr => by rw [hV16, up_r (by omega)])
                        have hN10 := LN_4 (V' := V16) hN9 (by rw [hV16, up_s]) (fun r a b => by rw [hV16, up_r (by omega)])
                        rw [hN9.g 4 (by omega) (by omega)] at hN10
                        refine z_aload_n E dL_writes_502 0 rfl rfl ?_
                        refine z_iload E dL_writes_503 rfl ?_
                        refine z_iload E dL_writes_505 rfl ?_
                        refine z_callV E (ci := 5) (N := 4) (C := RX5) (T := TX5) (n := 2) (st := []) (rfl : vl G 10 0 = true) rfl rfl [.int (iI br), .int (iI x)] (kX5_merge l G P V16 br x hC10.w0 hB16 hC10.n0 hC10.n1 hC10.L hC10.U hC10.h5 hC10.cm hC10.w1 hC10.uw hC10.o hC10.z (by omega) (by omega)) gL_writes_X5_merge rfl ⟨rfl, rfl⟩ (by decide +kernel) ⟨Nat.le_of_ble_eq_true rfl, Nat.le_of_ble_eq_true rfl⟩ rfl rfl (Nat.le_of_ble_eq_true rfl) rfl dL_writes_507 (z_exI (fun r_17 P_17 V_17 h_17 => ?_)) (hN := ⟨Nat.le_of_ble_eq_true rfl, Nat.le_of_ble_eq_true rfl⟩)
                        obtain ⟨sq, qq, hCq, hfq⟩ := o_merge hC10 sl h_17
                        have hB_17 := hCq.B
                        obtain ⟨hH9, hs9, hd9⟩ := t_me hM hbr.1 hbr.2 hhb hH hxs.1 qq ht9 hce9
                        have hm1 : ra < 0 → r_17 = -1000003 := fun z => by rcases hd9 with w | w <;> omega
                        have hm2 : 0 ≤ ra → r_17 = mgN s br x := fun z => by rcases hd9 with w | w <;> omega
                        have hm3 : ra < 0 → sq = s9 := fun z => by rcases hd9 with w | w; exact w.2.2; (exfalso; omega)
                        have hm4 : 0 ≤ ra → sq = updI s9 4 (s9 4 + mgN s br x) := fun z => by rcases hd9 with w | w; (exfalso; omega); exact w.2.2
                        refine z_iload E dL_writes_510 rfl ?_
                        refine z_if_ge E 520 dL_writes_512 rfl (by omega) (fun c_18 => ?_) (fun c_18 => ?_)
                        · skip
                          refine z_iload E dL_writes_520 rfl ?_
                          refine z_icne_e E (by omega) dL_writes_522 529 rfl ?_
                          refine z_iconst E dL_writes_525 ?_
                          refine z_goto E 530 dL_writes_526 rfl ?_
                          exact z_zret E Er0 dL_writes_530 (by first | decide | omega) (by first | (have e := hm3 (by omega); rw [Int.add_zero, updI_id] at hN10; subst e; exact ⟨rfl, sq, hCq, hN10.cg (fun r a b => hfq r 0 (by omega)), hH9, hs9⟩) | (have e := hm4 (by omega); rw [hrm] at hN10; subst e; exact ⟨rfl, _, hCq, hN10.cg (fun r a b => hfq r 0 (by omega)), HBr_4 hH9, by rw [updI_n (by omega)]; exact hs9⟩))
                        · skip
                          refine z_ldc E (-1000003) f1 rfl dL_writes_515 ?_
                          refine z_goto E 522 dL_writes_517 rfl ?_
                          refine z_icne_e E (by omega) dL_writes_522 529 rfl ?_
                          refine z_iconst E dL_writes_525 ?_
                          refine z_goto E 530 dL_writes_526 rfl ?_
                          exact z_zret E Er0 dL_writes_530 (by first | decide | omega) (by first | (have e := hm3 (by omega); rw [Int.add_zero, updI_id] at hN10; subst e; exact ⟨rfl, sq, hCq, hN10.cg (fun r a b => hfq r 0 (by omega)), hH9, hs9⟩) | (have e := hm4 (by omega); rw [hrm] at hN10; subst e; exact ⟨rfl, _, hCq, hN10.cg (fun r a b => hfq r 0 (by omega)), HBr_4 hH9, by rw [updI_n (by omega)]; exact hs9⟩))
                      · skip
                        refine z_iconst E dL_writes_494 ?_
                        refine z_goto E 500 dL_writes_495 rfl ?_
                        refine z_iadd E dL_writes_500 ?_
                        refine z_iast E (rfl : vl G 16 0 = true) 6 (fun _ => rfl) (by omega) (by omega) (by omega) dL_writes_501 ?_
                        obtain ⟨V21, hV21⟩ : ∃ Z : Vt, Z = up V_14 16 0 (updI (V_14 16 0) 4 ((V_14 16 0 4) + 0)) := ⟨_, rfl⟩
                        rw [← hV21]
                        have hB21 : BV V21 := hV21 ▸ BV_up hB_14 (fun hz => absurd (by simp [ctr]) hz)
                        have hC10 : LC P V21 s := hC9.law hB21 (fun r w hr => by rw [hV21, up_r (by omega)])
                        have hN10 := LN_4 (V' := V21) hN9 (by rw [hV21, up_s]) (fun r a b => by rw [hV21, up_r (by omega)])
                        rw [hN9.g 4 (by omega) (by omega)] at hN10
                        refine z_aload_n E dL_writes_502 0 rfl rfl ?_
                        refine z_iload E dL_writes_503 rfl ?_
                        refine z_iload E dL_writes_505 rfl ?_
                        refine z_callV E (ci := 5) (N := 4) (C := RX5) (T := TX5) (n := 2) (st := []) (rfl : vl G 10 0 = true) rfl rfl [.int (iI br), .int (iI x)] (kX5_merge l G P V21 br x hC10.w0 hB21 hC10.n0 hC10.n1 hC10.L hC10.U hC10.h5 hC10.cm hC10.w1 hC10.uw hC10.o hC10.z (by omega) (by omega)) gL_writes_X5_merge rfl ⟨rfl, rfl⟩ (by decide +kernel) ⟨Nat.le_of_ble_eq_true rfl, Nat.le_of_ble_eq_true rfl⟩ rfl rfl (Nat.le_of_ble_eq_true rfl) rfl dL_writes_507 (z_exI (fun r_22 P_22 V_22 h_22 => ?_)) (hN := ⟨Nat.le_of_ble_eq_true rfl, Nat.le_of_ble_eq_true rfl⟩)
                        obtain ⟨sq, qq, hCq, hfq⟩ := o_merge hC10 sl h_22
                        have hB_22 := hCq.B
                        obtain ⟨hH9, hs9, hd9⟩ := t_me hM hbr.1 hbr.2 hhb hH hxs.1 qq ht9 hce9
                        have hm1 : ra < 0 → r_22 = -1000003 := fun z => by rcases hd9 with w | w <;> omega
                        have hm2 : 0 ≤ ra → r_22 = mgN s br x := fun z => by rcases hd9 with w | w <;> omega
                        have hm3 : ra < 0 → sq = s9 := fun z => by rcases hd9 with w | w; exact w.2.2; (exfalso; omega)
                        have hm4 : 0 ≤ ra → sq = updI s9 4 (s9 4 + mgN s br x) := fun z => by rcases hd9 with w | w; (exfalso; omega); exact w.2.2
                        refine z_iload E dL_writes_510 rfl ?_
                        refine z_if_ge E 520 dL_writes_512 rfl (by omega) (fun c_23 => ?_) (fun c_23 => ?_)
                        · skip
                          refine z_iload E dL_writes_520 rfl ?_
                          refine z_icne_e E (by omega) dL_writes_522 529 rfl ?_
                          refine z_iconst E dL_writes_525 ?_
                          refine z_goto E 530 dL_writes_526 rfl ?_
                          exact z_zret E Er0 dL_writes_530 (by first | decide | omega) (by first | (have e := hm3 (by omega); rw [Int.add_zero, updI_id] at hN10; subst e; exact ⟨rfl, sq, hCq, hN10.cg (fun r a b => hfq r 0 (by omega)), hH9, hs9⟩) | (have e := hm4 (by omega); rw [hrm] at hN10; subst e; exact ⟨rfl, _, hCq, hN10.cg (fun r a b => hfq r 0 (by omega)), HBr_4 hH9, by rw [updI_n (by omega)]; exact hs9⟩))
                        · skip
                          refine z_ldc E (-1000003) f1 rfl dL_writes_515 ?_
                          refine z_goto E 522 dL_writes_517 rfl ?_
                          refine z_icne_e E (by omega) dL_writes_522 529 rfl ?_
                          refine z_iconst E dL_writes_525 ?_
                          refine z_goto E 530 dL_writes_526 rfl ?_
                          exact z_zret E Er0 dL_writes_530 (by first | decide | omega) (by first | (have e := hm3 (by omega); rw [Int.add_zero, updI_id] at hN10; subst e; exact ⟨rfl, sq, hCq, hN10.cg (fun r a b => hfq r 0 (by omega)), hH9, hs9⟩) | (have e := hm4 (by omega); rw [hrm] at hN10; subst e; exact ⟨rfl, _, hCq, hN10.cg (fun r a b => hfq r 0 (by omega)), HBr_4 hH9, by rw [updI_n (by omega)]; exact hs9⟩))
                    · skip
                      refine z_iload E dL_writes_306 rfl ?_
                      refine z_bipush E dL_writes_308 rfl ?_
                      refine z_idiv E dL_writes_310 (by omega) (by omega) (by decide) (by decide) ?_
                      refine z_bipush E dL_writes_311 rfl ?_
                      refine z_irem E dL_writes_313 (by omega) (by omega) (by decide) (by decide) ?_
                      refine z_istore E dL_writes_314 (L' := [some (.ref (ad G 10 0)), some (.ref (ad G 16 0)), some (.ref (ad G 17 0)), some (.ref (ad G 18 0)), some (.ref (ad G 19 0)), some (.ref (ad G 20 0)), some (.ref (ad G 21 0)), some (.ref (ad G 22 0)), some (.int (iI way)), some (.int (iI y)), some (.int (iI br)), some (.int (iI (mS s (mh s br)))), some (.ref (ad G 23 0)), some (.int (iI x)), some (.int (iI ((y / 64) % 48))), some (.int (iI val)), some (.int (iI ((y / 13) % 48))), none, none]) (Nat.le_of_ble_eq_true rfl) rfl ?_
                      refine z_iconst E dL_writes_316 ?_
                      refine z_iload E dL_writes_317 rfl ?_
                      refine z_bipush E dL_writes_319 rfl ?_
                      refine z_idiv E dL_writes_321 (by omega) (by omega) (by decide) (by decide) ?_
                      refine z_bipush E dL_writes_322 rfl ?_
                      refine z_iload E dL_writes_324 rfl ?_
                      refine z_iload E dL_writes_326 rfl ?_
                      refine z_icmp_le E 336 dL_writes_328 rfl (by omega) (by omega) (fun c_26 => ?_) (fun c_26 => ?_)
                      · skip
                        refine z_iload E dL_writes_336 rfl ?_
                        refine z_isub E dL_writes_338 ?_
                        refine z_irem E dL_writes_339 (by omega) (by omega) (by omega) (by omega) ?_
                        refine z_iadd E dL_writes_340 ?_
                        obtain ⟨mny, hx_mny⟩ : ∃ z : Int, z = 1 + ((y / 17) % (48 - ((y / 13) % 48))) := ⟨_, rfl⟩
                        rw [← hx_mny]
                        have hmny : 1 ≤ mny ∧ mny ≤ 48 - y / 64 % 48 ∧ mny ≤ 48 - y / 13 % 48 := by first | (have := emod_in (x := y / 17) (n := 48 - y / 64 % 48) (by omega); omega) | (have := emod_in (x := y / 17) (n := 48 - y / 13 % 48) (by omega); omega)
                        refine z_istore E dL_writes_341 (L' := [some (.ref (ad G 10 0)), some (.ref (ad G 16 0)), some (.ref (ad G 17 0)), some (.ref (ad G 18 0)), some (.ref (ad G 19 0)), some (.ref (ad G 20 0)), some (.ref (ad G 21 0)), some (.ref (ad G 22 0)), some (.int (iI way)), some (.int (iI y)), some (.int (iI br)), some (.int (iI (mS s (mh s br)))), some (.ref (ad G 23 0)), some (.int (iI x)), some (.int (iI ((y / 64) % 48))), some (.int (iI val)), some (.int (iI ((y / 13) % 48))), some (.int (iI mny)), none]) (Nat.le_of_ble_eq_true rfl) rfl ?_
                        refine z_iconst E dL_writes_343 ?_
                        refine z_istore E dL_writes_344 (L' := [some (.ref (ad G 10 0)), some (.ref (ad G 16 0)), some (.ref (ad G 17 0)), some (.ref (ad G 18 0)), some (.ref (ad G 19 0)), some (.ref (ad G 20 0)), some (.ref (ad G 21 0)), some (.ref (ad G 22 0)), some (.int (iI way)), some (.int (iI y)), some (.int (iI br)), some (.int (iI (mS s (mh s br)))), some (.ref (ad G 23 0)), some (.int (iI x)), some (.int (iI ((y / 64) % 48))), some (.int (iI val)), some (.int (iI ((y / 13) % 48))), some (.int (iI mny)), some (.int (iI 0))]) (Nat.le_of_ble_eq_true rfl) rfl ?_
                        have lp_346_27 : ∀ (fuel : Nat) (k2 : Int) (Vl_346 : Vt), BV Vl_346 → (0 ≤ k2) → (k2 ≤ mny) → (Vl_346 = up V 23 0 (cpI (fun c => mc s (mS s x) c) (mix (fun _ => 0) (fun c => mc s (mS s (mh s br)) c) 48) (y / 64 % 48) (y / 13 % 48) k2)) → (mny - k2 : Int).toNat < fuel → Kz X G P Vl_346 (0 + 1) (0 + 48) [some (.ref (ad G 10 0)), some (.ref (ad G 16 0)), some (.ref (ad G 17 0)), some (.ref (ad G 18 0)), some (.ref (ad G 19 0)), some (.ref (ad G 20 0)), some (.ref (ad G 21 0)), some (.ref (ad G 22 0)), some (.int (iI way)), some (.int (iI y)), some (.int (iI br)), some (.int (iI (mS s (mh s br)))), some (.ref (ad G 23 0)), some (.int (iI x)), some (.int (iI ((y / 64) % 48))), some (.int (iI val)), some (.int (iI ((y / 13) % 48))), some (.int (iI mny)), some (.int (iI k2))] 346 [] := by
                          intro fuel
                          induction fuel with
                          | zero => intro k2 Vl_346 hBl_346 hk20 hk21 hVm hf_346; exact absurd hf_346 (Nat.not_lt_zero _)
                          | succ fuel ih_346 =>
                            intro k2 Vl_346 hBl_346 hk20 hk21 hVm hf_346
                            have hE2 : ∀ r w, r ≠ 23 → Vl_346 r w = V r w := fun r w hr => by rw [hVm, up_r hr]
                            have hNm : LN Vl_346 s := hN.cg (fun r a b => hE2 r 0 (by omega))
                            have g16m : Vl_346 16 0 0 = V 16 0 0 := by rw [hE2 16 0 (by decide)]
                            refine z_iload E dL_writes_346 rfl ?_
                            refine z_iload E dL_writes_348 rfl ?_
                            refine z_icmp_ge E 388 dL_writes_350 rfl (by omega) (by omega) (fun c_28 => ?_) (fun c_28 => ?_)
                            · skip
                              have hcc : k2 = mny := by omega
                              rw [hcc] at hVm
                              have hE : ∀ r w, r ≠ 23 → Vl_346 r w = V r w := fun r w hr => by rw [hVm, up_r hr]
                              have hce9 : ∀ i, 0 ≤ i → i < 48 → Vl_346 23 0 i = cpI (fun c => mc s (mS s x) c) (fun c => mc s (mS s (mh s br)) c) (y / 64 % 48) (y / 13 % 48) mny i := fun i a b => by rw [hVm, up_s]; exact vC_m a b
                              have hcb := ceb_cp hce9 (fun c a b => hN.mc_bd hM hxs.1 hxs.2.1 a b) hgb (by omega) (by omega)
                              refine z_aload_n E dL_writes_388 1 rfl rfl ?_
                              refine z_aload_n E dL_writes_389 2 rfl rfl ?_
                              refine z_aload_n E dL_writes_390 3 rfl rfl ?_
                              refine z_aload E dL_writes_391 rfl ?_
                              refine z_aload E dL_writes_393 rfl ?_
                              refine z_aload E dL_writes_395 rfl ?_
                              refine z_aload E dL_writes_397 rfl ?_
                              refine z_iload E dL_writes_399 rfl ?_
                              refine z_aload E dL_writes_401 rfl ?_
                              refine z_callS E (n := 9) (st := []) [.ref (ad G 16 0), .ref (ad G 17 0), .ref (ad G 18 0), .ref (ad G 19 0), .ref (ad G 20 0), .ref (ad G 21 0), .ref (ad G 22 0), .int (iI br), .ref (ad G 23 0)] (kL_store l G P Vl_346 br s hBl_346 (hN.cg (fun r a b => hE r 0 (by omega))) hM hbr hhb (by omega) hcb hv23) gL_writes_L_store rfl ⟨rfl, rfl⟩ (by decide +kernel) ⟨Nat.le_of_ble_eq_true rfl, Nat.le_of_ble_eq_true rfl⟩ rfl rfl (Nat.le_of_ble_eq_true rfl) rfl dL_writes_403 (z_exI (fun r_29 P_29 V_29 h_29 => ?_)) (hN := ⟨Nat.le_of_ble_eq_true rfl, Nat.le_of_ble_eq_true rfl⟩)
                              obtain ⟨hP_29, hB_29, h_29⟩ := h_29
                              rw [hP_29]
                              obtain ⟨hfr9, ra, s9, ht9, hra9, hN9⟩ := h_29
                              have hC9 : LC P V_29 s := hC.law hB_29 (fun r w hr => by rw [hfr9 r w (by omega)]; exact hE r w (by omega))
                              have hru := trS_le hM ht9
                              refine z_istore E dL_writes_406 (L' := [some (.ref (ad G 10 0)), some (.ref (ad G 16 0)), some (.ref (ad G 17 0)), some (.ref (ad G 18 0)), some (.ref (ad G 19 0)), some (.ref (ad G 20 0)), some (.ref (ad G 21 0)), some (.ref (ad G 22 0)), some (.int (iI way)), some (.int (iI y)), some (.int (iI br)), some (.int (iI (mS s (mh s br)))), some (.ref (ad G 23 0)), some (.int (iI x)), some (.int (iI ((y / 64) % 48))), some (.int (iI val)), some (.int (iI ((y / 13) % 48))), some (.int (iI mny)), some (.int (iI r_29))]) (Nat.le_of_ble_eq_true rfl) rfl ?_
                              refine z_aload_n E dL_writes_408 0 rfl rfl ?_
                              refine z_iload E dL_writes_409 rfl ?_
                              refine z_iload E dL_writes_411 rfl ?_
                              refine z_iload E dL_writes_413 rfl ?_
                              refine z_iload E dL_writes_415 rfl ?_
                              refine z_iload E dL_writes_417 rfl ?_
                              refine z_callV E (ci := 5) (N := 4) (C := RX5) (T := TX5) (n := 5) (st := []) (rfl : vl G 10 0 = true) rfl rfl [.int (iI br), .int (iI x), .int (iI ((y / 64) % 48)), .int (iI ((y / 13) % 48)), .int (iI mny)] (kX5_copy l G P V_29 br x ((y / 64) % 48) ((y / 13) % 48) mny hC9.w0 hB_29 hC9.n0 hC9.n1 hC9.L hC9.U hC9.h5 hC9.cm hC9.w1 hC9.uw hC9.o hC9.z (by omega) (by omega) (by omega) (by omega) (by omega)) gL_writes_X5_copy rfl ⟨rfl, rfl⟩ (by decide +kernel) ⟨Nat.le_of_ble_eq_true rfl, Nat.le_of_ble_eq_true rfl⟩ rfl rfl (Nat.le_of_ble_eq_true rfl) rfl dL_writes_419 (z_exI (fun r_30 P_30 V_30 h_30 => ?_)) (hN := ⟨Nat.le_of_ble_eq_true rfl, Nat.le_of_ble_eq_true rfl⟩)
                              obtain ⟨sq, qq, hCq, hfq⟩ := o_copy hC9 sl h_30
                              have hB_30 := hCq.B
                              obtain ⟨er, es, hH9, hs9, hr9⟩ := t_co hM hbr.1 hbr.2 hhb hH hxs.1 (by omega) (by omega) (by omega) (by omega) qq ht9 hce9
                              subst es
                              refine z_iload E dL_writes_422 rfl ?_
                              refine z_if_ge E 432 dL_writes_424 rfl (by omega) (fun c_31 => ?_) (fun c_31 => ?_)
                              · skip
                                refine z_iload E dL_writes_432 rfl ?_
                                refine z_icne_e E (by omega) dL_writes_434 441 rfl ?_
                                refine z_iconst E dL_writes_437 ?_
                                refine z_goto E 442 dL_writes_438 rfl ?_
                                exact z_zret E Er0 dL_writes_442 (by first | decide | omega) (⟨rfl, sq, hCq, hN9.cg (fun r a b => hfq r 0 (by omega)), hH9, hs9⟩)
                              · skip
                                refine z_ldc E (-1000003) f1 rfl dL_writes_427 ?_
                                refine z_goto E 434 dL_writes_429 rfl ?_
                                refine z_icne_e E (by omega) dL_writes_434 441 rfl ?_
                                refine z_iconst E dL_writes_437 ?_
                                refine z_goto E 442 dL_writes_438 rfl ?_
                                exact z_zret E Er0 dL_writes_442 (by first | decide | omega) (⟨rfl, sq, hCq, hN9.cg (fun r a b => hfq r 0 (by omega)), hH9, hs9⟩)
                            · skip
                              refine z_aload E dL_writes_353 rfl ?_
                              refine z_iload E dL_writes_355 rfl ?_
                              refine z_iload E dL_writes_357 rfl ?_
                              refine z_iadd E dL_writes_359 ?_
                              refine z_aload E dL_writes_360 rfl ?_
                              refine z_aload E dL_writes_362 rfl ?_
                              refine z_aload E dL_writes_364 rfl ?_
                              refine z_aload_n E dL_writes_366 1 rfl rfl ?_
                              refine z_aload_n E dL_writes_367 3 rfl rfl ?_
                              refine z_iload E dL_writes_368 rfl ?_
                              refine z_callS E (n := 3) (st := [.ref (ad G 22 0), .ref (ad G 21 0), .ref (ad G 20 0), .int (iI (((y / 13) % 48) + k2)), .ref (ad G 23 0)]) [.ref (ad G 16 0), .ref (ad G 18 0), .int (iI x)] (kL_find l G P Vl_346 x hBl_346 (by omega) (by omega)) gL_writes_L_find rfl ⟨rfl, rfl⟩ (by decide +kernel) ⟨Nat.le_of_ble_eq_true rfl, Nat.le_of_ble_eq_true rfl⟩ rfl rfl (Nat.le_of_ble_eq_true rfl) rfl dL_writes_370 (z_dtI ?_) (hN := ⟨Nat.le_of_ble_eq_true rfl, Nat.le_of_ble_eq_true rfl⟩)
                              rw [hNm.find]
                              refine z_iload E dL_writes_373 rfl ?_
                              refine z_iload E dL_writes_375 rfl ?_
                              refine z_iadd E dL_writes_377 ?_
                              refine z_callS E (n := 5) (st := [.int (iI (((y / 13) % 48) + k2)), .ref (ad G 23 0)]) [.ref (ad G 20 0), .ref (ad G 21 0), .ref (ad G 22 0), .int (iI (mS s x)), .int (iI (((y / 64) % 48) + k2))] (kL_read l G P Vl_346 (mS s x) (((y / 64) % 48) + k2) (by omega) (by omega) hNm.vr hNm.va hNm.vb (hNm.th hM hxs.1 hxs.2.1 (by omega) (by omega))) gL_writes_L_read rfl ⟨rfl, rfl⟩ (by decide +kernel) ⟨Nat.le_of_ble_eq_true rfl, Nat.le_of_ble_eq_true rfl⟩ rfl rfl (Nat.le_of_ble_eq_true rfl) rfl dL_writes_378 (z_dtI ?_) (hN := ⟨Nat.le_of_ble_eq_true rfl, Nat.le_of_ble_eq_true rfl⟩)
                              rw [hNm.cell hM hxs.1 hxs.2.1 (by omega) (by omega)]
                              have bc_378 := hN.mc_bd hM hxs.1 hxs.2.1 (show 0 ≤ y / 64 % 48 + k2 by omega) (show y / 64 % 48 + k2 < 48 by omega)
                              refine z_iast E hv23 48 (fun _ => rfl) (by omega) (by omega) (by omega) dL_writes_381 ?_
                              obtain ⟨V36, hV36⟩ : ∃ Z : Vt, Z = up Vl_346 23 0 (updI (Vl_346 23 0) (((y / 13) % 48) + k2) (mc s (mS s x) (((y / 64) % 48) + k2))) := ⟨_, rfl⟩
                              rw [← hV36]
                              have hB36 : BV V36 := hV36 ▸ BV_up hBl_346 (by intro _; omega)
                              refine z_iinc E k2 dL_writes_382 (L' := [some (.ref (ad G 10 0)), some (.ref (ad G 16 0)), some (.ref (ad G 17 0)), some (.ref (ad G 18 0)), some (.ref (ad G 19 0)), some (.ref (ad G 20 0)), some (.ref (ad G 21 0)), some (.ref (ad G 22 0)), some (.int (iI way)), some (.int (iI y)), some (.int (iI br)), some (.int (iI (mS s (mh s br)))), some (.ref (ad G 23 0)), some (.int (iI x)), some (.int (iI ((y / 64) % 48))), some (.int (iI val)), some (.int (iI ((y / 13) % 48))), some (.int (iI mny)), some (.int (iI (k2 + 1)))]) (Nat.le_of_ble_eq_true rfl) rfl rfl ?_
                              refine z_goto E 346 dL_writes_385 rfl ?_
                              exact ih_346 (k2 + 1) V36 hB36 (by omega) (by omega) (by rw [hV36, hVm, up_s, upup]; congr 1; exact cpI_s hk20) (by omega)
                        exact lp_346_27 ((mny - 0 : Int).toNat + 1) 0 Vl_61 hBl_61 (by omega) (by omega) (by rw [cpI_0]; exact hVl) (Nat.lt_succ_self _)
                      · skip
                        refine z_iload E dL_writes_331 rfl ?_
                        refine z_goto E 338 dL_writes_333 rfl ?_
                        refine z_isub E dL_writes_338 ?_
                        refine z_irem E dL_writes_339 (by omega) (by omega) (by omega) (by omega) ?_
                        refine z_iadd E dL_writes_340 ?_
                        obtain ⟨mny, hx_mny⟩ : ∃ z : Int, z = 1 + ((y / 17) % (48 - ((y / 64) % 48))) := ⟨_, rfl⟩
                        rw [← hx_mny]
                        have hmny : 1 ≤ mny ∧ mny ≤ 48 - y / 64 % 48 ∧ mny ≤ 48 - y / 13 % 48 := by first | (have := emod_in (x := y / 17) (n := 48 - y / 64 % 48) (by omega); omega) | (have := emod_in (x := y / 17) (n := 48 - y / 13 % 48) (by omega); omega)
                        refine z_istore E dL_writes_341 (L' := [some (.ref (ad G 10 0)), some (.ref (ad G 16 0)), some (.ref (ad G 17 0)), some (.ref (ad G 18 0)), some (.ref (ad G 19 0)), some (.ref (ad G 20 0)), some (.ref (ad G 21 0)), some (.ref (ad G 22 0)), some (.int (iI way)), some (.int (iI y)), some (.int (iI br)), some (.int (iI (mS s (mh s br)))), some (.ref (ad G 23 0)), some (.int (iI x)), some (.int (iI ((y / 64) % 48))), some (.int (iI val)), some (.int (iI ((y / 13) % 48))), some (.int (iI mny)), none]) (Nat.le_of_ble_eq_true rfl) rfl ?_
                        refine z_iconst E dL_writes_343 ?_
                        refine z_istore E dL_writes_344 (L' := [some (.ref (ad G 10 0)), some (.ref (ad G 16 0)), some (.ref (ad G 17 0)), some (.ref (ad G 18 0)), some (.ref (ad G 19 0)), some (.ref (ad G 20 0)), some (.ref (ad G 21 0)), some (.ref (ad G 22 0)), some (.int (iI way)), some (.int (iI y)), some (.int (iI br)), some (.int (iI (mS s (mh s br)))), some (.ref (ad G 23 0)), some (.int (iI x)), some (.int (iI ((y / 64) % 48))), some (.int (iI val)), some (.int (iI ((y / 13) % 48))), some (.int (iI mny)), some (.int (iI 0))]) (Nat.le_of_ble_eq_true rfl) rfl ?_
                        have lp_346_37 : ∀ (fuel : Nat) (k2 : Int) (Vl_346 : Vt), BV Vl_346 → (0 ≤ k2) → (k2 ≤ mny) → (Vl_346 = up V 23 0 (cpI (fun c => mc s (mS s x) c) (mix (fun _ => 0) (fun c => mc s (mS s (mh s br)) c) 48) (y / 64 % 48) (y / 13 % 48) k2)) → (mny - k2 : Int).toNat < fuel → Kz X G P Vl_346 (0 + 1) (0 + 48) [some (.ref (ad G 10 0)), some (.ref (ad G 16 0)), some (.ref (ad G 17 0)), some (.ref (ad G 18 0)), some (.ref (ad G 19 0)), some (.ref (ad G 20 0)), some (.ref (ad G 21 0)), some (.ref (ad G 22 0)), some (.int (iI way)), some (.int (iI y)), some (.int (iI br)), some (.int (iI (mS s (mh s br)))), some (.ref (ad G 23 0)), some (.int (iI x)), some (.int (iI ((y / 64) % 48))), some (.int (iI val)), some (.int (iI ((y / 13) % 48))), some (.int (iI mny)), some (.int (iI k2))] 346 [] := by
                          intro fuel
                          induction fuel with
                          | zero => intro k2 Vl_346 hBl_346 hk20 hk21 hVm hf_346; exact absurd hf_346 (Nat.not_lt_zero _)
                          | succ fuel ih_346 =>
                            intro k2 Vl_346 hBl_346 hk20 hk21 hVm hf_346
                            have hE2 : ∀ r w, r ≠ 23 → Vl_346 r w = V r w := fun r w hr => by rw [hVm, up_r hr]
                            have hNm : LN Vl_346 s := hN.cg (fun r a b => hE2 r 0 (by omega))
                            have g16m : Vl_346 16 0 0 = V 16 0 0 := by rw [hE2 16 0 (by decide)]
                            refine z_iload E dL_writes_346 rfl ?_
                            refine z_iload E dL_writes_348 rfl ?_
                            refine z_icmp_ge E 388 dL_writes_350 rfl (by omega) (by omega) (fun c_38 => ?_) (fun c_38 => ?_)
                            · skip
                              have hcc : k2 = mny := by omega
                              rw [hcc] at hVm
                              have hE : ∀ r w, r ≠ 23 → Vl_346 r w = V r w := fun r w hr => by rw [hVm, up_r hr]
                              have hce9 : ∀ i, 0 ≤ i → i < 48 → Vl_346 23 0 i = cpI (fun c => mc s (mS s x) c) (fun c => mc s (mS s (mh s br)) c) (y / 64 % 48) (y / 13 % 48) mny i := fun i a b => by rw [hVm, up_s]; exact vC_m a b
                              have hcb := ceb_cp hce9 (fun c a b => hN.mc_bd hM hxs.1 hxs.2.1 a b) hgb (by omega) (by omega)
                              refine z_aload_n E dL_writes_388 1 rfl rfl ?_
                              refine z_aload_n E dL_writes_389 2 rfl rfl ?_
                              refine z_aload_n E dL_writes_390 3 rfl rfl ?_
                              refine z_aload E dL_writes_391 rfl ?_
                              refine z_aload E dL_writes_393 rfl ?_
                              refine z_aload E dL_writes_395 rfl ?_
                              refine z_aload E dL_writes_397 rfl ?_
                              refine z_iload E dL_writes_399 rfl ?_
                              refine z_aload E dL_writes_401 rfl ?_
                              refine z_callS E (n := 9) (st := []) [.ref (ad G 16 0), .ref (ad G 17 0), .ref (ad G 18 0), .ref (ad G 19 0), .ref (ad G 20 0), .ref (ad G 21 0), .ref (ad G 22 0), .int (iI br), .ref (ad G 23 0)] (kL_store l G P Vl_346 br s hBl_346 (hN.cg (fun r a b => hE r 0 (by omega))) hM hbr hhb (by omega) hcb hv23) gL_writes_L_store rfl ⟨rfl, rfl⟩ (by decide +kernel) ⟨Nat.le_of_ble_eq_true rfl, Nat.le_of_ble_eq_true rfl⟩ rfl rfl (Nat.le_of_ble_eq_true rfl) rfl dL_writes_403 (z_exI (fun r_39 P_39 V_39 h_39 => ?_)) (hN := ⟨Nat.le_of_ble_eq_true rfl, Nat.le_of_ble_eq_true rfl⟩)
                              obtain ⟨hP_39, hB_39, h_39⟩ := h_39
                              rw [hP_39]
                              obtain ⟨hfr9, ra, s9, ht9, hra9, hN9⟩ := h_39
                              have hC9 : LC P V_39 s := hC.law hB_39 (fun r w hr => by rw [hfr9 r w (by omega)]; exact hE r w (by omega))
                              have hru := trS_le hM ht9
                              refine z_istore E dL_writes_406 (L' := [some (.ref (ad G 10 0)), some (.ref (ad G 16 0)), some (.ref (ad G 17 0)), some (.ref (ad G 18 0)), some (.ref (ad G 19 0)), some (.ref (ad G 20 0)), some (.ref (ad G 21 0)), some (.ref (ad G 22 0)), some (.int (iI way)), some (.int (iI y)), some (.int (iI br)), some (.int (iI (mS s (mh s br)))), some (.ref (ad G 23 0)), some (.int (iI x)), some (.int (iI ((y / 64) % 48))), some (.int (iI val)), some (.int (iI ((y / 13) % 48))), some (.int (iI mny)), some (.int (iI r_39))]) (Nat.le_of_ble_eq_true rfl) rfl ?_
                              refine z_aload_n E dL_writes_408 0 rfl rfl ?_
                              refine z_iload E dL_writes_409 rfl ?_
                              refine z_iload E dL_writes_411 rfl ?_
                              refine z_iload E dL_writes_413 rfl ?_
                              refine z_iload E dL_writes_415 rfl ?_
                              refine z_iload E dL_writes_417 rfl ?_
                              refine z_callV E (ci := 5) (N := 4) (C := RX5) (T := TX5) (n := 5) (st := []) (rfl : vl G 10 0 = true) rfl rfl [.int (iI br), .int (iI x), .int (iI ((y / 64) % 48)), .int (iI ((y / 13) % 48)), .int (iI mny)] (kX5_copy l G P V_39 br x ((y / 64) % 48) ((y / 13) % 48) mny hC9.w0 hB_39 hC9.n0 hC9.n1 hC9.L hC9.U hC9.h5 hC9.cm hC9.w1 hC9.uw hC9.o hC9.z (by omega) (by omega) (by omega) (by omega) (by omega)) gL_writes_X5_copy rfl ⟨rfl, rfl⟩ (by decide +kernel) ⟨Nat.le_of_ble_eq_true rfl, Nat.le_of_ble_eq_true rfl⟩ rfl rfl (Nat.le_of_ble_eq_true rfl) rfl dL_writes_419 (z_exI (fun r_40 P_40 V_40 h_40 => ?_)) (hN := ⟨Nat.le_of_ble_eq_true rfl, Nat.le_of_ble_eq_true rfl⟩)
                              obtain ⟨sq, qq, hCq, hfq⟩ := o_copy hC9 sl h_40
                              have hB_40 := hCq.B
                              obtain ⟨er, es, hH9, hs9, hr9⟩ := t_co hM hbr.1 hbr.2 hhb hH hxs.1 (by omega) (by omega) (by omega) (by omega) qq ht9 hce9
                              subst es
                              refine z_iload E dL_writes_422 rfl ?_
                              refine z_if_ge E 432 dL_writes_424 rfl (by omega) (fun c_41 => ?_) (fun c_41 => ?_)
                              · skip
                                refine z_iload E dL_writes_432 rfl ?_
                                refine z_icne_e E (by omega) dL_writes_434 441 rfl ?_
                                refine z_iconst E dL_writes_437 ?_
                                refine z_goto E 442 dL_writes_438 rfl ?_
                                exact z_zret E Er0 dL_writes_442 (by first | decide | omega) (⟨rfl, sq, hCq, hN9.cg (fun r a b => hfq r 0 (by omega)), hH9, hs9⟩)
                              · skip
                                refine z_ldc E (-1000003) f1 rfl dL_writes_427 ?_
                                refine z_goto E 434 dL_writes_429 rfl ?_
                                refine z_icne_e E (by omega) dL_writes_434 441 rfl ?_
                                refine z_iconst E dL_writes_437 ?_
                                refine z_goto E 442 dL_writes_438 rfl ?_
                                exact z_zret E Er0 dL_writes_442 (by first | decide | omega) (⟨rfl, sq, hCq, hN9.cg (fun r a b => hfq r 0 (by omega)), hH9, hs9⟩)
                            · skip
                              refine z_aload E dL_writes_353 rfl ?_
                              refine z_iload E dL_writes_355 rfl ?_
                              refine z_iload E dL_writes_357 rfl ?_
                              refine z_iadd E dL_writes_359 ?_
                              refine z_aload E dL_writes_360 rfl ?_
                              refine z_aload E dL_writes_362 rfl ?_
                              refine z_aload E dL_writes_364 rfl ?_
                              refine z_aload_n E dL_writes_366 1 rfl rfl ?_
                              refine z_aload_n E dL_writes_367 3 rfl rfl ?_
                              refine z_iload E dL_writes_368 rfl ?_
                              refine z_callS E (n := 3) (st := [.ref (ad G 22 0), .ref (ad G 21 0), .ref (ad G 20 0), .int (iI (((y / 13) % 48) + k2)), .ref (ad G 23 0)]) [.ref (ad G 16 0), .ref (ad G 18 0), .int (iI x)] (kL_find l G P Vl_346 x hBl_346 (by omega) (by omega)) gL_writes_L_find rfl ⟨rfl, rfl⟩ (by decide +kernel) ⟨Nat.le_of_ble_eq_true rfl, Nat.le_of_ble_eq_true rfl⟩ rfl rfl (Nat.le_of_ble_eq_true rfl) rfl dL_writes_370 (z_dtI ?_) (hN := ⟨Nat.le_of_ble_eq_true rfl, Nat.le_of_ble_eq_true rfl⟩)
                              rw [hNm.find]
                              refine z_iload E dL_writes_373 rfl ?_
                              refine z_iload E dL_writes_375 rfl ?_
                              refine z_iadd E dL_writes_377 ?_
                              refine z_callS E (n := 5) (st := [.int (iI (((y / 13) % 48) + k2)), .ref (ad G 23 0)]) [.ref (ad G 20 0), .ref (ad G 21 0), .ref (ad G 22 0), .int (iI (mS s x)), .int (iI (((y / 64) % 48) + k2))] (kL_read l G P Vl_346 (mS s x) (((y / 64) % 48) + k2) (by omega) (by omega) hNm.vr hNm.va hNm.vb (hNm.th hM hxs.1 hxs.2.1 (by omega) (by omega))) gL_writes_L_read rfl ⟨rfl, rfl⟩ (by decide +kernel) ⟨Nat.le_of_ble_eq_true rfl, Nat.le_of_ble_eq_true rfl⟩ rfl rfl (Nat.le_of_ble_eq_true rfl) rfl dL_writes_378 (z_dtI ?_) (hN := ⟨Nat.le_of_ble_eq_true rfl, Nat.le_of_ble_eq_true rfl⟩)
                              rw [hNm.cell hM hxs.1 hxs.2.1 (by omega) (by omega)]
                              have bc_378 := hN.mc_bd hM hxs.1 hxs.2.1 (show 0 ≤ y / 64 % 48 + k2 by omega) (show y / 64 % 48 + k2 < 48 by omega)
                              refine z_iast E hv23 48 (fun _ => rfl) (by omega) (by omega) (by omega) dL_writes_381 ?_
                              obtain ⟨V46, hV46⟩ : ∃ Z : Vt, Z = up Vl_346 23 0 (updI (Vl_346 23 0) (((y / 13) % 48) + k2) (mc s (mS s x) (((y / 64) % 48) + k2))) := ⟨_, rfl⟩
                              rw [← hV46]
                              have hB46 : BV V46 := hV46 ▸ BV_up hBl_346 (by intro _; omega)
                              refine z_iinc E k2 dL_writes_382 (L' := [some (.ref (ad G 10 0)), some (.ref (ad G 16 0)), some (.ref (ad G 17 0)), some (.ref (ad G 18 0)), some (.ref (ad G 19 0)), some (.ref (ad G 20 0)), some (.ref (ad G 21 0)), some (.ref (ad G 22 0)), some (.int (iI way)), some (.int (iI y)), some (.int (iI br)), some (.int (iI (mS s (mh s br)))), some (.ref (ad G 23 0)), some (.int (iI x)), some (.int (iI ((y / 64) % 48))), some (.int (iI val)), some (.int (iI ((y / 13) % 48))), some (.int (iI mny)), some (.int (iI (k2 + 1)))]) (Nat.le_of_ble_eq_true rfl) rfl rfl ?_
                              refine z_goto E 346 dL_writes_385 rfl ?_
                              exact ih_346 (k2 + 1) V46 hB46 (by omega) (by omega) (by rw [hV46, hVm, up_s, upup]; congr 1; exact cpI_s hk20) (by omega)
                        exact lp_346_37 ((mny - 0 : Int).toNat + 1) 0 Vl_61 hBl_61 (by omega) (by omega) (by rw [cpI_0]; exact hVl) (Nat.lt_succ_self _)
                  · skip
                    refine z_iconst E dL_writes_205 ?_
                    refine z_iload E dL_writes_206 rfl ?_
                    refine z_bipush E dL_writes_208 rfl ?_
                    refine z_idiv E dL_writes_210 (by omega) (by omega) (by decide) (by decide) ?_
                    refine z_bipush E dL_writes_211 rfl ?_
                    refine z_iload E dL_writes_213 rfl ?_
                    refine z_isub E dL_writes_215 ?_
                    refine z_irem E dL_writes_216 (by omega) (by omega) (by omega) (by omega) ?_
                    refine z_iadd E dL_writes_217 ?_
                    obtain ⟨mny, hx_mny⟩ : ∃ z : Int, z = 1 + ((y / 11) % (48 - ((y / 64) % 48))) := ⟨_, rfl⟩
                    rw [← hx_mny]
                    have hmn := emod_in (x := y / 11) (n := 48 - y / 64 % 48) (by omega)
                    have hmny : 1 ≤ mny ∧ mny ≤ 48 - y / 64 % 48 := by omega
                    refine z_istore E dL_writes_218 (L' := [some (.ref (ad G 10 0)), some (.ref (ad G 16 0)), some (.ref (ad G 17 0)), some (.ref (ad G 18 0)), some (.ref (ad G 19 0)), some (.ref (ad G 20 0)), some (.ref (ad G 21 0)), some (.ref (ad G 22 0)), some (.int (iI way)), some (.int (iI y)), some (.int (iI br)), some (.int (iI (mS s (mh s br)))), some (.ref (ad G 23 0)), some (.int (iI x)), some (.int (iI ((y / 64) % 48))), some (.int (iI val)), some (.int (iI mny)), none, none]) (Nat.le_of_ble_eq_true rfl) rfl ?_
                    refine z_iload E dL_writes_220 rfl ?_
                    refine z_istore E dL_writes_222 (L' := [some (.ref (ad G 10 0)), some (.ref (ad G 16 0)), some (.ref (ad G 17 0)), some (.ref (ad G 18 0)), some (.ref (ad G 19 0)), some (.ref (ad G 20 0)), some (.ref (ad G 21 0)), some (.ref (ad G 22 0)), some (.int (iI way)), some (.int (iI y)), some (.int (iI br)), some (.int (iI (mS s (mh s br)))), some (.ref (ad G 23 0)), some (.int (iI x)), some (.int (iI ((y / 64) % 48))), some (.int (iI val)), some (.int (iI mny)), some (.int (iI ((y / 64) % 48))), none]) (Nat.le_of_ble_eq_true rfl) rfl ?_
                    have lp_224_47 : ∀ (fuel : Nat) (c : Int) (Vl_224 : Vt), BV Vl_224 → (y / 64 % 48 ≤ c) → (c ≤ y / 64 % 48 + mny) → (Vl_224 = up V 23 0 (flI (mix (fun _ => 0) (fun c => mc s (mS s (mh s br)) c) 48) (y / 64 % 48) (c - y / 64 % 48) val)) → (y / 64 % 48 + mny - c : Int).toNat < fuel → Kz X G P Vl_224 (0 + 1) (0 + 48) [some (.ref (ad G 10 0)), some (.ref (ad G 16 0)), some (.ref (ad G 17 0)), some (.ref (ad G 18 0)), some (.ref (ad G 19 0)), some (.ref (ad G 20 0)), some (.ref (ad G 21 0)), some (.ref (ad G 22 0)), some (.int (iI way)), some (.int (iI y)), some (.int (iI br)), some (.int (iI (mS s (mh s br)))), some (.ref (ad G 23 0)), some (.int (iI x)), some (.int (iI ((y / 64) % 48))), some (.int (iI val)), some (.int (iI mny)), some (.int (iI c)), none] 224 [] := by
                      intro fuel
                      induction fuel with
                      | zero => intro c Vl_224 hBl_224 hc0 hc1 hVm hf_224; exact absurd hf_224 (Nat.not_lt_zero _)
                      | succ fuel ih_224 =>
                        intro c Vl_224 hBl_224 hc0 hc1 hVm hf_224
                        refine z_iload E dL_writes_224 rfl ?_
                        refine z_iload E dL_writes_226 rfl ?_
                        refine z_iload E dL_writes_228 rfl ?_
                        refine z_iadd E dL_writes_230 ?_
                        refine z_icmp_ge E 247 dL_writes_231 rfl (by omega) (by omega) (fun c_48 => ?_) (fun c_48 => ?_)
                        · skip
                          have hcc : c - y / 64 % 48 = mny := by omega
                          rw [hcc] at hVm
                          have hE : ∀ r w, r ≠ 23 → Vl_224 r w = V r w := fun r w hr => by rw [hVm, up_r hr]
                          have hce9 : ∀ i, 0 ≤ i → i < 48 → Vl_224 23 0 i = flI (fun c => mc s (mS s (mh s br)) c) (y / 64 % 48) mny val i := fun i a b => by rw [hVm, up_s]; exact vF_m a b
                          have hcb := ceb_fl hce9 hgb (by omega)
                          refine z_aload_n E dL_writes_247 1 rfl rfl ?_
                          refine z_aload_n E dL_writes_248 2 rfl rfl ?_
                          refine z_aload_n E dL_writes_249 3 rfl rfl ?_
                          refine z_aload E dL_writes_250 rfl ?_
                          refine z_aload E dL_writes_252 rfl ?_
                          refine z_aload E dL_writes_254 rfl ?_
                          refine z_aload E dL_writes_256 rfl ?_
                          refine z_iload E dL_writes_258 rfl ?_
                          refine z_aload E dL_writes_260 rfl ?_
                          refine z_callS E (n := 9) (st := []) [.ref (ad G 16 0), .ref (ad G 17 0), .ref (ad G 18 0), .ref (ad G 19 0), .ref (ad G 20 0), .ref (ad G 21 0), .ref (ad G 22 0), .int (iI br), .ref (ad G 23 0)] (kL_store l G P Vl_224 br s hBl_224 (hN.cg (fun r a b => hE r 0 (by omega))) hM hbr hhb (by omega) hcb hv23) gL_writes_L_store rfl ⟨rfl, rfl⟩ (by decide +kernel) ⟨Nat.le_of_ble_eq_true rfl, Nat.le_of_ble_eq_true rfl⟩ rfl rfl (Nat.le_of_ble_eq_true rfl) rfl dL_writes_262 (z_exI (fun r_49 P_49 V_49 h_49 => ?_)) (hN := ⟨Nat.le_of_ble_eq_true rfl, Nat.le_of_ble_eq_true rfl⟩)
                          obtain ⟨hP_49, hB_49, h_49⟩ := h_49
                          rw [hP_49]
                          obtain ⟨hfr9, ra, s9, ht9, hra9, hN9⟩ := h_49
                          have hC9 : LC P V_49 s := hC.law hB_49 (fun r w hr => by rw [hfr9 r w (by omega)]; exact hE r w (by omega))
                          have hru := trS_le hM ht9
                          refine z_istore E dL_writes_265 (L' := [some (.ref (ad G 10 0)), some (.ref (ad G 16 0)), some (.ref (ad G 17 0)), some (.ref (ad G 18 0)), some (.ref (ad G 19 0)), some (.ref (ad G 20 0)), some (.ref (ad G 21 0)), some (.ref (ad G 22 0)), some (.int (iI way)), some (.int (iI y)), some (.int (iI br)), some (.int (iI (mS s (mh s br)))), some (.ref (ad G 23 0)), some (.int (iI x)), some (.int (iI ((y / 64) % 48))), some (.int (iI val)), some (.int (iI mny)), some (.int (iI r_49)), none]) (Nat.le_of_ble_eq_true rfl) rfl ?_
                          refine z_aload_n E dL_writes_267 0 rfl rfl ?_
                          refine z_iload E dL_writes_268 rfl ?_
                          refine z_iload E dL_writes_270 rfl ?_
                          refine z_iload E dL_writes_272 rfl ?_
                          refine z_iload E dL_writes_274 rfl ?_
                          refine z_callV E (ci := 5) (N := 4) (C := RX5) (T := TX5) (n := 4) (st := []) (rfl : vl G 10 0 = true) rfl rfl [.int (iI br), .int (iI ((y / 64) % 48)), .int (iI mny), .int (iI val)] (kX5_fill l G P V_49 br ((y / 64) % 48) mny val hC9.w0 hB_49 hC9.n0 hC9.n1 hC9.L hC9.U hC9.h5 hC9.cm hC9.w1 hC9.uw hC9.o hC9.z (by omega) (by omega) (by omega) (by omega)) gL_writes_X5_fill rfl ⟨rfl, rfl⟩ (by decide +kernel) ⟨Nat.le_of_ble_eq_true rfl, Nat.le_of_ble_eq_true rfl⟩ rfl rfl (Nat.le_of_ble_eq_true rfl) rfl dL_writes_276 (z_exI (fun r_50 P_50 V_50 h_50 => ?_)) (hN := ⟨Nat.le_of_ble_eq_true rfl, Nat.le_of_ble_eq_true rfl⟩)
                          obtain ⟨sq, qq, hCq, hfq⟩ := o_fill hC9 sl h_50
                          have hB_50 := hCq.B
                          obtain ⟨er, es, hH9, hs9, hr9⟩ := t_fi hM hbr.1 hbr.2 hhb hH (by omega) (by omega) (by omega) qq ht9 hce9
                          subst es
                          refine z_iload E dL_writes_279 rfl ?_
                          refine z_if_ge E 289 dL_writes_281 rfl (by omega) (fun c_51 => ?_) (fun c_51 => ?_)
                          · skip
                            refine z_iload E dL_writes_289 rfl ?_
                            refine z_icne_e E (by omega) dL_writes_291 298 rfl ?_
                            refine z_iconst E dL_writes_294 ?_
                            refine z_goto E 299 dL_writes_295 rfl ?_
                            exact z_zret E Er0 dL_writes_299 (by first | decide | omega) (⟨rfl, sq, hCq, hN9.cg (fun r a b => hfq r 0 (by omega)), hH9, hs9⟩)
                          · skip
                            refine z_ldc E (-1000003) f1 rfl dL_writes_284 ?_
                            refine z_goto E 291 dL_writes_286 rfl ?_
                            refine z_icne_e E (by omega) dL_writes_291 298 rfl ?_
                            refine z_iconst E dL_writes_294 ?_
                            refine z_goto E 299 dL_writes_295 rfl ?_
                            exact z_zret E Er0 dL_writes_299 (by first | decide | omega) (⟨rfl, sq, hCq, hN9.cg (fun r a b => hfq r 0 (by omega)), hH9, hs9⟩)
                        · skip
                          refine z_aload E dL_writes_234 rfl ?_
                          refine z_iload E dL_writes_236 rfl ?_
                          refine z_iload E dL_writes_238 rfl ?_
                          refine z_iast E hv23 48 (fun _ => rfl) (by omega) (by omega) (by omega) dL_writes_240 ?_
                          obtain ⟨V54, hV54⟩ : ∃ Z : Vt, Z = up Vl_224 23 0 (updI (Vl_224 23 0) c val) := ⟨_, rfl⟩
                          rw [← hV54]
                          have hB54 : BV V54 := hV54 ▸ BV_up hBl_224 (by intro _; omega)
                          refine z_iinc E c dL_writes_241 (L' := [some (.ref (ad G 10 0)), some (.ref (ad G 16 0)), some (.ref (ad G 17 0)), some (.ref (ad G 18 0)), some (.ref (ad G 19 0)), some (.ref (ad G 20 0)), some (.ref (ad G 21 0)), some (.ref (ad G 22 0)), some (.int (iI way)), some (.int (iI y)), some (.int (iI br)), some (.int (iI (mS s (mh s br)))), some (.ref (ad G 23 0)), some (.int (iI x)), some (.int (iI ((y / 64) % 48))), some (.int (iI val)), some (.int (iI mny)), some (.int (iI (c + 1))), none]) (Nat.le_of_ble_eq_true rfl) rfl rfl ?_
                          refine z_goto E 224 dL_writes_244 rfl ?_
                          exact ih_224 (c + 1) V54 hB54 (by omega) (by omega) (by rw [hV54, hVm, up_s, upup, fl_i hc0]) (by omega)
                    exact lp_224_47 ((y / 64 % 48 + mny - ((y / 64) % 48) : Int).toNat + 1) ((y / 64) % 48) Vl_61 hBl_61 (by omega) (by omega) (by rw [Int.sub_self, flI_0]; exact hVl) (Nat.lt_succ_self _)
                · skip
                  refine z_aload E dL_writes_141 rfl ?_
                  refine z_iload E dL_writes_143 rfl ?_
                  refine z_iload E dL_writes_145 rfl ?_
                  refine z_iast E hv23 48 (fun _ => rfl) (by omega) (by omega) (by omega) dL_writes_147 ?_
                  obtain ⟨V55, hV55⟩ : ∃ Z : Vt, Z = up Vl_61 23 0 (updI (Vl_61 23 0) ((y / 64) % 48) val) := ⟨_, rfl⟩
                  rw [← hV55]
                  have hB55 : BV V55 := hV55 ▸ BV_up hBl_61 (by intro _; omega)
                  have hE : ∀ r w, r ≠ 23 → V55 r w = V r w := fun r w hr => by rw [hV55, up_r hr, hVl, up_r hr]
                  have hce9 : ∀ i, 0 ≤ i → i < 48 → V55 23 0 i = flI (fun c => mc s (mS s (mh s br)) c) (y / 64 % 48) 1 val i := fun i a b => by rw [hV55, up_s, hVl, up_s]; exact vF_1 a b
                  have hcb := ceb_fl hce9 hgb (by omega)
                  refine z_aload_n E dL_writes_148 1 rfl rfl ?_
                  refine z_aload_n E dL_writes_149 2 rfl rfl ?_
                  refine z_aload_n E dL_writes_150 3 rfl rfl ?_
                  refine z_aload E dL_writes_151 rfl ?_
                  refine z_aload E dL_writes_153 rfl ?_
                  refine z_aload E dL_writes_155 rfl ?_
                  refine z_aload E dL_writes_157 rfl ?_
                  refine z_iload E dL_writes_159 rfl ?_
                  refine z_aload E dL_writes_161 rfl ?_
                  refine z_callS E (n := 9) (st := []) [.ref (ad G 16 0), .ref (ad G 17 0), .ref (ad G 18 0), .ref (ad G 19 0), .ref (ad G 20 0), .ref (ad G 21 0), .ref (ad G 22 0), .int (iI br), .ref (ad G 23 0)] (kL_store l G P V55 br s hB55 (hN.cg (fun r a b => hE r 0 (by omega))) hM hbr hhb (by omega) hcb hv23) gL_writes_L_store rfl ⟨rfl, rfl⟩ (by decide +kernel) ⟨Nat.le_of_ble_eq_true rfl, Nat.le_of_ble_eq_true rfl⟩ rfl rfl (Nat.le_of_ble_eq_true rfl) rfl dL_writes_163 (z_exI (fun r_56 P_56 V_56 h_56 => ?_)) (hN := ⟨Nat.le_of_ble_eq_true rfl, Nat.le_of_ble_eq_true rfl⟩)
                  obtain ⟨hP_56, hB_56, h_56⟩ := h_56
                  rw [hP_56]
                  obtain ⟨hfr9, ra, s9, ht9, hra9, hN9⟩ := h_56
                  have hC9 : LC P V_56 s := hC.law hB_56 (fun r w hr => by rw [hfr9 r w (by omega)]; exact hE r w (by omega))
                  have hru := trS_le hM ht9
                  refine z_istore E dL_writes_166 (L' := [some (.ref (ad G 10 0)), some (.ref (ad G 16 0)), some (.ref (ad G 17 0)), some (.ref (ad G 18 0)), some (.ref (ad G 19 0)), some (.ref (ad G 20 0)), some (.ref (ad G 21 0)), some (.ref (ad G 22 0)), some (.int (iI way)), some (.int (iI y)), some (.int (iI br)), some (.int (iI (mS s (mh s br)))), some (.ref (ad G 23 0)), some (.int (iI x)), some (.int (iI ((y / 64) % 48))), some (.int (iI val)), some (.int (iI r_56)), none, none]) (Nat.le_of_ble_eq_true rfl) rfl ?_
                  refine z_aload_n E dL_writes_168 0 rfl rfl ?_
                  refine z_iload E dL_writes_169 rfl ?_
                  refine z_iload E dL_writes_171 rfl ?_
                  refine z_iload E dL_writes_173 rfl ?_
                  refine z_callV E (ci := 5) (N := 4) (C := RX5) (T := TX5) (n := 3) (st := []) (rfl : vl G 10 0 = true) rfl rfl [.int (iI br), .int (iI ((y / 64) % 48)), .int (iI val)] (kX5_write l G P V_56 br ((y / 64) % 48) val hC9.w0 hB_56 hC9.n0 hC9.n1 hC9.L hC9.U hC9.h5 hC9.cm hC9.w1 hC9.uw hC9.o hC9.z (by omega) (by omega) (by omega)) gL_writes_X5_write rfl ⟨rfl, rfl⟩ (by decide +kernel) ⟨Nat.le_of_ble_eq_true rfl, Nat.le_of_ble_eq_true rfl⟩ rfl rfl (Nat.le_of_ble_eq_true rfl) rfl dL_writes_175 (z_exI (fun r_57 P_57 V_57 h_57 => ?_)) (hN := ⟨Nat.le_of_ble_eq_true rfl, Nat.le_of_ble_eq_true rfl⟩)
                  obtain ⟨sq, qq, hCq, hfq⟩ := o_fill hC9 sl h_57
                  have hB_57 := hCq.B
                  obtain ⟨er, es, hH9, hs9, hr9⟩ := t_fi hM hbr.1 hbr.2 hhb hH (by omega) (by omega) (by omega) qq ht9 hce9
                  subst es
                  refine z_iload E dL_writes_178 rfl ?_
                  refine z_if_ge E 188 dL_writes_180 rfl (by omega) (fun c_58 => ?_) (fun c_58 => ?_)
                  · skip
                    refine z_iload E dL_writes_188 rfl ?_
                    refine z_icne_e E (by omega) dL_writes_190 197 rfl ?_
                    refine z_iconst E dL_writes_193 ?_
                    refine z_goto E 198 dL_writes_194 rfl ?_
                    exact z_zret E Er0 dL_writes_198 (by first | decide | omega) (⟨rfl, sq, hCq, hN9.cg (fun r a b => hfq r 0 (by omega)), hH9, hs9⟩)
                  · skip
                    refine z_ldc E (-1000003) f1 rfl dL_writes_183 ?_
                    refine z_goto E 190 dL_writes_185 rfl ?_
                    refine z_icne_e E (by omega) dL_writes_190 197 rfl ?_
                    refine z_iconst E dL_writes_193 ?_
                    refine z_goto E 198 dL_writes_194 rfl ?_
                    exact z_zret E Er0 dL_writes_198 (by first | decide | omega) (⟨rfl, sq, hCq, hN9.cg (fun r a b => hfq r 0 (by omega)), hH9, hs9⟩)
              · skip
                refine z_sipush E dL_writes_126 rfl ?_
                refine z_goto E 133 dL_writes_129 rfl ?_
                refine z_irem E dL_writes_133 (by omega) (by omega) (by decide) (by decide) ?_
                obtain ⟨val, hx_val⟩ : ∃ z : Int, z = (y / 7) % 1000 := ⟨_, rfl⟩
                rw [← hx_val]
                have hval : 0 ≤ val ∧ val ≤ 999 := by omega
                refine z_istore E dL_writes_134 (L' := [some (.ref (ad G 10 0)), some (.ref (ad G 16 0)), some (.ref (ad G 17 0)), some (.ref (ad G 18 0)), some (.ref (ad G 19 0)), some (.ref (ad G 20 0)), some (.ref (ad G 21 0)), some (.ref (ad G 22 0)), some (.int (iI way)), some (.int (iI y)), some (.int (iI br)), some (.int (iI (mS s (mh s br)))), some (.ref (ad G 23 0)), some (.int (iI x)), some (.int (iI ((y / 64) % 48))), some (.int (iI val)), none, none, none]) (Nat.le_of_ble_eq_true rfl) rfl ?_
                refine z_iload E dL_writes_136 rfl ?_
                refine z_if_ne E 199 dL_writes_138 rfl (by omega) (fun c_61 => ?_) (fun c_61 => ?_)
                · skip
                  refine z_iload E dL_writes_199 rfl ?_
                  refine z_iconst E dL_writes_201 ?_
                  refine z_icmp_ne E 300 dL_writes_202 rfl (by omega) (by omega) (fun c_62 => ?_) (fun c_62 => ?_)
                  · skip
                    refine z_iload E dL_writes_300 rfl ?_
                    refine z_iconst E dL_writes_302 ?_
                    refine z_icmp_ne E 443 dL_writes_303 rfl (by omega) (by omega) (fun c_63 => ?_) (fun c_63 => ?_)
                    · skip
                      refine z_aload_n E dL_writes_443 1 rfl rfl ?_
                      refine z_aload_n E dL_writes_444 2 rfl rfl ?_
                      refine z_aload_n E dL_writes_445 3 rfl rfl ?_
                      refine z_aload E dL_writes_446 rfl ?_
                      refine z_aload E dL_writes_448 rfl ?_
                      refine z_aload E dL_writes_450 rfl ?_
                      refine z_aload E dL_writes_452 rfl ?_
                      refine z_iload E dL_writes_454 rfl ?_
                      refine z_iload E dL_writes_456 rfl ?_
                      refine z_aload E dL_writes_458 rfl ?_
                      refine z_callS E (n := 10) (st := []) [.ref (ad G 16 0), .ref (ad G 17 0), .ref (ad G 18 0), .ref (ad G 19 0), .ref (ad G 20 0), .ref (ad G 21 0), .ref (ad G 22 0), .int (iI br), .int (iI x), .ref (ad G 23 0)] (kL_merge l G P Vl_61 br x s hBl_61 hNl hM hbr hhb hxs.1 (by omega) (by omega) hv23) gL_writes_L_merge rfl ⟨rfl, rfl⟩ (by decide +kernel) ⟨Nat.le_of_ble_eq_true rfl, Nat.le_of_ble_eq_true rfl⟩ rfl rfl (Nat.le_of_ble_eq_true rfl) rfl dL_writes_460 (z_exI (fun r_64 P_64 V_64 h_64 => ?_)) (hN := ⟨Nat.le_of_ble_eq_true rfl, Nat.le_of_ble_eq_true rfl⟩)
                      obtain ⟨hP_64, hB_64, h_64⟩ := h_64
                      rw [hP_64]
                      obtain ⟨hrm, hfm, hce9⟩ := h_64
                      have hE : ∀ r w, r ≠ 23 → V_64 r w = V r w := fun r w hr => by rw [hfm r w (fun z => hr z.1), hVl, up_r hr]
                      have hcb := ceb_mg hce9 hgb (fun c a b => hN.mc_bd hM hxs.1 hxs.2.1 a b)
                      refine z_istore E dL_writes_463 (L' := [some (.ref (ad G 10 0)), some (.ref (ad G 16 0)), some (.ref (ad G 17 0)), some (.ref (ad G 18 0)), some (.ref (ad G 19 0)), some (.ref (ad G 20 0)), some (.ref (ad G 21 0)), some (.ref (ad G 22 0)), some (.int (iI way)), some (.int (iI y)), some (.int (iI br)), some (.int (iI (mS s (mh s br)))), some (.ref (ad G 23 0)), some (.int (iI x)), some (.int (iI ((y / 64) % 48))), some (.int (iI val)), some (.int (iI r_64)), none, none]) (Nat.le_of_ble_eq_true rfl) rfl ?_
                      refine z_aload_n E dL_writes_465 1 rfl rfl ?_
                      refine z_aload_n E dL_writes_466 2 rfl rfl ?_
                      refine z_aload_n E dL_writes_467 3 rfl rfl ?_
                      refine z_aload E dL_writes_468 rfl ?_
                      refine z_aload E dL_writes_470 rfl ?_
                      refine z_aload E dL_writes_472 rfl ?_
                      refine z_aload E dL_writes_474 rfl ?_
                      refine z_iload E dL_writes_476 rfl ?_
                      refine z_aload E dL_writes_478 rfl ?_
                      refine z_callS E (n := 9) (st := []) [.ref (ad G 16 0), .ref (ad G 17 0), .ref (ad G 18 0), .ref (ad G 19 0), .ref (ad G 20 0), .ref (ad G 21 0), .ref (ad G 22 0), .int (iI br), .ref (ad G 23 0)] (kL_store l G P V_64 br s hB_64 (hN.cg (fun r a b => hE r 0 (by omega))) hM hbr hhb (by omega) hcb hv23) gL_writes_L_store rfl ⟨rfl, rfl⟩ (by decide +kernel) ⟨Nat.le_of_ble_eq_true rfl, Nat.le_of_ble_eq_true rfl⟩ rfl rfl (Nat.le_of_ble_eq_true rfl) rfl dL_writes_480 (z_exI (fun r_65 P_65 V_65 h_65 => ?_)) (hN := ⟨Nat.le_of_ble_eq_true rfl, Nat.le_of_ble_eq_true rfl⟩)
                      obtain ⟨hP_65, hB_65, h_65⟩ := h_65
                      rw [hP_65]
                      obtain ⟨hfr9, ra, s9, ht9, hra9, hN9⟩ := h_65
                      have hC9 : LC P V_65 s := hC.law hB_65 (fun r w hr => by rw [hfr9 r w (by omega)]; exact hE r w (by omega))
                      have hru := trS_le hM ht9
                      refine z_istore E dL_writes_483 (L' := [some (.ref (ad G 10 0)), some (.ref (ad G 16 0)), some (.ref (ad G 17 0)), some (.ref (ad G 18 0)), some (.ref (ad G 19 0)), some (.ref (ad G 20 0)), some (.ref (ad G 21 0)), some (.ref (ad G 22 0)), some (.int (iI way)), some (.int (iI y)), some (.int (iI br)), some (.int (iI (mS s (mh s br)))), some (.ref (ad G 23 0)), some (.int (iI x)), some (.int (iI ((y / 64) % 48))), some (.int (iI val)), some (.int (iI r_64)), some (.int (iI r_65)), none]) (Nat.le_of_ble_eq_true rfl) rfl ?_
                      refine z_aload_n E dL_writes_485 1 rfl rfl ?_
                      refine z_iconst E dL_writes_486 ?_
                      refine z_dup2 E dL_writes_487 rfl rfl ?_
                      refine z_iald E (rfl : vl G 16 0 = true) 6 rfl (by omega) (by omega) (by omega) dL_writes_488 ?_
                      refine z_iload E dL_writes_489 rfl ?_
                      refine z_if_ge E 498 dL_writes_491 rfl (by omega) (fun c_66 => ?_) (fun c_66 => ?_)
                      · skip
                        refine z_iload E dL_writes_498 rfl ?_
                        refine z_iadd E dL_writes_500 ?_
                        refine z_iast E (rfl : vl G 16 0 = true) 6 (fun _ => rfl) (by omega) (by omega) (by omega) dL_writes_501 ?_
                        obtain ⟨V67, hV67⟩ : ∃ Z : Vt, Z = up V_65 16 0 (updI (V_65 16 0) 4 ((V_65 16 0 4) + r_64)) := ⟨_, rfl⟩
                        rw [← hV67]
                        have hB67 : BV V67 := hV67 ▸ BV_up hB_65 (fun hz => absurd (by simp [ctr]) hz)
                        have hC10 : LC P V67 s := hC9.law hB67 (fun r w hr => by rw [hV67, up_r (by omega)])
                        have hN10 := LN_4 (V' := V67) hN9 (by rw [hV67, up_s]) (fun r a b => by rw [hV67, up_r (by omega)])
                        rw [hN9.g 4 (by omega) (by omega)] at hN10
                        refine z_aload_n E dL_writes_502 0 rfl rfl ?_
                        refine z_iload E dL_writes_503 rfl ?_
                        refine z_iload E dL_writes_505 rfl ?_
                        refine z_callV E (ci := 5) (N := 4) (C := RX5) (T := TX5) (n := 2) (st := []) (rfl : vl G 10 0 = true) rfl rfl [.int (iI br), .int (iI x)] (kX5_merge l G P V67 br x hC10.w0 hB67 hC10.n0 hC10.n1 hC10.L hC10.U hC10.h5 hC10.cm hC10.w1 hC10.uw hC10.o hC10.z (by omega) (by omega)) gL_writes_X5_merge rfl ⟨rfl, rfl⟩ (by decide +kernel) ⟨Nat.le_of_ble_eq_true rfl, Nat.le_of_ble_eq_true rfl⟩ rfl rfl (Nat.le_of_ble_eq_true rfl) rfl dL_writes_507 (z_exI (fun r_68 P_68 V_68 h_68 => ?_)) (hN := ⟨Nat.le_of_ble_eq_true rfl, Nat.le_of_ble_eq_true rfl⟩)
                        obtain ⟨sq, qq, hCq, hfq⟩ := o_merge hC10 sl h_68
                        have hB_68 := hCq.B
                        obtain ⟨hH9, hs9, hd9⟩ := t_me hM hbr.1 hbr.2 hhb hH hxs.1 qq ht9 hce9
                        have hm1 : ra < 0 → r_68 = -1000003 := fun z => by rcases hd9 with w | w <;> omega
                        have hm2 : 0 ≤ ra → r_68 = mgN s br x := fun z => by rcases hd9 with w | w <;> omega
                        have hm3 : ra < 0 → sq = s9 := fun z => by rcases hd9 with w | w; exact w.2.2; (exfalso; omega)
                        have hm4 : 0 ≤ ra → sq = updI s9 4 (s9 4 + mgN s br x) := fun z => by rcases hd9 with w | w; (exfalso; omega); exact w.2.2
                        refine z_iload E dL_writes_510 rfl ?_
                        refine z_if_ge E 520 dL_writes_512 rfl (by omega) (fun c_69 => ?_) (fun c_69 => ?_)
                        · skip
                          refine z_iload E dL_writes_520 rfl ?_
                          refine z_icne_e E (by omega) dL_writes_522 529 rfl ?_
                          refine z_iconst E dL_writes_525 ?_
                          refine z_goto E 530 dL_writes_526 rfl ?_
                          exact z_zret E Er0 dL_writes_530 (by first | decide | omega) (by first | (have e := hm3 (by omega); rw [Int.add_zero, updI_id] at hN10; subst e; exact ⟨rfl, sq, hCq, hN10.cg (fun r a b => hfq r 0 (by omega)), hH9, hs9⟩) | (have e := hm4 (by omega); rw [hrm] at hN10; subst e; exact ⟨rfl, _, hCq, hN10.cg (fun r a b => hfq r 0 (by omega)), HBr_4 hH9, by rw [updI_n (by omega)]; exact hs9⟩))
                        · skip
                          refine z_ldc E (-1000003) f1 rfl dL_writes_515 ?_
                          refine z_goto E 522 dL_writes_517 rfl ?_
                          refine z_icne_e E (by omega) dL_writes_522 529 rfl ?_
                          refine z_iconst E dL_writes_525 ?_
                          refine z_goto E 530 dL_writes_526 rfl ?_
                          exact z_zret E Er0 dL_writes_530 (by first | decide | omega) (by first | (have e := hm3 (by omega); rw [Int.add_zero, updI_id] at hN10; subst e; exact ⟨rfl, sq, hCq, hN10.cg (fun r a b => hfq r 0 (by omega)), hH9, hs9⟩) | (have e := hm4 (by omega); rw [hrm] at hN10; subst e; exact ⟨rfl, _, hCq, hN10.cg (fun r a b => hfq r 0 (by omega)), HBr_4 hH9, by rw [updI_n (by omega)]; exact hs9⟩))
                      · skip
                        refine z_iconst E dL_writes_494 ?_
                        refine z_goto E 500 dL_writes_495 rfl ?_
                        refine z_iadd E dL_writes_500 ?_
                        refine z_iast E (rfl : vl G 16 0 = true) 6 (fun _ => rfl) (by omega) (by omega) (by omega) dL_writes_501 ?_
                        obtain ⟨V72, hV72⟩ : ∃ Z : Vt, Z = up V_65 16 0 (updI (V_65 16 0) 4 ((V_65 16 0 4) + 0)) := ⟨_, rfl⟩
                        rw [← hV72]
                        have hB72 : BV V72 := hV72 ▸ BV_up hB_65 (fun hz => absurd (by simp [ctr]) hz)
                        have hC10 : LC P V72 s := hC9.law hB72 (fun r w hr => by rw [hV72, up_r (by omega)])
                        have hN10 := LN_4 (V' := V72) hN9 (by rw [hV72, up_s]) (fun r a b => by rw [hV72, up_r (by omega)])
                        rw [hN9.g 4 (by omega) (by omega)] at hN10
                        refine z_aload_n E dL_writes_502 0 rfl rfl ?_
                        refine z_iload E dL_writes_503 rfl ?_
                        refine z_iload E dL_writes_505 rfl ?_
                        refine z_callV E (ci := 5) (N := 4) (C := RX5) (T := TX5) (n := 2) (st := []) (rfl : vl G 10 0 = true) rfl rfl [.int (iI br), .int (iI x)] (kX5_merge l G P V72 br x hC10.w0 hB72 hC10.n0 hC10.n1 hC10.L hC10.U hC10.h5 hC10.cm hC10.w1 hC10.uw hC10.o hC10.z (by omega) (by omega)) gL_writes_X5_merge rfl ⟨rfl, rfl⟩ (by decide +kernel) ⟨Nat.le_of_ble_eq_true rfl, Nat.le_of_ble_eq_true rfl⟩ rfl rfl (Nat.le_of_ble_eq_true rfl) rfl dL_writes_507 (z_exI (fun r_73 P_73 V_73 h_73 => ?_)) (hN := ⟨Nat.le_of_ble_eq_true rfl, Nat.le_of_ble_eq_true rfl⟩)
                        obtain ⟨sq, qq, hCq, hfq⟩ := o_merge hC10 sl h_73
                        have hB_73 := hCq.B
                        obtain ⟨hH9, hs9, hd9⟩ := t_me hM hbr.1 hbr.2 hhb hH hxs.1 qq ht9 hce9
                        have hm1 : ra < 0 → r_73 = -1000003 := fun z => by rcases hd9 with w | w <;> omega
                        have hm2 : 0 ≤ ra → r_73 = mgN s br x := fun z => by rcases hd9 with w | w <;> omega
                        have hm3 : ra < 0 → sq = s9 := fun z => by rcases hd9 with w | w; exact w.2.2; (exfalso; omega)
                        have hm4 : 0 ≤ ra → sq = updI s9 4 (s9 4 + mgN s br x) := fun z => by rcases hd9 with w | w; (exfalso; omega); exact w.2.2
                        refine z_iload E dL_writes_510 rfl ?_
                        refine z_if_ge E 520 dL_writes_512 rfl (by omega) (fun c_74 => ?_) (fun c_74 => ?_)
                        · skip
                          refine z_iload E dL_writes_520 rfl ?_
                          refine z_icne_e E (by omega) dL_writes_522 529 rfl ?_
                          refine z_iconst E dL_writes_525 ?_
                          refine z_goto E 530 dL_writes_526 rfl ?_
                          exact z_zret E Er0 dL_writes_530 (by first | decide | omega) (by first | (have e := hm3 (by omega); rw [Int.add_zero, updI_id] at hN10; subst e; exact ⟨rfl, sq, hCq, hN10.cg (fun r a b => hfq r 0 (by omega)), hH9, hs9⟩) | (have e := hm4 (by omega); rw [hrm] at hN10; subst e; exact ⟨rfl, _, hCq, hN10.cg (fun r a b => hfq r 0 (by omega)), HBr_4 hH9, by rw [updI_n (by omega)]; exact hs9⟩))
                        · skip
                          refine z_ldc E (-1000003) f1 rfl dL_writes_515 ?_
                          refine z_goto E 522 dL_writes_517 rfl ?_
                          refine z_icne_e E (by omega) dL_writes_522 529 rfl ?_
                          refine z_iconst E dL_writes_525 ?_
                          refine z_goto E 530 dL_writes_526 rfl ?_
                          exact z_zret E Er0 dL_writes_530 (by first | decide | omega) (by first | (have e := hm3 (by omega); rw [Int.add_zero, updI_id] at hN10; subst e; exact ⟨rfl, sq, hCq, hN10.cg (fun r a b => hfq r 0 (by omega)), hH9, hs9⟩) | (have e := hm4 (by omega); rw [hrm] at hN10; subst e; exact ⟨rfl, _, hCq, hN10.cg (fun r a b => hfq r 0 (by omega)), HBr_4 hH9, by rw [updI_n (by omega)]; exact hs9⟩))
                    · skip
                      refine z_iload E dL_writes_306 rfl ?_
                      refine z_bipush E dL_writes_308 rfl ?_
                      refine z_idiv E dL_writes_310 (by omega) (by omega) (by decide) (by decide) ?_
                      refine z_bipush E dL_writes_311 rfl ?_
                      refine z_irem E dL_writes_313 (by omega) (by omega) (by decide) (by decide) ?_
                      refine z_istore E dL_writes_314 (L' := [some (.ref (ad G 10 0)), some (.ref (ad G 16 0)), some (.ref (ad G 17 0)), some (.ref (ad G 18 0)), some (.ref (ad G 19 0)), some (.ref (ad G 20 0)), some (.ref (ad G 21 0)), some (.ref (ad G 22 0)), some (.int (iI way)), some (.int (iI y)), some (.int (iI br)), some (.int (iI (mS s (mh s br)))), some (.ref (ad G 23 0)), some (.int (iI x)), some (.int (iI ((y / 64) % 48))), some (.int (iI val)), some (.int (iI ((y / 13) % 48))), none, none]) (Nat.le_of_ble_eq_true rfl) rfl ?_
                      refine z_iconst E dL_writes_316 ?_
                      refine z_iload E dL_writes_317 rfl ?_
                      refine z_bipush E dL_writes_319 rfl ?_
                      refine z_idiv E dL_writes_321 (by omega) (by omega) (by decide) (by decide) ?_
                      refine z_bipush E dL_writes_322 rfl ?_
                      refine z_iload E dL_writes_324 rfl ?_
                      refine z_iload E dL_writes_326 rfl ?_
                      refine z_icmp_le E 336 dL_writes_328 rfl (by omega) (by omega) (fun c_77 => ?_) (fun c_77 => ?_)
                      · skip
                        refine z_iload E dL_writes_336 rfl ?_
                        refine z_isub E dL_writes_338 ?_
                        refine z_irem E dL_writes_339 (by omega) (by omega) (by omega) (by omega) ?_
                        refine z_iadd E dL_writes_340 ?_
                        obtain ⟨mny, hx_mny⟩ : ∃ z : Int, z = 1 + ((y / 17) % (48 - ((y / 13) % 48))) := ⟨_, rfl⟩
                        rw [← hx_mny]
                        have hmny : 1 ≤ mny ∧ mny ≤ 48 - y / 64 % 48 ∧ mny ≤ 48 - y / 13 % 48 := by first | (have := emod_in (x := y / 17) (n := 48 - y / 64 % 48) (by omega); omega) | (have := emod_in (x := y / 17) (n := 48 - y / 13 % 48) (by omega); omega)
                        refine z_istore E dL_writes_341 (L' := [some (.ref (ad G 10 0)), some (.ref (ad G 16 0)), some (.ref (ad G 17 0)), some (.ref (ad G 18 0)), some (.ref (ad G 19 0)), some (.ref (ad G 20 0)), some (.ref (ad G 21 0)), some (.ref (ad G 22 0)), some (.int (iI way)), some (.int (iI y)), some (.int (iI br)), some (.int (iI (mS s (mh s br)))), some (.ref (ad G 23 0)), some (.int (iI x)), some (.int (iI ((y / 64) % 48))), some (.int (iI val)), some (.int (iI ((y / 13) % 48))), some (.int (iI mny)), none]) (Nat.le_of_ble_eq_true rfl) rfl ?_
                        refine z_iconst E dL_writes_343 ?_
                        refine z_istore E dL_writes_344 (L' := [some (.ref (ad G 10 0)), some (.ref (ad G 16 0)), some (.ref (ad G 17 0)), some (.ref (ad G 18 0)), some (.ref (ad G 19 0)), some (.ref (ad G 20 0)), some (.ref (ad G 21 0)), some (.ref (ad G 22 0)), some (.int (iI way)), some (.int (iI y)), some (.int (iI br)), some (.int (iI (mS s (mh s br)))), some (.ref (ad G 23 0)), some (.int (iI x)), some (.int (iI ((y / 64) % 48))), some (.int (iI val)), some (.int (iI ((y / 13) % 48))), some (.int (iI mny)), some (.int (iI 0))]) (Nat.le_of_ble_eq_true rfl) rfl ?_
                        have lp_346_78 : ∀ (fuel : Nat) (k2 : Int) (Vl_346 : Vt), BV Vl_346 → (0 ≤ k2) → (k2 ≤ mny) → (Vl_346 = up V 23 0 (cpI (fun c => mc s (mS s x) c) (mix (fun _ => 0) (fun c => mc s (mS s (mh s br)) c) 48) (y / 64 % 48) (y / 13 % 48) k2)) → (mny - k2 : Int).toNat < fuel → Kz X G P Vl_346 (0 + 1) (0 + 48) [some (.ref (ad G 10 0)), some (.ref (ad G 16 0)), some (.ref (ad G 17 0)), some (.ref (ad G 18 0)), some (.ref (ad G 19 0)), some (.ref (ad G 20 0)), some (.ref (ad G 21 0)), some (.ref (ad G 22 0)), some (.int (iI way)), some (.int (iI y)), some (.int (iI br)), some (.int (iI (mS s (mh s br)))), some (.ref (ad G 23 0)), some (.int (iI x)), some (.int (iI ((y / 64) % 48))), some (.int (iI val)), some (.int (iI ((y / 13) % 48))), some (.int (iI mny)), some (.int (iI k2))] 346 [] := by
                          intro fuel
                          induction fuel with
                          | zero => intro k2 Vl_346 hBl_346 hk20 hk21 hVm hf_346; exact absurd hf_346 (Nat.not_lt_zero _)
                          | succ fuel ih_346 =>
                            intro k2 Vl_346 hBl_346 hk20 hk21 hVm hf_346
                            have hE2 : ∀ r w, r ≠ 23 → Vl_346 r w = V r w := fun r w hr => by rw [hVm, up_r hr]
                            have hNm : LN Vl_346 s := hN.cg (fun r a b => hE2 r 0 (by omega))
                            have g16m : Vl_346 16 0 0 = V 16 0 0 := by rw [hE2 16 0 (by decide)]
                            refine z_iload E dL_writes_346 rfl ?_
                            refine z_iload E dL_writes_348 rfl ?_
                            refine z_icmp_ge E 388 dL_writes_350 rfl (by omega) (by omega) (fun c_79 => ?_) (fun c_79 => ?_)
                            · skip
                              have hcc : k2 = mny := by omega
                              rw [hcc] at hVm
                              have hE : ∀ r w, r ≠ 23 → Vl_346 r w = V r w := fun r w hr => by rw [hVm, up_r hr]
                              have hce9 : ∀ i, 0 ≤ i → i < 48 → Vl_346 23 0 i = cpI (fun c => mc s (mS s x) c) (fun c => mc s (mS s (mh s br)) c) (y / 64 % 48) (y / 13 % 48) mny i := fun i a b => by rw [hVm, up_s]; exact vC_m a b
                              have hcb := ceb_cp hce9 (fun c a b => hN.mc_bd hM hxs.1 hxs.2.1 a b) hgb (by omega) (by omega)
                              refine z_aload_n E dL_writes_388 1 rfl rfl ?_
                              refine z_aload_n E dL_writes_389 2 rfl rfl ?_
                              refine z_aload_n E dL_writes_390 3 rfl rfl ?_
                              refine z_aload E dL_writes_391 rfl ?_
                              refine z_aload E dL_writes_393 rfl ?_
                              refine z_aload E dL_writes_395 rfl ?_
                              refine z_aload E dL_writes_397 rfl ?_
                              refine z_iload E dL_writes_399 rfl ?_
                              refine z_aload E dL_writes_401 rfl ?_
                              refine z_callS E (n := 9) (st := []) [.ref (ad G 16 0), .ref (ad G 17 0), .ref (ad G 18 0), .ref (ad G 19 0), .ref (ad G 20 0), .ref (ad G 21 0), .ref (ad G 22 0), .int (iI br), .ref (ad G 23 0)] (kL_store l G P Vl_346 br s hBl_346 (hN.cg (fun r a b => hE r 0 (by omega))) hM hbr hhb (by omega) hcb hv23) gL_writes_L_store rfl ⟨rfl, rfl⟩ (by decide +kernel) ⟨Nat.le_of_ble_eq_true rfl, Nat.le_of_ble_eq_true rfl⟩ rfl rfl (Nat.le_of_ble_eq_true rfl) rfl dL_writes_403 (z_exI (fun r_80 P_80 V_80 h_80 => ?_)) (hN := ⟨Nat.le_of_ble_eq_true rfl, Nat.le_of_ble_eq_true rfl⟩)
                              obtain ⟨hP_80, hB_80, h_80⟩ := h_80
                              rw [hP_80]
                              obtain ⟨hfr9, ra, s9, ht9, hra9, hN9⟩ := h_80
                              have hC9 : LC P V_80 s := hC.law hB_80 (fun r w hr => by rw [hfr9 r w (by omega)]; exact hE r w (by omega))
                              have hru := trS_le hM ht9
                              refine z_istore E dL_writes_406 (L' := [some (.ref (ad G 10 0)), some (.ref (ad G 16 0)), some (.ref (ad G 17 0)), some (.ref (ad G 18 0)), some (.ref (ad G 19 0)), some (.ref (ad G 20 0)), some (.ref (ad G 21 0)), some (.ref (ad G 22 0)), some (.int (iI way)), some (.int (iI y)), some (.int (iI br)), some (.int (iI (mS s (mh s br)))), some (.ref (ad G 23 0)), some (.int (iI x)), some (.int (iI ((y / 64) % 48))), some (.int (iI val)), some (.int (iI ((y / 13) % 48))), some (.int (iI mny)), some (.int (iI r_80))]) (Nat.le_of_ble_eq_true rfl) rfl ?_
                              refine z_aload_n E dL_writes_408 0 rfl rfl ?_
                              refine z_iload E dL_writes_409 rfl ?_
                              refine z_iload E dL_writes_411 rfl ?_
                              refine z_iload E dL_writes_413 rfl ?_
                              refine z_iload E dL_writes_415 rfl ?_
                              refine z_iload E dL_writes_417 rfl ?_
                              refine z_callV E (ci := 5) (N := 4) (C := RX5) (T := TX5) (n := 5) (st := []) (rfl : vl G 10 0 = true) rfl rfl [.int (iI br), .int (iI x), .int (iI ((y / 64) % 48)), .int (iI ((y / 13) % 48)), .int (iI mny)] (kX5_copy l G P V_80 br x ((y / 64) % 48) ((y / 13) % 48) mny hC9.w0 hB_80 hC9.n0 hC9.n1 hC9.L hC9.U hC9.h5 hC9.cm hC9.w1 hC9.uw hC9.o hC9.z (by omega) (by omega) (by omega) (by omega) (by omega)) gL_writes_X5_copy rfl ⟨rfl, rfl⟩ (by decide +kernel) ⟨Nat.le_of_ble_eq_true rfl, Nat.le_of_ble_eq_true rfl⟩ rfl rfl (Nat.le_of_ble_eq_true rfl) rfl dL_writes_419 (z_exI (fun r_81 P_81 V_81 h_81 => ?_)) (hN := ⟨Nat.le_of_ble_eq_true rfl, Nat.le_of_ble_eq_true rfl⟩)
                              obtain ⟨sq, qq, hCq, hfq⟩ := o_copy hC9 sl h_81
                              have hB_81 := hCq.B
                              obtain ⟨er, es, hH9, hs9, hr9⟩ := t_co hM hbr.1 hbr.2 hhb hH hxs.1 (by omega) (by omega) (by omega) (by omega) qq ht9 hce9
                              subst es
                              refine z_iload E dL_writes_422 rfl ?_
                              refine z_if_ge E 432 dL_writes_424 rfl (by omega) (fun c_82 => ?_) (fun c_82 => ?_)
                              · skip
                                refine z_iload E dL_writes_432 rfl ?_
                                refine z_icne_e E (by omega) dL_writes_434 441 rfl ?_
                                refine z_iconst E dL_writes_437 ?_
                                refine z_goto E 442 dL_writes_438 rfl ?_
                                exact z_zret E Er0 dL_writes_442 (by first | decide | omega) (⟨rfl, sq, hCq, hN9.cg (fun r a b => hfq r 0 (by omega)), hH9, hs9⟩)
                              · skip
                                refine z_ldc E (-1000003) f1 rfl dL_writes_427 ?_
                                refine z_goto E 434 dL_writes_429 rfl ?_
                                refine z_icne_e E (by omega) dL_writes_434 441 rfl ?_
                                refine z_iconst E dL_writes_437 ?_
                                refine z_goto E 442 dL_writes_438 rfl ?_
                                exact z_zret E Er0 dL_writes_442 (by first | decide | omega) (⟨rfl, sq, hCq, hN9.cg (fun r a b => hfq r 0 (by omega)), hH9, hs9⟩)
                            · skip
                              refine z_aload E dL_writes_353 rfl ?_
                              refine z_iload E dL_writes_355 rfl ?_
                              refine z_iload E dL_writes_357 rfl ?_
                              refine z_iadd E dL_writes_359 ?_
                              refine z_aload E dL_writes_360 rfl ?_
                              refine z_aload E dL_writes_362 rfl ?_
                              refine z_aload E dL_writes_364 rfl ?_
                              refine z_aload_n E dL_writes_366 1 rfl rfl ?_
                              refine z_aload_n E dL_writes_367 3 rfl rfl ?_
                              refine z_iload E dL_writes_368 rfl ?_
                              refine z_callS E (n := 3) (st := [.ref (ad G 22 0), .ref (ad G 21 0), .ref (ad G 20 0), .int (iI (((y / 13) % 48) + k2)), .ref (ad G 23 0)]) [.ref (ad G 16 0), .ref (ad G 18 0), .int (iI x)] (kL_find l G P Vl_346 x hBl_346 (by omega) (by omega)) gL_writes_L_find rfl ⟨rfl, rfl⟩ (by decide +kernel) ⟨Nat.le_of_ble_eq_true rfl, Nat.le_of_ble_eq_true rfl⟩ rfl rfl (Nat.le_of_ble_eq_true rfl) rfl dL_writes_370 (z_dtI ?_) (hN := ⟨Nat.le_of_ble_eq_true rfl, Nat.le_of_ble_eq_true rfl⟩)
                              rw [hNm.find]
                              refine z_iload E dL_writes_373 rfl ?_
                              refine z_iload E dL_writes_375 rfl ?_
                              refine z_iadd E dL_writes_377 ?_
                              refine z_callS E (n := 5) (st := [.int (iI (((y / 13) % 48) + k2)), .ref (ad G 23 0)]) [.ref (ad G 20 0), .ref (ad G 21 0), .ref (ad G 22 0), .int (iI (mS s x)), .int (iI (((y / 64) % 48) + k2))] (kL_read l G P Vl_346 (mS s x) (((y / 64) % 48) + k2) (by omega) (by omega) hNm.vr hNm.va hNm.vb (hNm.th hM hxs.1 hxs.2.1 (by omega) (by omega))) gL_writes_L_read rfl ⟨rfl, rfl⟩ (by decide +kernel) ⟨Nat.le_of_ble_eq_true rfl, Nat.le_of_ble_eq_true rfl⟩ rfl rfl (Nat.le_of_ble_eq_true rfl) rfl dL_writes_378 (z_dtI ?_) (hN := ⟨Nat.le_of_ble_eq_true rfl, Nat.le_of_ble_eq_true rfl⟩)
                              rw [hNm.cell hM hxs.1 hxs.2.1 (by omega) (by omega)]
                              have bc_378 := hN.mc_bd hM hxs.1 hxs.2.1 (show 0 ≤ y / 64 % 48 + k2 by omega) (show y / 64 % 48 + k2 < 48 by omega)
                              refine z_iast E hv23 48 (fun _ => rfl) (by omega) (by omega) (by omega) dL_writes_381 ?_
                              obtain ⟨V87, hV87⟩ : ∃ Z : Vt, Z = up Vl_346 23 0 (updI (Vl_346 23 0) (((y / 13) % 48) + k2) (mc s (mS s x) (((y / 64) % 48) + k2))) := ⟨_, rfl⟩
                              rw [← hV87]
                              have hB87 : BV V87 := hV87 ▸ BV_up hBl_346 (by intro _; omega)
                              refine z_iinc E k2 dL_writes_382 (L' := [some (.ref (ad G 10 0)), some (.ref (ad G 16 0)), some (.ref (ad G 17 0)), some (.ref (ad G 18 0)), some (.ref (ad G 19 0)), some (.ref (ad G 20 0)), some (.ref (ad G 21 0)), some (.ref (ad G 22 0)), some (.int (iI way)), some (.int (iI y)), some (.int (iI br)), some (.int (iI (mS s (mh s br)))), some (.ref (ad G 23 0)), some (.int (iI x)), some (.int (iI ((y / 64) % 48))), some (.int (iI val)), some (.int (iI ((y / 13) % 48))), some (.int (iI mny)), some (.int (iI (k2 + 1)))]) (Nat.le_of_ble_eq_true rfl) rfl rfl ?_
                              refine z_goto E 346 dL_writes_385 rfl ?_
                              exact ih_346 (k2 + 1) V87 hB87 (by omega) (by omega) (by rw [hV87, hVm, up_s, upup]; congr 1; exact cpI_s hk20) (by omega)
                        exact lp_346_78 ((mny - 0 : Int).toNat + 1) 0 Vl_61 hBl_61 (by omega) (by omega) (by rw [cpI_0]; exact hVl) (Nat.lt_succ_self _)
                      · skip
                        refine z_iload E dL_writes_331 rfl ?_
                        refine z_goto E 338 dL_writes_333 rfl ?_
                        refine z_isub E dL_writes_338 ?_
                        refine z_irem E dL_writes_339 (by omega) (by omega) (by omega) (by omega) ?_
                        refine z_iadd E dL_writes_340 ?_
                        obtain ⟨mny, hx_mny⟩ : ∃ z : Int, z = 1 + ((y / 17) % (48 - ((y / 64) % 48))) := ⟨_, rfl⟩
                        rw [← hx_mny]
                        have hmny : 1 ≤ mny ∧ mny ≤ 48 - y / 64 % 48 ∧ mny ≤ 48 - y / 13 % 48 := by first | (have := emod_in (x := y / 17) (n := 48 - y / 64 % 48) (by omega); omega) | (have := emod_in (x := y / 17) (n := 48 - y / 13 % 48) (by omega); omega)
                        refine z_istore E dL_writes_341 (L' := [some (.ref (ad G 10 0)), some (.ref (ad G 16 0)), some (.ref (ad G 17 0)), some (.ref (ad G 18 0)), some (.ref (ad G 19 0)), some (.ref (ad G 20 0)), some (.ref (ad G 21 0)), some (.ref (ad G 22 0)), some (.int (iI way)), some (.int (iI y)), some (.int (iI br)), some (.int (iI (mS s (mh s br)))), some (.ref (ad G 23 0)), some (.int (iI x)), some (.int (iI ((y / 64) % 48))), some (.int (iI val)), some (.int (iI ((y / 13) % 48))), some (.int (iI mny)), none]) (Nat.le_of_ble_eq_true rfl) rfl ?_
                        refine z_iconst E dL_writes_343 ?_
                        refine z_istore E dL_writes_344 (L' := [some (.ref (ad G 10 0)), some (.ref (ad G 16 0)), some (.ref (ad G 17 0)), some (.ref (ad G 18 0)), some (.ref (ad G 19 0)), some (.ref (ad G 20 0)), some (.ref (ad G 21 0)), some (.ref (ad G 22 0)), some (.int (iI way)), some (.int (iI y)), some (.int (iI br)), some (.int (iI (mS s (mh s br)))), some (.ref (ad G 23 0)), some (.int (iI x)), some (.int (iI ((y / 64) % 48))), some (.int (iI val)), some (.int (iI ((y / 13) % 48))), some (.int (iI mny)), some (.int (iI 0))]) (Nat.le_of_ble_eq_true rfl) rfl ?_
                        have lp_346_88 : ∀ (fuel : Nat) (k2 : Int) (Vl_346 : Vt), BV Vl_346 → (0 ≤ k2) → (k2 ≤ mny) → (Vl_346 = up V 23 0 (cpI (fun c => mc s (mS s x) c) (mix (fun _ => 0) (fun c => mc s (mS s (mh s br)) c) 48) (y / 64 % 48) (y / 13 % 48) k2)) → (mny - k2 : Int).toNat < fuel → Kz X G P Vl_346 (0 + 1) (0 + 48) [some (.ref (ad G 10 0)), some (.ref (ad G 16 0)), some (.ref (ad G 17 0)), some (.ref (ad G 18 0)), some (.ref (ad G 19 0)), some (.ref (ad G 20 0)), some (.ref (ad G 21 0)), some (.ref (ad G 22 0)), some (.int (iI way)), some (.int (iI y)), some (.int (iI br)), some (.int (iI (mS s (mh s br)))), some (.ref (ad G 23 0)), some (.int (iI x)), some (.int (iI ((y / 64) % 48))), some (.int (iI val)), some (.int (iI ((y / 13) % 48))), some (.int (iI mny)), some (.int (iI k2))] 346 [] := by
                          intro fuel
                          induction fuel with
                          | zero => intro k2 Vl_346 hBl_346 hk20 hk21 hVm hf_346; exact absurd hf_346 (Nat.not_lt_zero _)
                          | succ fuel ih_346 =>
                            intro k2 Vl_346 hBl_346 hk20 hk21 hVm hf_346
                            have hE2 : ∀ r w, r ≠ 23 → Vl_346 r w = V r w := fun r w hr => by rw [hVm, up_r hr]
                            have hNm : LN Vl_346 s := hN.cg (fun r a b => hE2 r 0 (by omega))
                            have g16m : Vl_346 16 0 0 = V 16 0 0 := by rw [hE2 16 0 (by decide)]
                            refine z_iload E dL_writes_346 rfl ?_
                            refine z_iload E dL_writes_348 rfl ?_
                            refine z_icmp_ge E 388 dL_writes_350 rfl (by omega) (by omega) (fun c_89 => ?_) (fun c_89 => ?_)
                            · skip
                              have hcc : k2 = mny := by omega
                              rw [hcc] at hVm
                              have hE : ∀ r w, r ≠ 23 → Vl_346 r w = V r w := fun r w hr => by rw [hVm, up_r hr]
                              have hce9 : ∀ i, 0 ≤ i → i < 48 → Vl_346 23 0 i = cpI (fun c => mc s (mS s x) c) (fun c => mc s (mS s (mh s br)) c) (y / 64 % 48) (y / 13 % 48) mny i := fun i a b => by rw [hVm, up_s]; exact vC_m a b
                              have hcb := ceb_cp hce9 (fun c a b => hN.mc_bd hM hxs.1 hxs.2.1 a b) hgb (by omega) (by omega)
                              refine z_aload_n E dL_writes_388 1 rfl rfl ?_
                              refine z_aload_n E dL_writes_389 2 rfl rfl ?_
                              refine z_aload_n E dL_writes_390 3 rfl rfl ?_
                              refine z_aload E dL_writes_391 rfl ?_
                              refine z_aload E dL_writes_393 rfl ?_
                              refine z_aload E dL_writes_395 rfl ?_
                              refine z_aload E dL_writes_397 rfl ?_
                              refine z_iload E dL_writes_399 rfl ?_
                              refine z_aload E dL_writes_401 rfl ?_
                              refine z_callS E (n := 9) (st := []) [.ref (ad G 16 0), .ref (ad G 17 0), .ref (ad G 18 0), .ref (ad G 19 0), .ref (ad G 20 0), .ref (ad G 21 0), .ref (ad G 22 0), .int (iI br), .ref (ad G 23 0)] (kL_store l G P Vl_346 br s hBl_346 (hN.cg (fun r a b => hE r 0 (by omega))) hM hbr hhb (by omega) hcb hv23) gL_writes_L_store rfl ⟨rfl, rfl⟩ (by decide +kernel) ⟨Nat.le_of_ble_eq_true rfl, Nat.le_of_ble_eq_true rfl⟩ rfl rfl (Nat.le_of_ble_eq_true rfl) rfl dL_writes_403 (z_exI (fun r_90 P_90 V_90 h_90 => ?_)) (hN := ⟨Nat.le_of_ble_eq_true rfl, Nat.le_of_ble_eq_true rfl⟩)
                              obtain ⟨hP_90, hB_90, h_90⟩ := h_90
                              rw [hP_90]
                              obtain ⟨hfr9, ra, s9, ht9, hra9, hN9⟩ := h_90
                              have hC9 : LC P V_90 s := hC.law hB_90 (fun r w hr => by rw [hfr9 r w (by omega)]; exact hE r w (by omega))
                              have hru := trS_le hM ht9
                              refine z_istore E dL_writes_406 (L' := [some (.ref (ad G 10 0)), some (.ref (ad G 16 0)), some (.ref (ad G 17 0)), some (.ref (ad G 18 0)), some (.ref (ad G 19 0)), some (.ref (ad G 20 0)), some (.ref (ad G 21 0)), some (.ref (ad G 22 0)), some (.int (iI way)), some (.int (iI y)), some (.int (iI br)), some (.int (iI (mS s (mh s br)))), some (.ref (ad G 23 0)), some (.int (iI x)), some (.int (iI ((y / 64) % 48))), some (.int (iI val)), some (.int (iI ((y / 13) % 48))), some (.int (iI mny)), some (.int (iI r_90))]) (Nat.le_of_ble_eq_true rfl) rfl ?_
                              refine z_aload_n E dL_writes_408 0 rfl rfl ?_
                              refine z_iload E dL_writes_409 rfl ?_
                              refine z_iload E dL_writes_411 rfl ?_
                              refine z_iload E dL_writes_413 rfl ?_
                              refine z_iload E dL_writes_415 rfl ?_
                              refine z_iload E dL_writes_417 rfl ?_
                              refine z_callV E (ci := 5) (N := 4) (C := RX5) (T := TX5) (n := 5) (st := []) (rfl : vl G 10 0 = true) rfl rfl [.int (iI br), .int (iI x), .int (iI ((y / 64) % 48)), .int (iI ((y / 13) % 48)), .int (iI mny)] (kX5_copy l G P V_90 br x ((y / 64) % 48) ((y / 13) % 48) mny hC9.w0 hB_90 hC9.n0 hC9.n1 hC9.L hC9.U hC9.h5 hC9.cm hC9.w1 hC9.uw hC9.o hC9.z (by omega) (by omega) (by omega) (by omega) (by omega)) gL_writes_X5_copy rfl ⟨rfl, rfl⟩ (by decide +kernel) ⟨Nat.le_of_ble_eq_true rfl, Nat.le_of_ble_eq_true rfl⟩ rfl rfl (Nat.le_of_ble_eq_true rfl) rfl dL_writes_419 (z_exI (fun r_91 P_91 V_91 h_91 => ?_)) (hN := ⟨Nat.le_of_ble_eq_true rfl, Nat.le_of_ble_eq_true rfl⟩)
                              obtain ⟨sq, qq, hCq, hfq⟩ := o_copy hC9 sl h_91
                              have hB_91 := hCq.B
                              obtain ⟨er, es, hH9, hs9, hr9⟩ := t_co hM hbr.1 hbr.2 hhb hH hxs.1 (by omega) (by omega) (by omega) (by omega) qq ht9 hce9
                              subst es
                              refine z_iload E dL_writes_422 rfl ?_
                              refine z_if_ge E 432 dL_writes_424 rfl (by omega) (fun c_92 => ?_) (fun c_92 => ?_)
                              · skip
                                refine z_iload E dL_writes_432 rfl ?_
                                refine z_icne_e E (by omega) dL_writes_434 441 rfl ?_
                                refine z_iconst E dL_writes_437 ?_
                                refine z_goto E 442 dL_writes_438 rfl ?_
                                exact z_zret E Er0 dL_writes_442 (by first | decide | omega) (⟨rfl, sq, hCq, hN9.cg (fun r a b => hfq r 0 (by omega)), hH9, hs9⟩)
                              · skip
                                refine z_ldc E (-1000003) f1 rfl dL_writes_427 ?_
                                refine z_goto E 434 dL_writes_429 rfl ?_
                                refine z_icne_e E (by omega) dL_writes_434 441 rfl ?_
                                refine z_iconst E dL_writes_437 ?_
                                refine z_goto E 442 dL_writes_438 rfl ?_
                                exact z_zret E Er0 dL_writes_442 (by first | decide | omega) (⟨rfl, sq, hCq, hN9.cg (fun r a b => hfq r 0 (by omega)), hH9, hs9⟩)
                            · skip
                              refine z_aload E dL_writes_353 rfl ?_
                              refine z_iload E dL_writes_355 rfl ?_
                              refine z_iload E dL_writes_357 rfl ?_
                              refine z_iadd E dL_writes_359 ?_
                              refine z_aload E dL_writes_360 rfl ?_
                              refine z_aload E dL_writes_362 rfl ?_
                              refine z_aload E dL_writes_364 rfl ?_
                              refine z_aload_n E dL_writes_366 1 rfl rfl ?_
                              refine z_aload_n E dL_writes_367 3 rfl rfl ?_
                              refine z_iload E dL_writes_368 rfl ?_
                              refine z_callS E (n := 3) (st := [.ref (ad G 22 0), .ref (ad G 21 0), .ref (ad G 20 0), .int (iI (((y / 13) % 48) + k2)), .ref (ad G 23 0)]) [.ref (ad G 16 0), .ref (ad G 18 0), .int (iI x)] (kL_find l G P Vl_346 x hBl_346 (by omega) (by omega)) gL_writes_L_find rfl ⟨rfl, rfl⟩ (by decide +kernel) ⟨Nat.le_of_ble_eq_true rfl, Nat.le_of_ble_eq_true rfl⟩ rfl rfl (Nat.le_of_ble_eq_true rfl) rfl dL_writes_370 (z_dtI ?_) (hN := ⟨Nat.le_of_ble_eq_true rfl, Nat.le_of_ble_eq_true rfl⟩)
                              rw [hNm.find]
                              refine z_iload E dL_writes_373 rfl ?_
                              refine z_iload E dL_writes_375 rfl ?_
                              refine z_iadd E dL_writes_377 ?_
                              refine z_callS E (n := 5) (st := [.int (iI (((y / 13) % 48) + k2)), .ref (ad G 23 0)]) [.ref (ad G 20 0), .ref (ad G 21 0), .ref (ad G 22 0), .int (iI (mS s x)), .int (iI (((y / 64) % 48) + k2))] (kL_read l G P Vl_346 (mS s x) (((y / 64) % 48) + k2) (by omega) (by omega) hNm.vr hNm.va hNm.vb (hNm.th hM hxs.1 hxs.2.1 (by omega) (by omega))) gL_writes_L_read rfl ⟨rfl, rfl⟩ (by decide +kernel) ⟨Nat.le_of_ble_eq_true rfl, Nat.le_of_ble_eq_true rfl⟩ rfl rfl (Nat.le_of_ble_eq_true rfl) rfl dL_writes_378 (z_dtI ?_) (hN := ⟨Nat.le_of_ble_eq_true rfl, Nat.le_of_ble_eq_true rfl⟩)
                              rw [hNm.cell hM hxs.1 hxs.2.1 (by omega) (by omega)]
                              have bc_378 := hN.mc_bd hM hxs.1 hxs.2.1 (show 0 ≤ y / 64 % 48 + k2 by omega) (show y / 64 % 48 + k2 < 48 by omega)
                              refine z_iast E hv23 48 (fun _ => rfl) (by omega) (by omega) (by omega) dL_writes_381 ?_
                              obtain ⟨V97, hV97⟩ : ∃ Z : Vt, Z = up Vl_346 23 0 (updI (Vl_346 23 0) (((y / 13) % 48) + k2) (mc s (mS s x) (((y / 64) % 48) + k2))) := ⟨_, rfl⟩
                              rw [← hV97]
                              have hB97 : BV V97 := hV97 ▸ BV_up hBl_346 (by intro _; omega)
                              refine z_iinc E k2 dL_writes_382 (L' := [some (.ref (ad G 10 0)), some (.ref (ad G 16 0)), some (.ref (ad G 17 0)), some (.ref (ad G 18 0)), some (.ref (ad G 19 0)), some (.ref (ad G 20 0)), some (.ref (ad G 21 0)), some (.ref (ad G 22 0)), some (.int (iI way)), some (.int (iI y)), some (.int (iI br)), some (.int (iI (mS s (mh s br)))), some (.ref (ad G 23 0)), some (.int (iI x)), some (.int (iI ((y / 64) % 48))), some (.int (iI val)), some (.int (iI ((y / 13) % 48))), some (.int (iI mny)), some (.int (iI (k2 + 1)))]) (Nat.le_of_ble_eq_true rfl) rfl rfl ?_
                              refine z_goto E 346 dL_writes_385 rfl ?_
                              exact ih_346 (k2 + 1) V97 hB97 (by omega) (by omega) (by rw [hV97, hVm, up_s, upup]; congr 1; exact cpI_s hk20) (by omega)
                        exact lp_346_88 ((mny - 0 : Int).toNat + 1) 0 Vl_61 hBl_61 (by omega) (by omega) (by rw [cpI_0]; exact hVl) (Nat.lt_succ_self _)
                  · skip
                    refine z_iconst E dL_writes_205 ?_
                    refine z_iload E dL_writes_206 rfl ?_
                    refine z_bipush E dL_writes_208 rfl ?_
                    refine z_idiv E dL_writes_210 (by omega) (by omega) (by decide) (by decide) ?_
                    refine z_bipush E dL_writes_211 rfl ?_
                    refine z_iload E dL_writes_213 rfl ?_
                    refine z_isub E dL_writes_215 ?_
                    refine z_irem E dL_writes_216 (by omega) (by omega) (by omega) (by omega) ?_
                    refine z_iadd E dL_writes_217 ?_
                    obtain ⟨mny, hx_mny⟩ : ∃ z : Int, z = 1 + ((y / 11) % (48 - ((y / 64) % 48))) := ⟨_, rfl⟩
                    rw [← hx_mny]
                    have hmn := emod_in (x := y / 11) (n := 48 - y / 64 % 48) (by omega)
                    have hmny : 1 ≤ mny ∧ mny ≤ 48 - y / 64 % 48 := by omega
                    refine z_istore E dL_writes_218 (L' := [some (.ref (ad G 10 0)), some (.ref (ad G 16 0)), some (.ref (ad G 17 0)), some (.ref (ad G 18 0)), some (.ref (ad G 19 0)), some (.ref (ad G 20 0)), some (.ref (ad G 21 0)), some (.ref (ad G 22 0)), some (.int (iI way)), some (.int (iI y)), some (.int (iI br)), some (.int (iI (mS s (mh s br)))), some (.ref (ad G 23 0)), some (.int (iI x)), some (.int (iI ((y / 64) % 48))), some (.int (iI val)), some (.int (iI mny)), none, none]) (Nat.le_of_ble_eq_true rfl) rfl ?_
                    refine z_iload E dL_writes_220 rfl ?_
                    refine z_istore E dL_writes_222 (L' := [some (.ref (ad G 10 0)), some (.ref (ad G 16 0)), some (.ref (ad G 17 0)), some (.ref (ad G 18 0)), some (.ref (ad G 19 0)), some (.ref (ad G 20 0)), some (.ref (ad G 21 0)), some (.ref (ad G 22 0)), some (.int (iI way)), some (.int (iI y)), some (.int (iI br)), some (.int (iI (mS s (mh s br)))), some (.ref (ad G 23 0)), some (.int (iI x)), some (.int (iI ((y / 64) % 48))), some (.int (iI val)), some (.int (iI mny)), some (.int (iI ((y / 64) % 48))), none]) (Nat.le_of_ble_eq_true rfl) rfl ?_
                    have lp_224_98 : ∀ (fuel : Nat) (c : Int) (Vl_224 : Vt), BV Vl_224 → (y / 64 % 48 ≤ c) → (c ≤ y / 64 % 48 + mny) → (Vl_224 = up V 23 0 (flI (mix (fun _ => 0) (fun c => mc s (mS s (mh s br)) c) 48) (y / 64 % 48) (c - y / 64 % 48) val)) → (y / 64 % 48 + mny - c : Int).toNat < fuel → Kz X G P Vl_224 (0 + 1) (0 + 48) [some (.ref (ad G 10 0)), some (.ref (ad G 16 0)), some (.ref (ad G 17 0)), some (.ref (ad G 18 0)), some (.ref (ad G 19 0)), some (.ref (ad G 20 0)), some (.ref (ad G 21 0)), some (.ref (ad G 22 0)), some (.int (iI way)), some (.int (iI y)), some (.int (iI br)), some (.int (iI (mS s (mh s br)))), some (.ref (ad G 23 0)), some (.int (iI x)), some (.int (iI ((y / 64) % 48))), some (.int (iI val)), some (.int (iI mny)), some (.int (iI c)), none] 224 [] := by
                      intro fuel
                      induction fuel with
                      | zero => intro c Vl_224 hBl_224 hc0 hc1 hVm hf_224; exact absurd hf_224 (Nat.not_lt_zero _)
                      | succ fuel ih_224 =>
                        intro c Vl_224 hBl_224 hc0 hc1 hVm hf_224
                        refine z_iload E dL_writes_224 rfl ?_
                        refine z_iload E dL_writes_226 rfl ?_
                        refine z_iload E dL_writes_228 rfl ?_
                        refine z_iadd E dL_writes_230 ?_
                        refine z_icmp_ge E 247 dL_writes_231 rfl (by omega) (by omega) (fun c_99 => ?_) (fun c_99 => ?_)
                        · skip
                          have hcc : c - y / 64 % 48 = mny := by omega
                          rw [hcc] at hVm
                          have hE : ∀ r w, r ≠ 23 → Vl_224 r w = V r w := fun r w hr => by rw [hVm, up_r hr]
                          have hce9 : ∀ i, 0 ≤ i → i < 48 → Vl_224 23 0 i = flI (fun c => mc s (mS s (mh s br)) c) (y / 64 % 48) mny val i := fun i a b => by rw [hVm, up_s]; exact vF_m a b
                          have hcb := ceb_fl hce9 hgb (by omega)
                          refine z_aload_n E dL_writes_247 1 rfl rfl ?_
                          refine z_aload_n E dL_writes_248 2 rfl rfl ?_
                          refine z_aload_n E dL_writes_249 3 rfl rfl ?_
                          refine z_aload E dL_writes_250 rfl ?_
                          refine z_aload E dL_writes_252 rfl ?_
                          refine z_aload E dL_writes_254 rfl ?_
                          refine z_aload E dL_writes_256 rfl ?_
                          refine z_iload E dL_writes_258 rfl ?_
                          refine z_aload E dL_writes_260 rfl ?_
                          refine z_callS E (n := 9) (st := []) [.ref (ad G 16 0), .ref (ad G 17 0), .ref (ad G 18 0), .ref (ad G 19 0), .ref (ad G 20 0), .ref (ad G 21 0), .ref (ad G 22 0), .int (iI br), .ref (ad G 23 0)] (kL_store l G P Vl_224 br s hBl_224 (hN.cg (fun r a b => hE r 0 (by omega))) hM hbr hhb (by omega) hcb hv23) gL_writes_L_store rfl ⟨rfl, rfl⟩ (by decide +kernel) ⟨Nat.le_of_ble_eq_true rfl, Nat.le_of_ble_eq_true rfl⟩ rfl rfl (Nat.le_of_ble_eq_true rfl) rfl dL_writes_262 (z_exI (fun r_100 P_100 V_100 h_100 => ?_)) (hN := ⟨Nat.le_of_ble_eq_true rfl, Nat.le_of_ble_eq_true rfl⟩)
                          obtain ⟨hP_100, hB_100, h_100⟩ := h_100
                          rw [hP_100]
                          obtain ⟨hfr9, ra, s9, ht9, hra9, hN9⟩ := h_100
                          have hC9 : LC P V_100 s := hC.law hB_100 (fun r w hr => by rw [hfr9 r w (by omega)]; exact hE r w (by omega))
                          have hru := trS_le hM ht9
                          refine z_istore E dL_writes_265 (L' := [some (.ref (ad G 10 0)), some (.ref (ad G 16 0)), some (.ref (ad G 17 0)), some (.ref (ad G 18 0)), some (.ref (ad G 19 0)), some (.ref (ad G 20 0)), some (.ref (ad G 21 0)), some (.ref (ad G 22 0)), some (.int (iI way)), some (.int (iI y)), some (.int (iI br)), some (.int (iI (mS s (mh s br)))), some (.ref (ad G 23 0)), some (.int (iI x)), some (.int (iI ((y / 64) % 48))), some (.int (iI val)), some (.int (iI mny)), some (.int (iI r_100)), none]) (Nat.le_of_ble_eq_true rfl) rfl ?_
                          refine z_aload_n E dL_writes_267 0 rfl rfl ?_
                          refine z_iload E dL_writes_268 rfl ?_
                          refine z_iload E dL_writes_270 rfl ?_
                          refine z_iload E dL_writes_272 rfl ?_
                          refine z_iload E dL_writes_274 rfl ?_
                          refine z_callV E (ci := 5) (N := 4) (C := RX5) (T := TX5) (n := 4) (st := []) (rfl : vl G 10 0 = true) rfl rfl [.int (iI br), .int (iI ((y / 64) % 48)), .int (iI mny), .int (iI val)] (kX5_fill l G P V_100 br ((y / 64) % 48) mny val hC9.w0 hB_100 hC9.n0 hC9.n1 hC9.L hC9.U hC9.h5 hC9.cm hC9.w1 hC9.uw hC9.o hC9.z (by omega) (by omega) (by omega) (by omega)) gL_writes_X5_fill rfl ⟨rfl, rfl⟩ (by decide +kernel) ⟨Nat.le_of_ble_eq_true rfl, Nat.le_of_ble_eq_true rfl⟩ rfl rfl (Nat.le_of_ble_eq_true rfl) rfl dL_writes_276 (z_exI (fun r_101 P_101 V_101 h_101 => ?_)) (hN := ⟨Nat.le_of_ble_eq_true rfl, Nat.le_of_ble_eq_true rfl⟩)
                          obtain ⟨sq, qq, hCq, hfq⟩ := o_fill hC9 sl h_101
                          have hB_101 := hCq.B
                          obtain ⟨er, es, hH9, hs9, hr9⟩ := t_fi hM hbr.1 hbr.2 hhb hH (by omega) (by omega) (by omega) qq ht9 hce9
                          subst es
                          refine z_iload E dL_writes_279 rfl ?_
                          refine z_if_ge E 289 dL_writes_281 rfl (by omega) (fun c_102 => ?_) (fun c_102 => ?_)
                          · skip
                            refine z_iload E dL_writes_289 rfl ?_
                            refine z_icne_e E (by omega) dL_writes_291 298 rfl ?_
                            refine z_iconst E dL_writes_294 ?_
                            refine z_goto E 299 dL_writes_295 rfl ?_
                            exact z_zret E Er0 dL_writes_299 (by first | decide | omega) (⟨rfl, sq, hCq, hN9.cg (fun r a b => hfq r 0 (by omega)), hH9, hs9⟩)
                          · skip
                            refine z_ldc E (-1000003) f1 rfl dL_writes_284 ?_
                            refine z_goto E 291 dL_writes_286 rfl ?_
                            refine z_icne_e E (by omega) dL_writes_291 298 rfl ?_
                            refine z_iconst E dL_writes_294 ?_
                            refine z_goto E 299 dL_writes_295 rfl ?_
                            exact z_zret E Er0 dL_writes_299 (by first | decide | omega) (⟨rfl, sq, hCq, hN9.cg (fun r a b => hfq r 0 (by omega)), hH9, hs9⟩)
                        · skip
                          refine z_aload E dL_writes_234 rfl ?_
                          refine z_iload E dL_writes_236 rfl ?_
                          refine z_iload E dL_writes_238 rfl ?_
                          refine z_iast E hv23 48 (fun _ => rfl) (by omega) (by omega) (by omega) dL_writes_240 ?_
                          obtain ⟨V105, hV105⟩ : ∃ Z : Vt, Z = up Vl_224 23 0 (updI (Vl_224 23 0) c val) := ⟨_, rfl⟩
                          rw [← hV105]
                          have hB105 : BV V105 := hV105 ▸ BV_up hBl_224 (by intro _; omega)
                          refine z_iinc E c dL_writes_241 (L' := [some (.ref (ad G 10 0)), some (.ref (ad G 16 0)), some (.ref (ad G 17 0)), some (.ref (ad G 18 0)), some (.ref (ad G 19 0)), some (.ref (ad G 20 0)), some (.ref (ad G 21 0)), some (.ref (ad G 22 0)), some (.int (iI way)), some (.int (iI y)), some (.int (iI br)), some (.int (iI (mS s (mh s br)))), some (.ref (ad G 23 0)), some (.int (iI x)), some (.int (iI ((y / 64) % 48))), some (.int (iI val)), some (.int (iI mny)), some (.int (iI (c + 1))), none]) (Nat.le_of_ble_eq_true rfl) rfl rfl ?_
                          refine z_goto E 224 dL_writes_244 rfl ?_
                          exact ih_224 (c + 1) V105 hB105 (by omega) (by omega) (by rw [hV105, hVm, up_s, upup, fl_i hc0]) (by omega)
                    exact lp_224_98 ((y / 64 % 48 + mny - ((y / 64) % 48) : Int).toNat + 1) ((y / 64) % 48) Vl_61 hBl_61 (by omega) (by omega) (by rw [Int.sub_self, flI_0]; exact hVl) (Nat.lt_succ_self _)
                · skip
                  refine z_aload E dL_writes_141 rfl ?_
                  refine z_iload E dL_writes_143 rfl ?_
                  refine z_iload E dL_writes_145 rfl ?_
                  refine z_iast E hv23 48 (fun _ => rfl) (by omega) (by omega) (by omega) dL_writes_147 ?_
                  obtain ⟨V106, hV106⟩ : ∃ Z : Vt, Z = up Vl_61 23 0 (updI (Vl_61 23 0) ((y / 64) % 48) val) := ⟨_, rfl⟩
                  rw [← hV106]
                  have hB106 : BV V106 := hV106 ▸ BV_up hBl_61 (by intro _; omega)
                  have hE : ∀ r w, r ≠ 23 → V106 r w = V r w := fun r w hr => by rw [hV106, up_r hr, hVl, up_r hr]
                  have hce9 : ∀ i, 0 ≤ i → i < 48 → V106 23 0 i = flI (fun c => mc s (mS s (mh s br)) c) (y / 64 % 48) 1 val i := fun i a b => by rw [hV106, up_s, hVl, up_s]; exact vF_1 a b
                  have hcb := ceb_fl hce9 hgb (by omega)
                  refine z_aload_n E dL_writes_148 1 rfl rfl ?_
                  refine z_aload_n E dL_writes_149 2 rfl rfl ?_
                  refine z_aload_n E dL_writes_150 3 rfl rfl ?_
                  refine z_aload E dL_writes_151 rfl ?_
                  refine z_aload E dL_writes_153 rfl ?_
                  refine z_aload E dL_writes_155 rfl ?_
                  refine z_aload E dL_writes_157 rfl ?_
                  refine z_iload E dL_writes_159 rfl ?_
                  refine z_aload E dL_writes_161 rfl ?_
                  refine z_callS E (n := 9) (st := []) [.ref (ad G 16 0), .ref (ad G 17 0), .ref (ad G 18 0), .ref (ad G 19 0), .ref (ad G 20 0), .ref (ad G 21 0), .ref (ad G 22 0), .int (iI br), .ref (ad G 23 0)] (kL_store l G P V106 br s hB106 (hN.cg (fun r a b => hE r 0 (by omega))) hM hbr hhb (by omega) hcb hv23) gL_writes_L_store rfl ⟨rfl, rfl⟩ (by decide +kernel) ⟨Nat.le_of_ble_eq_true rfl, Nat.le_of_ble_eq_true rfl⟩ rfl rfl (Nat.le_of_ble_eq_true rfl) rfl dL_writes_163 (z_exI (fun r_107 P_107 V_107 h_107 => ?_)) (hN := ⟨Nat.le_of_ble_eq_true rfl, Nat.le_of_ble_eq_true rfl⟩)
                  obtain ⟨hP_107, hB_107, h_107⟩ := h_107
                  rw [hP_107]
                  obtain ⟨hfr9, ra, s9, ht9, hra9, hN9⟩ := h_107
                  have hC9 : LC P V_107 s := hC.law hB_107 (fun r w hr => by rw [hfr9 r w (by omega)]; exact hE r w (by omega))
                  have hru := trS_le hM ht9
                  refine z_istore E dL_writes_166 (L' := [some (.ref (ad G 10 0)), some (.ref (ad G 16 0)), some (.ref (ad G 17 0)), some (.ref (ad G 18 0)), some (.ref (ad G 19 0)), some (.ref (ad G 20 0)), some (.ref (ad G 21 0)), some (.ref (ad G 22 0)), some (.int (iI way)), some (.int (iI y)), some (.int (iI br)), some (.int (iI (mS s (mh s br)))), some (.ref (ad G 23 0)), some (.int (iI x)), some (.int (iI ((y / 64) % 48))), some (.int (iI val)), some (.int (iI r_107)), none, none]) (Nat.le_of_ble_eq_true rfl) rfl ?_
                  refine z_aload_n E dL_writes_168 0 rfl rfl ?_
                  refine z_iload E dL_writes_169 rfl ?_
                  refine z_iload E dL_writes_171 rfl ?_
                  refine z_iload E dL_writes_173 rfl ?_
                  refine z_callV E (ci := 5) (N := 4) (C := RX5) (T := TX5) (n := 3) (st := []) (rfl : vl G 10 0 = true) rfl rfl [.int (iI br), .int (iI ((y / 64) % 48)), .int (iI val)] (kX5_write l G P V_107 br ((y / 64) % 48) val hC9.w0 hB_107 hC9.n0 hC9.n1 hC9.L hC9.U hC9.h5 hC9.cm hC9.w1 hC9.uw hC9.o hC9.z (by omega) (by omega) (by omega)) gL_writes_X5_write rfl ⟨rfl, rfl⟩ (by decide +kernel) ⟨Nat.le_of_ble_eq_true rfl, Nat.le_of_ble_eq_true rfl⟩ rfl rfl (Nat.le_of_ble_eq_true rfl) rfl dL_writes_175 (z_exI (fun r_108 P_108 V_108 h_108 => ?_)) (hN := ⟨Nat.le_of_ble_eq_true rfl, Nat.le_of_ble_eq_true rfl⟩)
                  obtain ⟨sq, qq, hCq, hfq⟩ := o_fill hC9 sl h_108
                  have hB_108 := hCq.B
                  obtain ⟨er, es, hH9, hs9, hr9⟩ := t_fi hM hbr.1 hbr.2 hhb hH (by omega) (by omega) (by omega) qq ht9 hce9
                  subst es
                  refine z_iload E dL_writes_178 rfl ?_
                  refine z_if_ge E 188 dL_writes_180 rfl (by omega) (fun c_109 => ?_) (fun c_109 => ?_)
                  · skip
                    refine z_iload E dL_writes_188 rfl ?_
                    refine z_icne_e E (by omega) dL_writes_190 197 rfl ?_
                    refine z_iconst E dL_writes_193 ?_
                    refine z_goto E 198 dL_writes_194 rfl ?_
                    exact z_zret E Er0 dL_writes_198 (by first | decide | omega) (⟨rfl, sq, hCq, hN9.cg (fun r a b => hfq r 0 (by omega)), hH9, hs9⟩)
                  · skip
                    refine z_ldc E (-1000003) f1 rfl dL_writes_183 ?_
                    refine z_goto E 190 dL_writes_185 rfl ?_
                    refine z_icne_e E (by omega) dL_writes_190 197 rfl ?_
                    refine z_iconst E dL_writes_193 ?_
                    refine z_goto E 198 dL_writes_194 rfl ?_
                    exact z_zret E Er0 dL_writes_198 (by first | decide | omega) (⟨rfl, sq, hCq, hN9.cg (fun r a b => hfq r 0 (by omega)), hH9, hs9⟩)
            · skip
              refine z_aload E dL_writes_68 rfl ?_
              refine z_iload E dL_writes_70 rfl ?_
              refine z_aload E dL_writes_72 rfl ?_
              refine z_aload E dL_writes_74 rfl ?_
              refine z_aload E dL_writes_76 rfl ?_
              refine z_iload E dL_writes_78 rfl ?_
              refine z_iload E dL_writes_80 rfl ?_
              refine z_callS E (n := 5) (st := [.int (iI k), .ref (ad G 23 0)]) [.ref (ad G 20 0), .ref (ad G 21 0), .ref (ad G 22 0), .int (iI (mS s (mh s br))), .int (iI k)] (kL_read l G P Vl_61 (mS s (mh s br)) k (by omega) (by omega) hNl.vr hNl.va hNl.vb (hNl.th hM hb lb.1 (by omega) (by omega))) gL_writes_L_read rfl ⟨rfl, rfl⟩ (by decide +kernel) ⟨Nat.le_of_ble_eq_true rfl, Nat.le_of_ble_eq_true rfl⟩ rfl rfl (Nat.le_of_ble_eq_true rfl) rfl dL_writes_82 (z_dtI ?_) (hN := ⟨Nat.le_of_ble_eq_true rfl, Nat.le_of_ble_eq_true rfl⟩)
              rw [hNl.cell hM hb lb.1 hk0 (by omega)]
              have bc_82 := hgb k hk0 (show k < 48 by omega)
              refine z_iast E hv23 48 (fun _ => rfl) (by omega) (by omega) (by omega) dL_writes_85 ?_
              obtain ⟨V113, hV113⟩ : ∃ Z : Vt, Z = up Vl_61 23 0 (updI (Vl_61 23 0) k (mc s (mS s (mh s br)) k)) := ⟨_, rfl⟩
              rw [← hV113]
              have hB113 : BV V113 := hV113 ▸ BV_up hBl_61 (by intro _; omega)
              refine z_iinc E k dL_writes_86 (L' := [some (.ref (ad G 10 0)), some (.ref (ad G 16 0)), some (.ref (ad G 17 0)), some (.ref (ad G 18 0)), some (.ref (ad G 19 0)), some (.ref (ad G 20 0)), some (.ref (ad G 21 0)), some (.ref (ad G 22 0)), some (.int (iI way)), some (.int (iI y)), some (.int (iI br)), some (.int (iI (mS s (mh s br)))), some (.ref (ad G 23 0)), some (.int (iI (k + 1))), none, none, none, none, none]) (Nat.le_of_ble_eq_true rfl) rfl rfl ?_
              refine z_goto E 61 dL_writes_89 rfl ?_
              exact ih_61 (k + 1) V113 hB113 (by omega) (by omega) (by rw [hV113, hVl, up_s, upup]; congr 1; exact mix_s hk0) (by omega)
        exact lp_61_6 ((48 - 0 : Int).toNat + 1) 0 V5 hB5 (by omega) (by omega) (by rw [hV5, mix_0]) (Nat.lt_succ_self _)
      · skip
        refine z_aload_n E dL_writes_15 2 rfl rfl ?_
        refine z_iload E dL_writes_16 rfl ?_
        refine z_iald E (rfl : vl G 17 0 = true) 4 rfl (by omega) (by omega) (by omega) dL_writes_18 ?_
        have hr_114 := hB.g 17 0 br rfl
        refine z_if_ge E 31 dL_writes_19 rfl (by omega) (fun c_115 => ?_) (fun c_115 => ?_)
        · skip
          refine z_iload E dL_writes_31 rfl ?_
          refine z_istore E dL_writes_33 (L' := [some (.ref (ad G 10 0)), some (.ref (ad G 16 0)), some (.ref (ad G 17 0)), some (.ref (ad G 18 0)), some (.ref (ad G 19 0)), some (.ref (ad G 20 0)), some (.ref (ad G 21 0)), some (.ref (ad G 22 0)), some (.int (iI way)), some (.int (iI y)), some (.int (iI br)), some (.int (iI i)), none, none, none, none, none, none, none]) (Nat.le_of_ble_eq_true rfl) rfl ?_
          refine z_iinc E i dL_writes_35 (L' := [some (.ref (ad G 10 0)), some (.ref (ad G 16 0)), some (.ref (ad G 17 0)), some (.ref (ad G 18 0)), some (.ref (ad G 19 0)), some (.ref (ad G 20 0)), some (.ref (ad G 21 0)), some (.ref (ad G 22 0)), some (.int (iI way)), some (.int (iI y)), some (.int (iI br)), some (.int (iI (i + 1))), none, none, none, none, none, none, none]) (Nat.le_of_ble_eq_true rfl) rfl rfl ?_
          refine z_goto E 9 dL_writes_38 rfl ?_
          exact ih_9 br (i + 1) (by omega) (by omega) (by omega) (by first | exact LpB_f hi0 (by omega) (by omega) hlp (by omega) | exact LpB_t (by omega)) (by omega)
        · skip
          refine z_iload E dL_writes_22 rfl ?_
          refine z_iconst E dL_writes_24 ?_
          refine z_iadd E dL_writes_25 ?_
          refine z_iconst E dL_writes_26 ?_
          refine z_irem E dL_writes_27 (by omega) (by omega) (by decide) (by decide) ?_
          refine z_goto E 33 dL_writes_28 rfl ?_
          refine z_istore E dL_writes_33 (L' := [some (.ref (ad G 10 0)), some (.ref (ad G 16 0)), some (.ref (ad G 17 0)), some (.ref (ad G 18 0)), some (.ref (ad G 19 0)), some (.ref (ad G 20 0)), some (.ref (ad G 21 0)), some (.ref (ad G 22 0)), some (.int (iI way)), some (.int (iI y)), some (.int (iI ((br + 1) % 4))), some (.int (iI i)), none, none, none, none, none, none, none]) (Nat.le_of_ble_eq_true rfl) rfl ?_
          refine z_iinc E i dL_writes_35 (L' := [some (.ref (ad G 10 0)), some (.ref (ad G 16 0)), some (.ref (ad G 17 0)), some (.ref (ad G 18 0)), some (.ref (ad G 19 0)), some (.ref (ad G 20 0)), some (.ref (ad G 21 0)), some (.ref (ad G 22 0)), some (.int (iI way)), some (.int (iI y)), some (.int (iI ((br + 1) % 4))), some (.int (iI (i + 1))), none, none, none, none, none, none, none]) (Nat.le_of_ble_eq_true rfl) rfl rfl ?_
          refine z_goto E 9 dL_writes_38 rfl ?_
          exact ih_9 ((br + 1) % 4) (i + 1) (by omega) (by omega) (by omega) (by first | exact LpB_f hi0 (by omega) (by omega) hlp (by omega) | exact LpB_t (by omega)) (by omega)
  exact lp_9_1 ((4 - 0 : Int).toNat + 1) (y % 4) 0 (by omega) (by omega) (by omega) (LpB_0 (by omega) (by omega)) (Nat.lt_succ_self _)
