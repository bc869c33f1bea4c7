set_option maxHeartbeats 4000000 in
set_option maxRecDepth 100000 in
theorem kX6_reads (l : Launch) (G : Gl) (P : Nat → Nat) (V : Vt) (hB : BV V) (ht : 0 ≤ V 16 0 8 ∧ V 16 0 6 ≤ 60) (htt : V 16 0 8 < 2147483000) : Met l yX6_reads wsX6_reads ({ frames := 3, cells := 0, slots := 0, locals := 66 }) (va_Pc [.ref (ad G 16 0)] (Sg G P V)) (Qk G mkI (fun r P' V' => P' = P ∧ BV V' ∧ ((nbO (rdC V) = 0 ∧ r = 0 ∧ V' = up V 16 0 (updI (V 16 0) 13 (rdC V))) ∨ (¬ nbO (rdC V) = 0 ∧ ∃ i ok f w, RdI (V 20 0) (V 16 0 6) (V 16 0 8 + 1) (V 22 0) i ok f w ∧ i ≤ nbO (rdC V) ∧ (i = nbO (rdC V) ∨ ok = 0) ∧ ((ok = 1 ∧ (f < V 16 0 6 ∧ 59 ≤ V 20 0 f ∧ V 20 0 f ≤ 59) ∧ r = 1 ∧ V' = rdW V w (f + 1)) ∨ (¬ (ok = 1 ∧ (f < V 16 0 6 ∧ 59 ≤ V 20 0 f ∧ V 20 0 f ≤ 59)) ∧ r = 0 ∧ V' = rdW V w f)))))) 0 0 (mem G) := by
  refine z_met (cc := cX6_reads) (nL := 4) (ret := (some .boolean)) (own := RX6) (by decide +kernel) rfl rfl (Nat.le_of_ble_eq_true rfl) (zz_cat rfl) (L := [some (.ref (ad G 16 0)), none, none, none]) rfl ?_
  intro X E
  have iX6 : ∀ x ∈ wsX60, x ∈ wsX6_reads := by decide +kernel
  have f0 : Cond.fieldLink RX6 207 "SharedStatesModel" "order" "I" ∈ wsX6_reads := by decide +kernel
  have f1 : Cond.fieldLink RX6 201 "SharedStatesModel" "spot" "I" ∈ wsX6_reads := by decide +kernel
  have f2 : Cond.fieldLink RX6 19 "SharedStatesModel" "text" "[I" ∈ wsX6_reads := by decide +kernel
  refine z_aload_n E dX6_reads_0 0 rfl rfl ?_
  refine z_aload_n E dX6_reads_1 0 rfl rfl ?_
  refine z_bipush E dX6_reads_2 rfl ?_
  refine z_bipush E dX6_reads_4 rfl ?_
  refine z_callV E (ci := 6) (N := 16) (C := RX6) (T := TX6) (n := 2) (st := [.ref (ad G 16 0)]) (rfl : vl 16 0 = true) rfl rfl [.int (iI 33), .int (iI 126)] (kX6_isAt l G P V 33 126 hB (by omega) (by omega) (by omega)) gX6_reads_X6_isAt rfl ⟨rfl, rfl⟩ (by decide +kernel) ⟨Nat.le_of_ble_eq_true rfl, Nat.le_of_ble_eq_true rfl⟩ rfl rfl (Nat.le_of_ble_eq_true rfl) rfl dX6_reads_6 (z_dtI ?_)
  refine z_ifeq_b E 24 dX6_reads_9 rfl (fun c_2 => ?_) (fun c_2 => ?_)
  · skip
    refine z_iconst E dX6_reads_24 ?_
    refine z_put E (ci := 6) (N := 16) (C := RX6) (T := TX6) (ty := .int) (rfl : vl 16 0 = true) (updI (V 16 0) 13 0) rfl rfl iX6 tyX6 tyX6_ok nmX6 13 (by decide) rfl f0 rfl rfl rfl rfl (Nat.le_of_ble_eq_true rfl) rfl dX6_reads_25 ?_
    obtain ⟨V3, hV3⟩ : ∃ Z : Vt, Z = up V 16 0 (updI (V 16 0) 13 0) := ⟨_, rfl⟩
    rw [← hV3]
    have hB3 : BV V3 := hV3 ▸ BV_up hB (by intro _; omega)
    have zqC : V3 16 0 13 = rdC V := by rw [hV3, up_s]; first | exact (if_pos (by assumption)).symm | exact (if_neg (by assumption)).symm
    have zqC1 : V3 = up V 16 0 (updI (V 16 0) 13 (rdC V)) := by
      rw [hV3]
      congr 2
      first | exact (if_pos (by assumption)).symm | exact (if_neg (by assumption)).symm
    refine z_aload_n E dX6_reads_28 0 rfl rfl ?_
    have hr_4 := hB3.g 16 0 13 rfl
    refine z_get E (ci := 6) (N := 16) (C := RX6) (T := TX6) (rfl : vl 16 0 = true) rfl rfl iX6 13 (by decide) rfl f0 rfl dX6_reads_29 ?_
    refine z_callS E (n := 1) (st := []) [.int (iI (V3 16 0 13))] (kX6_numbersOf l G P V3 (V3 16 0 13) (by omega)) gX6_reads_X6_numbersOf rfl ⟨rfl, rfl⟩ (by decide +kernel) ⟨Nat.le_of_ble_eq_true rfl, Nat.le_of_ble_eq_true rfl⟩ rfl rfl (Nat.le_of_ble_eq_true rfl) rfl dX6_reads_32 (z_dtI ?_)
    refine z_istore_n E dX6_reads_35 1 rfl (L' := [some (.ref (ad G 16 0)), some (.int (iI (if (V3 16 0 13) = 119 then 3 else if (V3 16 0 13) = 102 then 4 else if (V3 16 0 13) = 109 then 2 else if (V3 16 0 13) = 98 ∨ (V3 16 0 13) = 120 then 1 else 0))), none, none]) (Nat.le_of_ble_eq_true rfl) rfl ?_
    refine z_iload_n E dX6_reads_36 1 rfl rfl ?_
    refine z_if_ne E 42 dX6_reads_37 rfl (by omega) (fun c_6 => ?_) (fun c_6 => ?_)
    · skip
      have zq8a : V3 16 0 8 = V 16 0 8 := by rw [zqC1] <;> rfl
      have zqnz : ¬ nbO (rdC V) = 0 := by rw [← zqC]; assumption
      refine z_aload_n E dX6_reads_42 0 rfl rfl ?_
      refine z_dup E dX6_reads_43 rfl ?_
      have hr_7 := hB3.g 16 0 8 rfl
      refine z_get E (ci := 6) (N := 16) (C := RX6) (T := TX6) (rfl : vl 16 0 = true) rfl rfl iX6 8 (by decide) rfl f1 rfl dX6_reads_44 ?_
      refine z_iconst E dX6_reads_47 ?_
      refine z_iadd E dX6_reads_48 ?_
      refine z_put E (ci := 6) (N := 16) (C := RX6) (T := TX6) (ty := .int) (rfl : vl 16 0 = true) (updI (V3 16 0) 8 ((V3 16 0 8) + 1)) rfl rfl iX6 tyX6 tyX6_ok nmX6 8 (by decide) rfl f1 rfl rfl rfl rfl (Nat.le_of_ble_eq_true rfl) rfl dX6_reads_49 ?_
      obtain ⟨V8, hV8⟩ : ∃ Z : Vt, Z = up V3 16 0 (updI (V3 16 0) 8 ((V3 16 0 8) + 1)) := ⟨_, rfl⟩
      rw [← hV8]
      have hB8 : BV V8 := hV8 ▸ BV_up hB3 (by intro _; omega)
      have zqW : V8 = rdW V (V 22 0) (V 16 0 8 + 1) := by
        rw [hV8, zqC1]
        exact rdW_i
      have zq8 : V8 16 0 8 = V 16 0 8 + 1 := by rw [zqW]; exact rdW_8
      have zq6 : V8 16 0 6 = V 16 0 6 := by rw [zqW] <;> rfl
      refine z_aload_n E dX6_reads_52 0 rfl rfl ?_
      refine z_iconst E dX6_reads_53 ?_
      refine z_callV E (ci := 6) (N := 16) (C := RX6) (T := TX6) (n := 1) (st := []) (rfl : vl 16 0 = true) rfl rfl [.int (iI 0)] (kX6_numbered l G P V8 0 hB8 (by omega) (by omega) (by omega)) gX6_reads_X6_numbered rfl ⟨rfl, rfl⟩ (by decide +kernel) ⟨Nat.le_of_ble_eq_true rfl, Nat.le_of_ble_eq_true rfl⟩ rfl rfl (Nat.le_of_ble_eq_true rfl) rfl dX6_reads_54 (z_exI (fun r_9 P_9 V_9 h_9 => ?_))
      obtain ⟨hP_9, hB_9, h_9⟩ := h_9
      rw [hP_9]
      obtain ⟨d_9, zqd, zqr, zqv, zqb0, zqb1⟩ := h_9
      have zqbb := b2i_b (0 < d_9)
      have zqd0 := zqd.1
      rw [zqW] at zqd zqv
      rw [rdW_8] at zqd
      rw [rdW_n] at zqv
      refine z_istore_n E dX6_reads_57 2 rfl (L' := [some (.ref (ad G 16 0)), some (.int (iI (if (V3 16 0 13) = 119 then 3 else if (V3 16 0 13) = 102 then 4 else if (V3 16 0 13) = 109 then 2 else if (V3 16 0 13) = 98 ∨ (V3 16 0 13) = 120 then 1 else 0))), some (.int (iI r_9)), none]) (Nat.le_of_ble_eq_true rfl) rfl ?_
      refine z_iconst E dX6_reads_58 ?_
      refine z_istore_n E dX6_reads_59 3 rfl (L' := [some (.ref (ad G 16 0)), some (.int (iI (if (V3 16 0 13) = 119 then 3 else if (V3 16 0 13) = 102 then 4 else if (V3 16 0 13) = 109 then 2 else if (V3 16 0 13) = 98 ∨ (V3 16 0 13) = 120 then 1 else 0))), some (.int (iI r_9)), some (.int (iI 1))]) (Nat.le_of_ble_eq_true rfl) rfl ?_
      have lp_60_10 : ∀ (fuel : Nat) (nn : Int) (ok : Int) (k : Int) (Vl_60 : Vt), BV Vl_60 → (1 ≤ k) → (k ≤ nn) → (nn = nbO (rdC V)) → (ok = 0 ∨ ok = 1) → (∃ f w, RdI (V 20 0) (V 16 0 6) (V 16 0 8 + 1) (V 22 0) k ok f w ∧ Vl_60 = rdW V w f ∧ 0 ≤ f) → (nn - k : Int).toNat < fuel → Kz X G P Vl_60 [some (.ref (ad G 16 0)), some (.int (iI nn)), some (.int (iI ok)), some (.int (iI k))] 60 [] := by
        intro fuel
        induction fuel with
        | zero => intro nn ok k Vl_60 hBl_60 hk0 hk1 hn hok hRW hf_60; exact absurd hf_60 (Nat.not_lt_zero _)
        | succ fuel ih_60 =>
          intro nn ok k Vl_60 hBl_60 hk0 hk1 hn hok hRW hf_60
          obtain ⟨f, w, hR, hVl, hf0⟩ := hRW
          have zq8 : Vl_60 16 0 8 = f := by rw [hVl]; exact rdW_8
          have zq6 : Vl_60 16 0 6 = V 16 0 6 := by rw [hVl] <;> rfl
          have zq20 : Vl_60 20 0 = V 20 0 := by rw [hVl] <;> rfl
          have zqnb := nbO_bd (rdC V)
          refine z_iload_n E dX6_reads_60 3 rfl rfl ?_
          refine z_iload_n E dX6_reads_61 1 rfl rfl ?_
          refine z_icmp_ge E 98 dX6_reads_62 rfl (by omega) (by omega) (fun c_11 => ?_) (fun c_11 => ?_)
          · skip
            refine z_iload_n E dX6_reads_98 2 rfl rfl ?_
            refine z_if_eq E 115 dX6_reads_99 rfl (by omega) (fun c_12 => ?_) (fun c_12 => ?_)
            · skip
              refine z_iconst E dX6_reads_115 ?_
              exact z_zret E dX6_reads_116 (by first | decide | omega) (by first | exact ⟨rfl, hBl_60, Or.inr ⟨zqnz, k, ok, f, w, hR, by omega, Or.inr (by omega), Or.inr ⟨fun z => absurd z.1 (by omega), rfl, hVl⟩⟩⟩ | exact ⟨rfl, hBl_60, Or.inr ⟨zqnz, k, ok, f, w, hR, by omega, Or.inl (by omega), Or.inl ⟨by omega, (by rcases zqh105 with z | z; exact z.1; exact absurd z.2.1 (by omega)), rfl, (by rcases zqh105 with z | z; (rw [z.2.2, hVl]; exact rdW_p); exact absurd z.2.1 (by omega))⟩⟩⟩ | exact ⟨rfl, hBl_60, Or.inr ⟨zqnz, k, ok, f, w, hR, by omega, Or.inl (by omega), Or.inr ⟨(by rcases zqh105 with z | z; exact absurd z.2.1 (by omega); exact fun y => z.1 y.2), rfl, (by rcases zqh105 with z | z; exact absurd z.2.1 (by omega); rw [z.2.2]; exact hVl)⟩⟩⟩)
            · skip
              refine z_aload_n E dX6_reads_102 0 rfl rfl ?_
              refine z_bipush E dX6_reads_103 rfl ?_
              refine z_callV E (ci := 6) (N := 16) (C := RX6) (T := TX6) (n := 1) (st := []) (rfl : vl 16 0 = true) rfl rfl [.int (iI 59)] (kX6_sign l G P Vl_60 59 hBl_60 (by omega) (by omega)) gX6_reads_X6_sign rfl ⟨rfl, rfl⟩ (by decide +kernel) ⟨Nat.le_of_ble_eq_true rfl, Nat.le_of_ble_eq_true rfl⟩ rfl rfl (Nat.le_of_ble_eq_true rfl) rfl dX6_reads_105 (z_exI (fun r_13 P_13 V_13 h_13 => ?_))
              obtain ⟨hP_13, hB_13, h_13⟩ := h_13
              rw [hP_13]
              have zqh105 := h_13
              rw [zq8, zq6, zq20] at zqh105
              refine z_if_eq E 115 dX6_reads_108 rfl (by omega) (fun c_14 => ?_) (fun c_14 => ?_)
              · skip
                refine z_iconst E dX6_reads_115 ?_
                exact z_zret E dX6_reads_116 (by first | decide | omega) (by first | exact ⟨rfl, hB_13, Or.inr ⟨zqnz, k, ok, f, w, hR, by omega, Or.inr (by omega), Or.inr ⟨fun z => absurd z.1 (by omega), rfl, hVl⟩⟩⟩ | exact ⟨rfl, hB_13, Or.inr ⟨zqnz, k, ok, f, w, hR, by omega, Or.inl (by omega), Or.inl ⟨by omega, (by rcases zqh105 with z | z; exact z.1; exact absurd z.2.1 (by omega)), rfl, (by rcases zqh105 with z | z; (rw [z.2.2, hVl]; exact rdW_p); exact absurd z.2.1 (by omega))⟩⟩⟩ | exact ⟨rfl, hB_13, Or.inr ⟨zqnz, k, ok, f, w, hR, by omega, Or.inl (by omega), Or.inr ⟨(by rcases zqh105 with z | z; exact absurd z.2.1 (by omega); exact fun y => z.1 y.2), rfl, (by rcases zqh105 with z | z; exact absurd z.2.1 (by omega); rw [z.2.2]; exact hVl)⟩⟩⟩)
              · skip
                refine z_iconst E dX6_reads_111 ?_
                refine z_goto E 116 dX6_reads_112 rfl ?_
                exact z_zret E dX6_reads_116 (by first | decide | omega) (by first | exact ⟨rfl, hB_13, Or.inr ⟨zqnz, k, ok, f, w, hR, by omega, Or.inr (by omega), Or.inr ⟨fun z => absurd z.1 (by omega), rfl, hVl⟩⟩⟩ | exact ⟨rfl, hB_13, Or.inr ⟨zqnz, k, ok, f, w, hR, by omega, Or.inl (by omega), Or.inl ⟨by omega, (by rcases zqh105 with z | z; exact z.1; exact absurd z.2.1 (by omega)), rfl, (by rcases zqh105 with z | z; (rw [z.2.2, hVl]; exact rdW_p); exact absurd z.2.1 (by omega))⟩⟩⟩ | exact ⟨rfl, hB_13, Or.inr ⟨zqnz, k, ok, f, w, hR, by omega, Or.inl (by omega), Or.inr ⟨(by rcases zqh105 with z | z; exact absurd z.2.1 (by omega); exact fun y => z.1 y.2), rfl, (by rcases zqh105 with z | z; exact absurd z.2.1 (by omega); rw [z.2.2]; exact hVl)⟩⟩⟩)
          · skip
            refine z_iload_n E dX6_reads_65 2 rfl rfl ?_
            refine z_if_eq E 98 dX6_reads_66 rfl (by omega) (fun c_15 => ?_) (fun c_15 => ?_)
            · skip
              refine z_iload_n E dX6_reads_98 2 rfl rfl ?_
              refine z_if_eq E 115 dX6_reads_99 rfl (by omega) (fun c_16 => ?_) (fun c_16 => ?_)
              · skip
                refine z_iconst E dX6_reads_115 ?_
                exact z_zret E dX6_reads_116 (by first | decide | omega) (by first | exact ⟨rfl, hBl_60, Or.inr ⟨zqnz, k, ok, f, w, hR, by omega, Or.inr (by omega), Or.inr ⟨fun z => absurd z.1 (by omega), rfl, hVl⟩⟩⟩ | exact ⟨rfl, hBl_60, Or.inr ⟨zqnz, k, ok, f, w, hR, by omega, Or.inl (by omega), Or.inl ⟨by omega, (by rcases zqh105 with z | z; exact z.1; exact absurd z.2.1 (by omega)), rfl, (by rcases zqh105 with z | z; (rw [z.2.2, hVl]; exact rdW_p); exact absurd z.2.1 (by omega))⟩⟩⟩ | exact ⟨rfl, hBl_60, Or.inr ⟨zqnz, k, ok, f, w, hR, by omega, Or.inl (by omega), Or.inr ⟨(by rcases zqh105 with z | z; exact absurd z.2.1 (by omega); exact fun y => z.1 y.2), rfl, (by rcases zqh105 with z | z; exact absurd z.2.1 (by omega); rw [z.2.2]; exact hVl)⟩⟩⟩)
              · skip
                refine z_aload_n E dX6_reads_102 0 rfl rfl ?_
                refine z_bipush E dX6_reads_103 rfl ?_
                refine z_callV E (ci := 6) (N := 16) (C := RX6) (T := TX6) (n := 1) (st := []) (rfl : vl 16 0 = true) rfl rfl [.int (iI 59)] (kX6_sign l G P Vl_60 59 hBl_60 (by omega) (by omega)) gX6_reads_X6_sign rfl ⟨rfl, rfl⟩ (by decide +kernel) ⟨Nat.le_of_ble_eq_true rfl, Nat.le_of_ble_eq_true rfl⟩ rfl rfl (Nat.le_of_ble_eq_true rfl) rfl dX6_reads_105 (z_exI (fun r_17 P_17 V_17 h_17 => ?_))
                obtain ⟨hP_17, hB_17, h_17⟩ := h_17
                rw [hP_17]
                have zqh105 := h_17
                rw [zq8, zq6, zq20] at zqh105
                refine z_if_eq E 115 dX6_reads_108 rfl (by omega) (fun c_18 => ?_) (fun c_18 => ?_)
                · skip
                  refine z_iconst E dX6_reads_115 ?_
                  exact z_zret E dX6_reads_116 (by first | decide | omega) (by first | exact ⟨rfl, hB_17, Or.inr ⟨zqnz, k, ok, f, w, hR, by omega, Or.inr (by omega), Or.inr ⟨fun z => absurd z.1 (by omega), rfl, hVl⟩⟩⟩ | exact ⟨rfl, hB_17, Or.inr ⟨zqnz, k, ok, f, w, hR, by omega, Or.inl (by omega), Or.inl ⟨by omega, (by rcases zqh105 with z | z; exact z.1; exact absurd z.2.1 (by omega)), rfl, (by rcases zqh105 with z | z; (rw [z.2.2, hVl]; exact rdW_p); exact absurd z.2.1 (by omega))⟩⟩⟩ | exact ⟨rfl, hB_17, Or.inr ⟨zqnz, k, ok, f, w, hR, by omega, Or.inl (by omega), Or.inr ⟨(by rcases zqh105 with z | z; exact absurd z.2.1 (by omega); exact fun y => z.1 y.2), rfl, (by rcases zqh105 with z | z; exact absurd z.2.1 (by omega); rw [z.2.2]; exact hVl)⟩⟩⟩)
                · skip
                  refine z_iconst E dX6_reads_111 ?_
                  refine z_goto E 116 dX6_reads_112 rfl ?_
                  exact z_zret E dX6_reads_116 (by first | decide | omega) (by first | exact ⟨rfl, hB_17, Or.inr ⟨zqnz, k, ok, f, w, hR, by omega, Or.inr (by omega), Or.inr ⟨fun z => absurd z.1 (by omega), rfl, hVl⟩⟩⟩ | exact ⟨rfl, hB_17, Or.inr ⟨zqnz, k, ok, f, w, hR, by omega, Or.inl (by omega), Or.inl ⟨by omega, (by rcases zqh105 with z | z; exact z.1; exact absurd z.2.1 (by omega)), rfl, (by rcases zqh105 with z | z; (rw [z.2.2, hVl]; exact rdW_p); exact absurd z.2.1 (by omega))⟩⟩⟩ | exact ⟨rfl, hB_17, Or.inr ⟨zqnz, k, ok, f, w, hR, by omega, Or.inl (by omega), Or.inr ⟨(by rcases zqh105 with z | z; exact absurd z.2.1 (by omega); exact fun y => z.1 y.2), rfl, (by rcases zqh105 with z | z; exact absurd z.2.1 (by omega); rw [z.2.2]; exact hVl)⟩⟩⟩)
            · skip
              refine z_aload_n E dX6_reads_69 0 rfl rfl ?_
              refine z_bipush E dX6_reads_70 rfl ?_
              refine z_callV E (ci := 6) (N := 16) (C := RX6) (T := TX6) (n := 1) (st := []) (rfl : vl 16 0 = true) rfl rfl [.int (iI 44)] (kX6_sign l G P Vl_60 44 hBl_60 (by omega) (by omega)) gX6_reads_X6_sign rfl ⟨rfl, rfl⟩ (by decide +kernel) ⟨Nat.le_of_ble_eq_true rfl, Nat.le_of_ble_eq_true rfl⟩ rfl rfl (Nat.le_of_ble_eq_true rfl) rfl dX6_reads_72 (z_exI (fun r_19 P_19 V_19 h_19 => ?_))
              obtain ⟨hP_19, hB_19, h_19⟩ := h_19
              rw [hP_19]
              have zqh72 := h_19
              rw [zq8, zq6, zq20] at zqh72
              refine z_if_eq E 90 dX6_reads_75 rfl (by omega) (fun c_20 => ?_) (fun c_20 => ?_)
              · skip
                refine z_iconst E dX6_reads_90 ?_
                refine z_istore_n E dX6_reads_91 2 rfl (L' := [some (.ref (ad G 16 0)), some (.int (iI nn)), some (.int (iI 0)), some (.int (iI k))]) (Nat.le_of_ble_eq_true rfl) rfl ?_
                refine z_iinc E k dX6_reads_92 (L' := [some (.ref (ad G 16 0)), some (.int (iI nn)), some (.int (iI 0)), some (.int (iI (k + 1)))]) (Nat.le_of_ble_eq_true rfl) rfl rfl ?_
                refine z_goto E 60 dX6_reads_95 rfl ?_
                exact ih_60 nn 0 (k + 1) V_19 hB_19 (by omega) (by omega) (by omega) (by omega) (by first | exact ⟨_, _, RdI.to (RdI.step hk0 (RdI.to hR (by omega)) zqsep zqd) (by omega), zqv, by omega⟩ | exact ⟨_, _, RdI.nosep hk0 (RdI.to hR (by omega)) (by rcases zqh72 with z | z; exact absurd z.2.1 (by omega); exact z.1), (by rcases zqh72 with z | z; exact absurd z.2.1 (by omega); rw [z.2.2]; exact hVl), hf0⟩) (by omega)
              · skip
                have zqsep : f < V 16 0 6 ∧ 44 ≤ V 20 0 f ∧ V 20 0 f ≤ 44 := by rcases zqh72 with z | z; exact z.1; exact absurd z.2.1 (by omega)
                have zqS : V_19 = rdW V w (f + 1) := by
                  rcases zqh72 with z | z
                  · rw [z.2.2, hVl]; exact rdW_p
                  · exact absurd z.2.1 (by omega)
                have zq8b : V_19 16 0 8 = f + 1 := by rw [zqS]; exact rdW_8
                have zq6b : V_19 16 0 6 = V 16 0 6 := by rw [zqS] <;> rfl
                refine z_aload_n E dX6_reads_78 0 rfl rfl ?_
                refine z_iload_n E dX6_reads_79 3 rfl rfl ?_
                refine z_callV E (ci := 6) (N := 16) (C := RX6) (T := TX6) (n := 1) (st := []) (rfl : vl 16 0 = true) rfl rfl [.int (iI k)] (kX6_numbered l G P V_19 k hB_19 (by omega) (by omega) (by omega)) gX6_reads_X6_numbered rfl ⟨rfl, rfl⟩ (by decide +kernel) ⟨Nat.le_of_ble_eq_true rfl, Nat.le_of_ble_eq_true rfl⟩ rfl rfl (Nat.le_of_ble_eq_true rfl) rfl dX6_reads_80 (z_exI (fun r_21 P_21 V_21 h_21 => ?_))
                obtain ⟨hP_21, hB_21, h_21⟩ := h_21
                rw [hP_21]
                obtain ⟨d_21, zqd, zqr, zqv, zqb0, zqb1⟩ := h_21
                have zqbb := b2i_b (0 < d_21)
                have zqd0 := zqd.1
                rw [zqS] at zqd zqv
                rw [rdW_8] at zqd
                rw [rdW_n] at zqv
                refine z_if_eq E 90 dX6_reads_83 rfl (by omega) (fun c_22 => ?_) (fun c_22 => ?_)
                · skip
                  refine z_iconst E dX6_reads_90 ?_
                  refine z_istore_n E dX6_reads_91 2 rfl (L' := [some (.ref (ad G 16 0)), some (.int (iI nn)), some (.int (iI 0)), some (.int (iI k))]) (Nat.le_of_ble_eq_true rfl) rfl ?_
                  refine z_iinc E k dX6_reads_92 (L' := [some (.ref (ad G 16 0)), some (.int (iI nn)), some (.int (iI 0)), some (.int (iI (k + 1)))]) (Nat.le_of_ble_eq_true rfl) rfl rfl ?_
                  refine z_goto E 60 dX6_reads_95 rfl ?_
                  exact ih_60 nn 0 (k + 1) V_21 hB_21 (by omega) (by omega) (by omega) (by omega) (by first | exact ⟨_, _, RdI.to (RdI.step hk0 (RdI.to hR (by omega)) zqsep zqd) (by omega), zqv, by omega⟩ | exact ⟨_, _, RdI.nosep hk0 (RdI.to hR (by omega)) (by rcases zqh72 with z | z; exact absurd z.2.1 (by omega); exact z.1), (by rcases zqh72 with z | z; exact absurd z.2.1 (by omega); rw [z.2.2]; exact hVl), hf0⟩) (by omega)
                · skip
                  refine z_iconst E dX6_reads_86 ?_
                  refine z_goto E 91 dX6_reads_87 rfl ?_
                  refine z_istore_n E dX6_reads_91 2 rfl (L' := [some (.ref (ad G 16 0)), some (.int (iI nn)), some (.int (iI 1)), some (.int (iI k))]) (Nat.le_of_ble_eq_true rfl) rfl ?_
                  refine z_iinc E k dX6_reads_92 (L' := [some (.ref (ad G 16 0)), some (.int (iI nn)), some (.int (iI 1)), some (.int (iI (k + 1)))]) (Nat.le_of_ble_eq_true rfl) rfl rfl ?_
                  refine z_goto E 60 dX6_reads_95 rfl ?_
                  exact ih_60 nn 1 (k + 1) V_21 hB_21 (by omega) (by omega) (by omega) (by omega) (by first | exact ⟨_, _, RdI.to (RdI.step hk0 (RdI.to hR (by omega)) zqsep zqd) (by omega), zqv, by omega⟩ | exact ⟨_, _, RdI.nosep hk0 (RdI.to hR (by omega)) (by rcases zqh72 with z | z; exact absurd z.2.1 (by omega); exact z.1), (by rcases zqh72 with z | z; exact absurd z.2.1 (by omega); rw [z.2.2]; exact hVl), hf0⟩) (by omega)
      exact lp_60_10 (((if (V3 16 0 13) = 119 then 3 else if (V3 16 0 13) = 102 then 4 else if (V3 16 0 13) = 109 then 2 else if (V3 16 0 13) = 98 ∨ (V3 16 0 13) = 120 then 1 else 0) - 1 : Int).toNat + 1) (if (V3 16 0 13) = 119 then 3 else if (V3 16 0 13) = 102 then 4 else if (V3 16 0 13) = 109 then 2 else if (V3 16 0 13) = 98 ∨ (V3 16 0 13) = 120 then 1 else 0) r_9 1 V_9 hB_9 (by omega) (by show (1 : Int) ≤ nbO _; rw [zqC]; have := nbO_bd (rdC V); omega) (by rw [← zqC] <;> rfl) (by omega) ⟨_, _, RdI.to (RdI.first zqd) zqr.symm, zqv, by omega⟩ (Nat.lt_succ_self _)
    · skip
      refine z_iconst E dX6_reads_40 ?_
      exact z_zret E dX6_reads_41 (by first | decide | omega) (⟨rfl, hB3, Or.inl ⟨by rw [← zqC]; assumption, rfl, zqC1⟩⟩)
  · skip
    refine z_aload_n E dX6_reads_12 0 rfl rfl ?_
    refine z_get E (ci := 6) (N := 16) (C := RX6) (T := TX6) (rfl : vl 16 0 = true) rfl rfl iX6 5 (by decide) rfl f2 rfl dX6_reads_13 ?_
    refine z_aload_n E dX6_reads_16 0 rfl rfl ?_
    have hr_23 := hB.g 16 0 8 rfl
    refine z_get E (ci := 6) (N := 16) (C := RX6) (T := TX6) (rfl : vl 16 0 = true) rfl rfl iX6 8 (by decide) rfl f1 rfl dX6_reads_17 ?_
    refine z_iald E (rfl : vl 20 0 = true) 60 rfl (by omega) (by omega) (by omega) dX6_reads_20 ?_
    have hr_24 := hB.g 20 0 (V 16 0 8) rfl
    refine z_goto E 25 dX6_reads_21 rfl ?_
    refine z_put E (ci := 6) (N := 16) (C := RX6) (T := TX6) (ty := .int) (rfl : vl 16 0 = true) (updI (V 16 0) 13 (V 20 0 (V 16 0 8))) rfl rfl iX6 tyX6 tyX6_ok nmX6 13 (by decide) rfl f0 rfl rfl rfl rfl (Nat.le_of_ble_eq_true rfl) rfl dX6_reads_25 ?_
    obtain ⟨V25, hV25⟩ : ∃ Z : Vt, Z = up V 16 0 (updI (V 16 0) 13 (V 20 0 (V 16 0 8))) := ⟨_, rfl⟩
    rw [← hV25]
    have hB25 : BV V25 := hV25 ▸ BV_up hB (by intro _; omega)
    have zqC : V25 16 0 13 = rdC V := by rw [hV25, up_s]; first | exact (if_pos (by assumption)).symm | exact (if_neg (by assumption)).symm
    have zqC1 : V25 = up V 16 0 (updI (V 16 0) 13 (rdC V)) := by
      rw [hV25]
      congr 2
      first | exact (if_pos (by assumption)).symm | exact (if_neg (by assumption)).symm
    refine z_aload_n E dX6_reads_28 0 rfl rfl ?_
    have hr_26 := hB25.g 16 0 13 rfl
    refine z_get E (ci := 6) (N := 16) (C := RX6) (T := TX6) (rfl : vl 16 0 = true) rfl rfl iX6 13 (by decide) rfl f0 rfl dX6_reads_29 ?_
    refine z_callS E (n := 1) (st := []) [.int (iI (V25 16 0 13))] (kX6_numbersOf l G P V25 (V25 16 0 13) (by omega)) gX6_reads_X6_numbersOf rfl ⟨rfl, rfl⟩ (by decide +kernel) ⟨Nat.le_of_ble_eq_true rfl, Nat.le_of_ble_eq_true rfl⟩ rfl rfl (Nat.le_of_ble_eq_true rfl) rfl dX6_reads_32 (z_dtI ?_)
    refine z_istore_n E dX6_reads_35 1 rfl (L' := [some (.ref (ad G 16 0)), some (.int (iI (if (V25 16 0 13) = 119 then 3 else if (V25 16 0 13) = 102 then 4 else if (V25 16 0 13) = 109 then 2 else if (V25 16 0 13) = 98 ∨ (V25 16 0 13) = 120 then 1 else 0))), none, none]) (Nat.le_of_ble_eq_true rfl) rfl ?_
    refine z_iload_n E dX6_reads_36 1 rfl rfl ?_
    refine z_if_ne E 42 dX6_reads_37 rfl (by omega) (fun c_28 => ?_) (fun c_28 => ?_)
    · skip
      have zq8a : V25 16 0 8 = V 16 0 8 := by rw [zqC1] <;> rfl
      have zqnz : ¬ nbO (rdC V) = 0 := by rw [← zqC]; assumption
      refine z_aload_n E dX6_reads_42 0 rfl rfl ?_
      refine z_dup E dX6_reads_43 rfl ?_
      have hr_29 := hB25.g 16 0 8 rfl
      refine z_get E (ci := 6) (N := 16) (C := RX6) (T := TX6) (rfl : vl 16 0 = true) rfl rfl iX6 8 (by decide) rfl f1 rfl dX6_reads_44 ?_
      refine z_iconst E dX6_reads_47 ?_
      refine z_iadd E dX6_reads_48 ?_
      refine z_put E (ci := 6) (N := 16) (C := RX6) (T := TX6) (ty := .int) (rfl : vl 16 0 = true) (updI (V25 16 0) 8 ((V25 16 0 8) + 1)) rfl rfl iX6 tyX6 tyX6_ok nmX6 8 (by decide) rfl f1 rfl rfl rfl rfl (Nat.le_of_ble_eq_true rfl) rfl dX6_reads_49 ?_
      obtain ⟨V30, hV30⟩ : ∃ Z : Vt, Z = up V25 16 0 (updI (V25 16 0) 8 ((V25 16 0 8) + 1)) := ⟨_, rfl⟩
      rw [← hV30]
      have hB30 : BV V30 := hV30 ▸ BV_up hB25 (by intro _; omega)
      have zqW : V30 = rdW V (V 22 0) (V 16 0 8 + 1) := by
        rw [hV30, zqC1]
        exact rdW_i
      have zq8 : V30 16 0 8 = V 16 0 8 + 1 := by rw [zqW]; exact rdW_8
      have zq6 : V30 16 0 6 = V 16 0 6 := by rw [zqW] <;> rfl
      refine z_aload_n E dX6_reads_52 0 rfl rfl ?_
      refine z_iconst E dX6_reads_53 ?_
      refine z_callV E (ci := 6) (N := 16) (C := RX6) (T := TX6) (n := 1) (st := []) (rfl : vl 16 0 = true) rfl rfl [.int (iI 0)] (kX6_numbered l G P V30 0 hB30 (by omega) (by omega) (by omega)) gX6_reads_X6_numbered rfl ⟨rfl, rfl⟩ (by decide +kernel) ⟨Nat.le_of_ble_eq_true rfl, Nat.le_of_ble_eq_true rfl⟩ rfl rfl (Nat.le_of_ble_eq_true rfl) rfl dX6_reads_54 (z_exI (fun r_31 P_31 V_31 h_31 => ?_))
      obtain ⟨hP_31, hB_31, h_31⟩ := h_31
      rw [hP_31]
      obtain ⟨d_31, zqd, zqr, zqv, zqb0, zqb1⟩ := h_31
      have zqbb := b2i_b (0 < d_31)
      have zqd0 := zqd.1
      rw [zqW] at zqd zqv
      rw [rdW_8] at zqd
      rw [rdW_n] at zqv
      refine z_istore_n E dX6_reads_57 2 rfl (L' := [some (.ref (ad G 16 0)), some (.int (iI (if (V25 16 0 13) = 119 then 3 else if (V25 16 0 13) = 102 then 4 else if (V25 16 0 13) = 109 then 2 else if (V25 16 0 13) = 98 ∨ (V25 16 0 13) = 120 then 1 else 0))), some (.int (iI r_31)), none]) (Nat.le_of_ble_eq_true rfl) rfl ?_
      refine z_iconst E dX6_reads_58 ?_
      refine z_istore_n E dX6_reads_59 3 rfl (L' := [some (.ref (ad G 16 0)), some (.int (iI (if (V25 16 0 13) = 119 then 3 else if (V25 16 0 13) = 102 then 4 else if (V25 16 0 13) = 109 then 2 else if (V25 16 0 13) = 98 ∨ (V25 16 0 13) = 120 then 1 else 0))), some (.int (iI r_31)), some (.int (iI 1))]) (Nat.le_of_ble_eq_true rfl) rfl ?_
      have lp_60_32 : ∀ (fuel : Nat) (nn : Int) (ok : Int) (k : Int) (Vl_60 : Vt), BV Vl_60 → (1 ≤ k) → (k ≤ nn) → (nn = nbO (rdC V)) → (ok = 0 ∨ ok = 1) → (∃ f w, RdI (V 20 0) (V 16 0 6) (V 16 0 8 + 1) (V 22 0) k ok f w ∧ Vl_60 = rdW V w f ∧ 0 ≤ f) → (nn - k : Int).toNat < fuel → Kz X G P Vl_60 [some (.ref (ad G 16 0)), some (.int (iI nn)), some (.int (iI ok)), some (.int (iI k))] 60 [] := by
        intro fuel
        induction fuel with
        | zero => intro nn ok k Vl_60 hBl_60 hk0 hk1 hn hok hRW hf_60; exact absurd hf_60 (Nat.not_lt_zero _)
        | succ fuel ih_60 =>
          intro nn ok k Vl_60 hBl_60 hk0 hk1 hn hok hRW hf_60
          obtain ⟨f, w, hR, hVl, hf0⟩ := hRW
          have zq8 : Vl_60 16 0 8 = f := by rw [hVl]; exact rdW_8
          have zq6 : Vl_60 16 0 6 = V 16 0 6 := by rw [hVl] <;> rfl
          have zq20 : Vl_60 20 0 = V 20 0 := by rw [hVl] <;> rfl
          have zqnb := nbO_bd (rdC V)
          refine z_iload_n E dX6_reads_60 3 rfl rfl ?_
          refine z_iload_n E dX6_reads_61 1 rfl rfl ?_
          refine z_icmp_ge E 98 dX6_reads_62 rfl (by omega) (by omega) (fun c_33 => ?_) (fun c_33 => ?_)
          · skip
            refine z_iload_n E dX6_reads_98 2 rfl rfl ?_
            refine z_if_eq E 115 dX6_reads_99 rfl (by omega) (fun c_34 => ?_) (fun c_34 => ?_)
            · skip
              refine z_iconst E dX6_reads_115 ?_
              exact z_zret E dX6_reads_116 (by first | decide | omega) (by first | exact ⟨rfl, hBl_60, Or.inr ⟨zqnz, k, ok, f, w, hR, by omega, Or.inr (by omega), Or.inr ⟨fun z => absurd z.1 (by omega), rfl, hVl⟩⟩⟩ | exact ⟨rfl, hBl_60, Or.inr ⟨zqnz, k, ok, f, w, hR, by omega, Or.inl (by omega), Or.inl ⟨by omega, (by rcases zqh105 with z | z; exact z.1; exact absurd z.2.1 (by omega)), rfl, (by rcases zqh105 with z | z; (rw [z.2.2, hVl]; exact rdW_p); exact absurd z.2.1 (by omega))⟩⟩⟩ | exact ⟨rfl, hBl_60, Or.inr ⟨zqnz, k, ok, f, w, hR, by omega, Or.inl (by omega), Or.inr ⟨(by rcases zqh105 with z | z; exact absurd z.2.1 (by omega); exact fun y => z.1 y.2), rfl, (by rcases zqh105 with z | z; exact absurd z.2.1 (by omega); rw [z.2.2]; exact hVl)⟩⟩⟩)
            · skip
              refine z_aload_n E dX6_reads_102 0 rfl rfl ?_
              refine z_bipush E dX6_reads_103 rfl ?_
              refine z_callV E (ci := 6) (N := 16) (C := RX6) (T := TX6) (n := 1) (st := []) (rfl : vl 16 0 = true) rfl rfl [.int (iI 59)] (kX6_sign l G P Vl_60 59 hBl_60 (by omega) (by omega)) gX6_reads_X6_sign rfl ⟨rfl, rfl⟩ (by decide +kernel) ⟨Nat.le_of_ble_eq_true rfl, Nat.le_of_ble_eq_true rfl⟩ rfl rfl (Nat.le_of_ble_eq_true rfl) rfl dX6_reads_105 (z_exI (fun r_35 P_35 V_35 h_35 => ?_))
              obtain ⟨hP_35, hB_35, h_35⟩ := h_35
              rw [hP_35]
              have zqh105 := h_35
              rw [zq8, zq6, zq20] at zqh105
              refine z_if_eq E 115 dX6_reads_108 rfl (by omega) (fun c_36 => ?_) (fun c_36 => ?_)
              · skip
                refine z_iconst E dX6_reads_115 ?_
                exact z_zret E dX6_reads_116 (by first | decide | omega) (by first | exact ⟨rfl, hB_35, Or.inr ⟨zqnz, k, ok, f, w, hR, by omega, Or.inr (by omega), Or.inr ⟨fun z => absurd z.1 (by omega), rfl, hVl⟩⟩⟩ | exact ⟨rfl, hB_35, Or.inr ⟨zqnz, k, ok, f, w, hR, by omega, Or.inl (by omega), Or.inl ⟨by omega, (by rcases zqh105 with z | z; exact z.1; exact absurd z.2.1 (by omega)), rfl, (by rcases zqh105 with z | z; (rw [z.2.2, hVl]; exact rdW_p); exact absurd z.2.1 (by omega))⟩⟩⟩ | exact ⟨rfl, hB_35, Or.inr ⟨zqnz, k, ok, f, w, hR, by omega, Or.inl (by omega), Or.inr ⟨(by rcases zqh105 with z | z; exact absurd z.2.1 (by omega); exact fun y => z.1 y.2), rfl, (by rcases zqh105 with z | z; exact absurd z.2.1 (by omega); rw [z.2.2]; exact hVl)⟩⟩⟩)
              · skip
                refine z_iconst E dX6_reads_111 ?_
                refine z_goto E 116 dX6_reads_112 rfl ?_
                exact z_zret E dX6_reads_116 (by first | decide | omega) (by first | exact ⟨rfl, hB_35, Or.inr ⟨zqnz, k, ok, f, w, hR, by omega, Or.inr (by omega), Or.inr ⟨fun z => absurd z.1 (by omega), rfl, hVl⟩⟩⟩ | exact ⟨rfl, hB_35, Or.inr ⟨zqnz, k, ok, f, w, hR, by omega, Or.inl (by omega), Or.inl ⟨by omega, (by rcases zqh105 with z | z; exact z.1; exact absurd z.2.1 (by omega)), rfl, (by rcases zqh105 with z | z; (rw [z.2.2, hVl]; exact rdW_p); exact absurd z.2.1 (by omega))⟩⟩⟩ | exact ⟨rfl, hB_35, Or.inr ⟨zqnz, k, ok, f, w, hR, by omega, Or.inl (by omega), Or.inr ⟨(by rcases zqh105 with z | z; exact absurd z.2.1 (by omega); exact fun y => z.1 y.2), rfl, (by rcases zqh105 with z | z; exact absurd z.2.1 (by omega); rw [z.2.2]; exact hVl)⟩⟩⟩)
          · skip
            refine z_iload_n E dX6_reads_65 2 rfl rfl ?_
            refine z_if_eq E 98 dX6_reads_66 rfl (by omega) (fun c_37 => ?_) (fun c_37 => ?_)
            · skip
              refine z_iload_n E dX6_reads_98 2 rfl rfl ?_
              refine z_if_eq E 115 dX6_reads_99 rfl (by omega) (fun c_38 => ?_) (fun c_38 => ?_)
              · skip
                refine z_iconst E dX6_reads_115 ?_
                exact z_zret E dX6_reads_116 (by first | decide | omega) (by first | exact ⟨rfl, hBl_60, Or.inr ⟨zqnz, k, ok, f, w, hR, by omega, Or.inr (by omega), Or.inr ⟨fun z => absurd z.1 (by omega), rfl, hVl⟩⟩⟩ | exact ⟨rfl, hBl_60, Or.inr ⟨zqnz, k, ok, f, w, hR, by omega, Or.inl (by omega), Or.inl ⟨by omega, (by rcases zqh105 with z | z; exact z.1; exact absurd z.2.1 (by omega)), rfl, (by rcases zqh105 with z | z; (rw [z.2.2, hVl]; exact rdW_p); exact absurd z.2.1 (by omega))⟩⟩⟩ | exact ⟨rfl, hBl_60, Or.inr ⟨zqnz, k, ok, f, w, hR, by omega, Or.inl (by omega), Or.inr ⟨(by rcases zqh105 with z | z; exact absurd z.2.1 (by omega); exact fun y => z.1 y.2), rfl, (by rcases zqh105 with z | z; exact absurd z.2.1 (by omega); rw [z.2.2]; exact hVl)⟩⟩⟩)
              · skip
                refine z_aload_n E dX6_reads_102 0 rfl rfl ?_
                refine z_bipush E dX6_reads_103 rfl ?_
                refine z_callV E (ci := 6) (N := 16) (C := RX6) (T := TX6) (n := 1) (st := []) (rfl : vl 16 0 = true) rfl rfl [.int (iI 59)] (kX6_sign l G P Vl_60 59 hBl_60 (by omega) (by omega)) gX6_reads_X6_sign rfl ⟨rfl, rfl⟩ (by decide +kernel) ⟨Nat.le_of_ble_eq_true rfl, Nat.le_of_ble_eq_true rfl⟩ rfl rfl (Nat.le_of_ble_eq_true rfl) rfl dX6_reads_105 (z_exI (fun r_39 P_39 V_39 h_39 => ?_))
                obtain ⟨hP_39, hB_39, h_39⟩ := h_39
                rw [hP_39]
                have zqh105 := h_39
                rw [zq8, zq6, zq20] at zqh105
                refine z_if_eq E 115 dX6_reads_108 rfl (by omega) (fun c_40 => ?_) (fun c_40 => ?_)
                · skip
                  refine z_iconst E dX6_reads_115 ?_
                  exact z_zret E dX6_reads_116 (by first | decide | omega) (by first | exact ⟨rfl, hB_39, Or.inr ⟨zqnz, k, ok, f, w, hR, by omega, Or.inr (by omega), Or.inr ⟨fun z => absurd z.1 (by omega), rfl, hVl⟩⟩⟩ | exact ⟨rfl, hB_39, Or.inr ⟨zqnz, k, ok, f, w, hR, by omega, Or.inl (by omega), Or.inl ⟨by omega, (by rcases zqh105 with z | z; exact z.1; exact absurd z.2.1 (by omega)), rfl, (by rcases zqh105 with z | z; (rw [z.2.2, hVl]; exact rdW_p); exact absurd z.2.1 (by omega))⟩⟩⟩ | exact ⟨rfl, hB_39, Or.inr ⟨zqnz, k, ok, f, w, hR, by omega, Or.inl (by omega), Or.inr ⟨(by rcases zqh105 with z | z; exact absurd z.2.1 (by omega); exact fun y => z.1 y.2), rfl, (by rcases zqh105 with z | z; exact absurd z.2.1 (by omega); rw [z.2.2]; exact hVl)⟩⟩⟩)
                · skip
                  refine z_iconst E dX6_reads_111 ?_
                  refine z_goto E 116 dX6_reads_112 rfl ?_
                  exact z_zret E dX6_reads_116 (by first | decide | omega) (by first | exact ⟨rfl, hB_39, Or.inr ⟨zqnz, k, ok, f, w, hR, by omega, Or.inr (by omega), Or.inr ⟨fun z => absurd z.1 (by omega), rfl, hVl⟩⟩⟩ | exact ⟨rfl, hB_39, Or.inr ⟨zqnz, k, ok, f, w, hR, by omega, Or.inl (by omega), Or.inl ⟨by omega, (by rcases zqh105 with z | z; exact z.1; exact absurd z.2.1 (by omega)), rfl, (by rcases zqh105 with z | z; (rw [z.2.2, hVl]; exact rdW_p); exact absurd z.2.1 (by omega))⟩⟩⟩ | exact ⟨rfl, hB_39, Or.inr ⟨zqnz, k, ok, f, w, hR, by omega, Or.inl (by omega), Or.inr ⟨(by rcases zqh105 with z | z; exact absurd z.2.1 (by omega); exact fun y => z.1 y.2), rfl, (by rcases zqh105 with z | z; exact absurd z.2.1 (by omega); rw [z.2.2]; exact hVl)⟩⟩⟩)
            · skip
              refine z_aload_n E dX6_reads_69 0 rfl rfl ?_
              refine z_bipush E dX6_reads_70 rfl ?_
              refine z_callV E (ci := 6) (N := 16) (C := RX6) (T := TX6) (n := 1) (st := []) (rfl : vl 16 0 = true) rfl rfl [.int (iI 44)] (kX6_sign l G P Vl_60 44 hBl_60 (by omega) (by omega)) gX6_reads_X6_sign rfl ⟨rfl, rfl⟩ (by decide +kernel) ⟨Nat.le_of_ble_eq_true rfl, Nat.le_of_ble_eq_true rfl⟩ rfl rfl (Nat.le_of_ble_eq_true rfl) rfl dX6_reads_72 (z_exI (fun r_41 P_41 V_41 h_41 => ?_))
              obtain ⟨hP_41, hB_41, h_41⟩ := h_41
              rw [hP_41]
              have zqh72 := h_41
              rw [zq8, zq6, zq20] at zqh72
              refine z_if_eq E 90 dX6_reads_75 rfl (by omega) (fun c_42 => ?_) (fun c_42 => ?_)
              · skip
                refine z_iconst E dX6_reads_90 ?_
                refine z_istore_n E dX6_reads_91 2 rfl (L' := [some (.ref (ad G 16 0)), some (.int (iI nn)), some (.int (iI 0)), some (.int (iI k))]) (Nat.le_of_ble_eq_true rfl) rfl ?_
                refine z_iinc E k dX6_reads_92 (L' := [some (.ref (ad G 16 0)), some (.int (iI nn)), some (.int (iI 0)), some (.int (iI (k + 1)))]) (Nat.le_of_ble_eq_true rfl) rfl rfl ?_
                refine z_goto E 60 dX6_reads_95 rfl ?_
                exact ih_60 nn 0 (k + 1) V_41 hB_41 (by omega) (by omega) (by omega) (by omega) (by first | exact ⟨_, _, RdI.to (RdI.step hk0 (RdI.to hR (by omega)) zqsep zqd) (by omega), zqv, by omega⟩ | exact ⟨_, _, RdI.nosep hk0 (RdI.to hR (by omega)) (by rcases zqh72 with z | z; exact absurd z.2.1 (by omega); exact z.1), (by rcases zqh72 with z | z; exact absurd z.2.1 (by omega); rw [z.2.2]; exact hVl), hf0⟩) (by omega)
              · skip
                have zqsep : f < V 16 0 6 ∧ 44 ≤ V 20 0 f ∧ V 20 0 f ≤ 44 := by rcases zqh72 with z | z; exact z.1; exact absurd z.2.1 (by omega)
                have zqS : V_41 = rdW V w (f + 1) := by
                  rcases zqh72 with z | z
                  · rw [z.2.2, hVl]; exact rdW_p
                  · exact absurd z.2.1 (by omega)
                have zq8b : V_41 16 0 8 = f + 1 := by rw [zqS]; exact rdW_8
                have zq6b : V_41 16 0 6 = V 16 0 6 := by rw [zqS] <;> rfl
                refine z_aload_n E dX6_reads_78 0 rfl rfl ?_
                refine z_iload_n E dX6_reads_79 3 rfl rfl ?_
                refine z_callV E (ci := 6) (N := 16) (C := RX6) (T := TX6) (n := 1) (st := []) (rfl : vl 16 0 = true) rfl rfl [.int (iI k)] (kX6_numbered l G P V_41 k hB_41 (by omega) (by omega) (by omega)) gX6_reads_X6_numbered rfl ⟨rfl, rfl⟩ (by decide +kernel) ⟨Nat.le_of_ble_eq_true rfl, Nat.le_of_ble_eq_true rfl⟩ rfl rfl (Nat.le_of_ble_eq_true rfl) rfl dX6_reads_80 (z_exI (fun r_43 P_43 V_43 h_43 => ?_))
                obtain ⟨hP_43, hB_43, h_43⟩ := h_43
                rw [hP_43]
                obtain ⟨d_43, zqd, zqr, zqv, zqb0, zqb1⟩ := h_43
                have zqbb := b2i_b (0 < d_43)
                have zqd0 := zqd.1
                rw [zqS] at zqd zqv
                rw [rdW_8] at zqd
                rw [rdW_n] at zqv
                refine z_if_eq E 90 dX6_reads_83 rfl (by omega) (fun c_44 => ?_) (fun c_44 => ?_)
                · skip
                  refine z_iconst E dX6_reads_90 ?_
                  refine z_istore_n E dX6_reads_91 2 rfl (L' := [some (.ref (ad G 16 0)), some (.int (iI nn)), some (.int (iI 0)), some (.int (iI k))]) (Nat.le_of_ble_eq_true rfl) rfl ?_
                  refine z_iinc E k dX6_reads_92 (L' := [some (.ref (ad G 16 0)), some (.int (iI nn)), some (.int (iI 0)), some (.int (iI (k + 1)))]) (Nat.le_of_ble_eq_true rfl) rfl rfl ?_
                  refine z_goto E 60 dX6_reads_95 rfl ?_
                  exact ih_60 nn 0 (k + 1) V_43 hB_43 (by omega) (by omega) (by omega) (by omega) (by first | exact ⟨_, _, RdI.to (RdI.step hk0 (RdI.to hR (by omega)) zqsep zqd) (by omega), zqv, by omega⟩ | exact ⟨_, _, RdI.nosep hk0 (RdI.to hR (by omega)) (by rcases zqh72 with z | z; exact absurd z.2.1 (by omega); exact z.1), (by rcases zqh72 with z | z; exact absurd z.2.1 (by omega); rw [z.2.2]; exact hVl), hf0⟩) (by omega)
                · skip
                  refine z_iconst E dX6_reads_86 ?_
                  refine z_goto E 91 dX6_reads_87 rfl ?_
                  refine z_istore_n E dX6_reads_91 2 rfl (L' := [some (.ref (ad G 16 0)), some (.int (iI nn)), some (.int (iI 1)), some (.int (iI k))]) (Nat.le_of_ble_eq_true rfl) rfl ?_
                  refine z_iinc E k dX6_reads_92 (L' := [some (.ref (ad G 16 0)), some (.int (iI nn)), some (.int (iI 1)), some (.int (iI (k + 1)))]) (Nat.le_of_ble_eq_true rfl) rfl rfl ?_
                  refine z_goto E 60 dX6_reads_95 rfl ?_
                  exact ih_60 nn 1 (k + 1) V_43 hB_43 (by omega) (by omega) (by omega) (by omega) (by first | exact ⟨_, _, RdI.to (RdI.step hk0 (RdI.to hR (by omega)) zqsep zqd) (by omega), zqv, by omega⟩ | exact ⟨_, _, RdI.nosep hk0 (RdI.to hR (by omega)) (by rcases zqh72 with z | z; exact absurd z.2.1 (by omega); exact z.1), (by rcases zqh72 with z | z; exact absurd z.2.1 (by omega); rw [z.2.2]; exact hVl), hf0⟩) (by omega)
      exact lp_60_32 (((if (V25 16 0 13) = 119 then 3 else if (V25 16 0 13) = 102 then 4 else if (V25 16 0 13) = 109 then 2 else if (V25 16 0 13) = 98 ∨ (V25 16 0 13) = 120 then 1 else 0) - 1 : Int).toNat + 1) (if (V25 16 0 13) = 119 then 3 else if (V25 16 0 13) = 102 then 4 else if (V25 16 0 13) = 109 then 2 else if (V25 16 0 13) = 98 ∨ (V25 16 0 13) = 120 then 1 else 0) r_31 1 V_31 hB_31 (by omega) (by show (1 : Int) ≤ nbO _; rw [zqC]; have := nbO_bd (rdC V); omega) (by rw [← zqC] <;> rfl) (by omega) ⟨_, _, RdI.to (RdI.first zqd) zqr.symm, zqv, by omega⟩ (Nat.lt_succ_self _)
    · skip
      refine z_iconst E dX6_reads_40 ?_
      exact z_zret E dX6_reads_41 (by first | decide | omega) (⟨rfl, hB25, Or.inl ⟨by rw [← zqC]; assumption, rfl, zqC1⟩⟩)
