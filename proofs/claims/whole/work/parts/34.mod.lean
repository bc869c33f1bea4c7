set_option maxHeartbeats 4000000 in
set_option maxRecDepth 100000 in
theorem kX6_tries (l : Launch) (G : Gl) (P : Nat → Nat) (V : Vt) (b : Int) (hB : BV V) (hm0 : 0 ≤ V 17 0 0) (hm1 : V 17 0 0 ≤ 16) (hmL : ∀ k p, 0 ≤ k → k < 16 → 0 ≤ p → p < 6 → 0 ≤ mo (V 17 0) k (2 + p) ∧ mo (V 17 0) k (2 + p) < 40) (a1 : 0 ≤ b) (a2 : b < 4) (a3 : 0 ≤ mS (V 17 0) (mh (V 17 0) b)) (a4 : ∀ d, 0 ≤ d → d < 40 → mf (V 17 0) d = 0 ∨ mf (V 17 0) d = 1) (a5 : inR (V 17 0 1 + 1)) (hq : 0 ≤ V 16 0 3 ∧ V 16 0 3 ≤ 4) (hq4 : inR (V 16 0 4)) (hfree : HFm (V 17 0) b) : Met l yX6_tries wsX6_tries ({ frames := 5, cells := 0, slots := 0, locals := 114 }) (va_Pc [.ref (ad G 16 0), .int (iI b)] (Sg G P V)) (Qk G mkI (fun r P' V' => P' = P ∧ BV V' ∧ inR r ∧ trQ V b r V')) 0 0 (mem G) := by
  refine z_met (cc := cX6_tries) (nL := 2) (ret := (some .int)) (own := RX6) (by decide +kernel) rfl rfl (Nat.le_of_ble_eq_true rfl) (zz_cat rfl) (L := [some (.ref (ad G 16 0)), some (.int (iI b))]) rfl ?_
  intro X E
  have f0 : Cond.constant RX6 94 (-1000003) ∈ wsX6_tries := by decide +kernel
  refine z_aload_n E dX6_tries_0 0 rfl rfl ?_
  refine z_iload_n E dX6_tries_1 1 rfl rfl ?_
  refine z_callV E (ci := 6) (N := 16) (C := RX6) (T := TX6) (n := 1) (st := []) (rfl : vl 16 0 = true) rfl rfl [.int (iI b)] (kX6_fits l G P V b hB (by omega) (by omega) hmL (by omega) (by omega) a3 a4) gX6_tries_X6_fits rfl ⟨rfl, rfl⟩ (by decide +kernel) ⟨Nat.le_of_ble_eq_true rfl, Nat.le_of_ble_eq_true rfl⟩ rfl rfl (Nat.le_of_ble_eq_true rfl) rfl dX6_tries_2 (z_dtI ?_)
  refine z_ifne_b E 11 dX6_tries_5 rfl (fun c_2 => ?_) (fun c_2 => ?_)
  · skip
    refine z_aload_n E dX6_tries_11 0 rfl rfl ?_
    refine z_callV E (ci := 6) (N := 16) (C := RX6) (T := TX6) (n := 0) (st := []) (rfl : vl 16 0 = true) rfl rfl [] (kX6_changes l G P V  hB (by omega) (by omega)) gX6_tries_X6_changes rfl ⟨rfl, rfl⟩ (by decide +kernel) ⟨Nat.le_of_ble_eq_true rfl, Nat.le_of_ble_eq_true rfl⟩ rfl rfl (Nat.le_of_ble_eq_true rfl) rfl dX6_tries_12 (z_exV (fun P_3 V_3 h_3 => ?_))
    obtain ⟨hP_3, hB_3, h_3⟩ := h_3
    rw [hP_3]
    have zqc := h_3
    have zq17 : V_3 17 0 = V 17 0 := by rw [zqc, ch_o (by decide) (by decide)]
    have zq21 : V_3 21 0 = V 21 0 := by rw [zqc, ch_o (by decide) (by decide)]
    refine z_aload_n E dX6_tries_15 0 rfl rfl ?_
    refine z_iload_n E dX6_tries_16 1 rfl rfl ?_
    refine z_callV E (ci := 6) (N := 16) (C := RX6) (T := TX6) (n := 1) (st := []) (rfl : vl 16 0 = true) rfl rfl [.int (iI b)] (kX6_writes l G P V_3 b hB_3 (by rw [zq17]; exact hm0) (by rw [zq17]; exact hm1) (by rw [zq17]; exact hmL) (by omega) (by omega) (by rw [zq17]; exact a3) (by rw [zq17]; omega) (by rw [zq17]; exact a5) (by rw [zq17, zq21]; exact fun p sp => hfree _ p sp (by assumption))) gX6_tries_X6_writes rfl ⟨rfl, rfl⟩ (by decide +kernel) ⟨Nat.le_of_ble_eq_true rfl, Nat.le_of_ble_eq_true rfl⟩ rfl rfl (Nat.le_of_ble_eq_true rfl) rfl dX6_tries_17 (z_exI (fun r_4 P_4 V_4 h_4 => ?_))
    obtain ⟨hP_4, hB_4, hr_4, h_4⟩ := h_4
    rw [hP_4]
    obtain ⟨zqs6, zqh, zqv⟩ := h_4
    rw [zq17, zq21] at zqh
    rw [zq17, zqc] at zqv
    have zqr : r_4 = V 17 0 1 := by rw [hr_4, zq17]
    have zqz := hB.s 1 (by omega)
    exact z_iret E dX6_tries_20 (⟨rfl, hB_4, by omega, Or.inr ⟨by assumption, zqr, zqs6, zqh, zqv⟩⟩)
  · skip
    refine z_ldc E (-1000003) f0 rfl dX6_tries_8 ?_
    exact z_iret E dX6_tries_10 (⟨rfl, hB, by omega, Or.inl ⟨by assumption, rfl, rfl⟩⟩)

set_option maxHeartbeats 4000000 in
set_option maxRecDepth 100000 in
theorem kX6_fill (l : Launch) (G : Gl) (P : Nat → Nat) (V : Vt) (b : Int) (cell : Int) (many : Int) (value : Int) (hB : BV V) (hm0 : 0 ≤ V 17 0 0) (hm1 : V 17 0 0 ≤ 16) (hmL : ∀ k p, 0 ≤ k → k < 16 → 0 ≤ p → p < 6 → 0 ≤ mo (V 17 0) k (2 + p) ∧ mo (V 17 0) k (2 + p) < 40) (hH : MH (V 17 0)) (a5 : inR (V 17 0 1 + 1)) (hq : 0 ≤ V 16 0 3 ∧ V 16 0 3 ≤ 4) (hq4 : inR (V 16 0 4)) (r1 : inR b) (r2 : inR cell) (r3 : inR many) (r4 : inR value) : Met l yX6_fill wsX6_fill ({ frames := 6, cells := 0, slots := 0, locals := 135 }) (va_Pc [.ref (ad G 16 0), .int (iI b), .int (iI cell), .int (iI many), .int (iI value)] (Sg G P V)) (Qk G mkI (fun r P' V' => P' = P ∧ BV V' ∧ inR r ∧ ((¬ ((0 ≤ b ∧ b ≤ 3 ∧ 0 ≤ mh (V 17 0) b) ∧ ((0 ≤ cell ∧ cell ≤ 47) ∧ 1 ≤ many ∧ many ≤ 48 - cell) ∧ 0 ≤ value ∧ value ≤ 999) ∧ r = -1000001 ∧ V' = V) ∨ (((0 ≤ b ∧ b ≤ 3 ∧ 0 ≤ mh (V 17 0) b) ∧ ((0 ≤ cell ∧ cell ≤ 47) ∧ 1 ≤ many ∧ many ≤ 48 - cell) ∧ 0 ≤ value ∧ value ≤ 999) ∧ trQ (up V 21 0 (flI (mix (V 21 0) (fun c => mc (V 17 0) (mS (V 17 0) (mh (V 17 0) b)) c) 48) cell many value)) b r V')))) 0 0 (mem G) := by
  refine z_met (cc := cX6_fill) (nL := 6) (ret := (some .int)) (own := RX6) (by decide +kernel) rfl rfl (Nat.le_of_ble_eq_true rfl) (zz_cat rfl) (L := [some (.ref (ad G 16 0)), some (.int (iI b)), some (.int (iI cell)), some (.int (iI many)), some (.int (iI value)), none]) rfl ?_
  intro X E
  have iX6 : ∀ x ∈ wsX60, x ∈ wsX6_fill := by decide +kernel
  have f0 : Cond.constant RX6 111 (-1000001) ∈ wsX6_fill := by decide +kernel
  have f1 : Cond.fieldLink RX6 7 "SharedStatesModel" "s" "[I" ∈ wsX6_fill := by decide +kernel
  have f2 : Cond.fieldLink RX6 22 "SharedStatesModel" "cells" "[I" ∈ wsX6_fill := by decide +kernel
  refine z_aload_n E dX6_fill_0 0 rfl rfl ?_
  refine z_iload_n E dX6_fill_1 1 rfl rfl ?_
  refine z_callV E (ci := 6) (N := 16) (C := RX6) (T := TX6) (n := 1) (st := []) (rfl : vl 16 0 = true) rfl rfl [.int (iI b)] (kX6_isBranch l G P V b hB (by omega)) gX6_fill_X6_isBranch rfl ⟨rfl, rfl⟩ (by decide +kernel) ⟨Nat.le_of_ble_eq_true rfl, Nat.le_of_ble_eq_true rfl⟩ rfl rfl (Nat.le_of_ble_eq_true rfl) rfl dX6_fill_2 (z_dtI ?_)
  refine z_ifeq_b E 28 dX6_fill_5 rfl (fun c_2 => ?_) (fun c_2 => ?_)
  · skip
    refine z_ldc E (-1000001) f0 rfl dX6_fill_28 ?_
    exact z_iret E dX6_fill_30 (⟨rfl, hB, by omega, Or.inl ⟨by omega, rfl, rfl⟩⟩)
  · skip
    refine z_iload_n E dX6_fill_8 2 rfl rfl ?_
    refine z_iload_n E dX6_fill_9 3 rfl rfl ?_
    refine z_callS E (n := 2) (st := []) [.int (iI cell), .int (iI many)] (kX6_isRow l G P V cell many (by omega) (by omega)) gX6_fill_X6_isRow rfl ⟨rfl, rfl⟩ (by decide +kernel) ⟨Nat.le_of_ble_eq_true rfl, Nat.le_of_ble_eq_true rfl⟩ rfl rfl (Nat.le_of_ble_eq_true rfl) rfl dX6_fill_10 (z_dtI ?_)
    refine z_ifeq_b E 28 dX6_fill_13 rfl (fun c_4 => ?_) (fun c_4 => ?_)
    · skip
      refine z_ldc E (-1000001) f0 rfl dX6_fill_28 ?_
      exact z_iret E dX6_fill_30 (⟨rfl, hB, by omega, Or.inl ⟨by omega, rfl, rfl⟩⟩)
    · skip
      refine z_iload E dX6_fill_16 rfl ?_
      refine z_iconst E dX6_fill_18 ?_
      refine z_sipush E dX6_fill_19 rfl ?_
      refine z_callS E (n := 3) (st := []) [.int (iI value), .int (iI 0), .int (iI 999)] (kX6_in l G P V value 0 999 (by omega) (by omega) (by omega)) gX6_fill_X6_in rfl ⟨rfl, rfl⟩ (by decide +kernel) ⟨Nat.le_of_ble_eq_true rfl, Nat.le_of_ble_eq_true rfl⟩ rfl rfl (Nat.le_of_ble_eq_true rfl) rfl dX6_fill_22 (z_dtI ?_)
      refine z_ifne_b E 31 dX6_fill_25 rfl (fun c_6 => ?_) (fun c_6 => ?_)
      · skip
        refine z_aload_n E dX6_fill_31 0 rfl rfl ?_
        refine z_aload_n E dX6_fill_32 0 rfl rfl ?_
        refine z_aload_n E dX6_fill_33 0 rfl rfl ?_
        refine z_get E (ci := 6) (N := 16) (C := RX6) (T := TX6) (rfl : vl 16 0 = true) rfl rfl iX6 0 (by decide) rfl f1 rfl dX6_fill_34 ?_
        refine z_bipush E dX6_fill_37 rfl ?_
        refine z_iload_n E dX6_fill_39 1 rfl rfl ?_
        refine z_iadd E dX6_fill_40 ?_
        refine z_iald E (rfl : vl 17 0 = true) 498 rfl (by omega) (by omega) (by omega) dX6_fill_41 ?_
        have hr_7 := hB.s (6 + b) (by omega)
        refine z_callV E (ci := 6) (N := 16) (C := RX6) (T := TX6) (n := 1) (st := [.ref (ad G 16 0)]) (rfl : vl 16 0 = true) rfl rfl [.int (iI (V 17 0 (6 + b)))] (kX6_slot l G P V (V 17 0 (6 + b)) hB (by omega) (by omega) (by omega)) gX6_fill_X6_slot rfl ⟨rfl, rfl⟩ (by decide +kernel) ⟨Nat.le_of_ble_eq_true rfl, Nat.le_of_ble_eq_true rfl⟩ rfl rfl (Nat.le_of_ble_eq_true rfl) rfl dX6_fill_42 (z_dtI ?_)
        have h_8a := mS_c (V 17 0) (V 17 0 (6 + b))
        have zqh := hH.1 b (by omega) (by omega) (by omega)
        have h_q : fO (mS (V 17 0) (V 17 0 (6 + b))) = (mS (V 17 0) (mh (V 17 0) b)) := by unfold mh at zqh ⊢; omega
        rw [h_q]
        have h_q2 : (mS (V 17 0) (mh (V 17 0) b)) < V 17 0 0 := by unfold mh at zqh ⊢; omega
        refine z_callV E (ci := 6) (N := 16) (C := RX6) (T := TX6) (n := 1) (st := []) (rfl : vl 16 0 = true) rfl rfl [.int (iI (mS (V 17 0) (mh (V 17 0) b)))] (kX6_loads l G P V (mS (V 17 0) (mh (V 17 0) b)) hB (by omega) (by omega) hmL (by omega) (by omega)) gX6_fill_X6_loads rfl ⟨rfl, rfl⟩ (by decide +kernel) ⟨Nat.le_of_ble_eq_true rfl, Nat.le_of_ble_eq_true rfl⟩ rfl rfl (Nat.le_of_ble_eq_true rfl) rfl dX6_fill_45 (z_exV (fun P_9 V_9 h_9 => ?_))
        obtain ⟨hP_9, hB_9, h_9⟩ := h_9
        rw [hP_9]
        have zqa := h_9
        refine z_iload_n E dX6_fill_48 2 rfl rfl ?_
        refine z_istore E dX6_fill_49 (L' := [some (.ref (ad G 16 0)), some (.int (iI b)), some (.int (iI cell)), some (.int (iI many)), some (.int (iI value)), some (.int (iI cell))]) (Nat.le_of_ble_eq_true rfl) rfl ?_
        have lp_51_10 : ∀ (fuel : Nat) (c : Int) (Vl_51 : Vt), BV Vl_51 → (cell ≤ c) → (c ≤ cell + many) → (Vl_51 = up V 21 0 (flI (mix (V 21 0) (fun c => mc (V 17 0) (mS (V 17 0) (mh (V 17 0) b)) c) 48) cell (c - cell) value)) → (cell + many - c : Int).toNat < fuel → Kz X G P Vl_51 [some (.ref (ad G 16 0)), some (.int (iI b)), some (.int (iI cell)), some (.int (iI many)), some (.int (iI value)), some (.int (iI c))] 51 [] := by
          intro fuel
          induction fuel with
          | zero => intro c Vl_51 hBl_51 hk0 hk1 hVl hf_51; exact absurd hf_51 (Nat.not_lt_zero _)
          | succ fuel ih_51 =>
            intro c Vl_51 hBl_51 hk0 hk1 hVl hf_51
            have zq17 : Vl_51 17 0 = V 17 0 := by rw [hVl]; rfl
            have zq16 : Vl_51 16 0 = V 16 0 := by rw [hVl]; rfl
            have zqL : ∀ k p, 0 ≤ k → k < 16 → 0 ≤ p → p < 6 → 0 ≤ mo (Vl_51 17 0) k (2 + p) ∧ mo (Vl_51 17 0) k (2 + p) < 40 := by rw [zq17]; exact hmL
            have zqm0 : 0 ≤ Vl_51 17 0 0 := by rw [zq17]; exact hm0
            have zqm1 : Vl_51 17 0 0 ≤ 16 := by rw [zq17]; exact hm1
            refine z_iload E dX6_fill_51 rfl ?_
            refine z_iload_n E dX6_fill_53 2 rfl rfl ?_
            refine z_iload_n E dX6_fill_54 3 rfl rfl ?_
            refine z_iadd E dX6_fill_55 ?_
            refine z_icmp_ge E 74 dX6_fill_56 rfl (by omega) (by omega) (fun c_11 => ?_) (fun c_11 => ?_)
            · skip
              refine z_aload_n E dX6_fill_74 0 rfl rfl ?_
              refine z_iload_n E dX6_fill_75 1 rfl rfl ?_
              refine z_callV E (ci := 6) (N := 16) (C := RX6) (T := TX6) (n := 1) (st := []) (rfl : vl 16 0 = true) rfl rfl [.int (iI b)] (kX6_tries l G P Vl_51 b hBl_51 (by omega) (by omega) zqL (by omega) (by omega) (by rw [zq17]; exact hH.1 b (by omega) (by omega) (by omega)) (by rw [zq17]; exact hH.2.1) (by rw [zq17]; exact a5) (by rw [zq16]; exact hq) (by rw [zq16]; exact hq4) (by rw [zq17]; exact hH.2.2 b (by omega) (by omega) (by omega))) gX6_fill_X6_tries rfl ⟨rfl, rfl⟩ (by decide +kernel) ⟨Nat.le_of_ble_eq_true rfl, Nat.le_of_ble_eq_true rfl⟩ rfl rfl (Nat.le_of_ble_eq_true rfl) rfl dX6_fill_76 (z_exI (fun r_12 P_12 V_12 h_12 => ?_))
              obtain ⟨hP_12, hB_12, hR_12, h_12⟩ := h_12
              rw [hP_12]
              have zqb := h_12
              have zqR := hR_12
              exact z_iret E dX6_fill_79 (⟨rfl, hB_12, zqR, Or.inr ⟨by omega, by rw [show many = c - cell by omega, ← hVl]; exact zqb⟩⟩)
            · skip
              refine z_aload_n E dX6_fill_59 0 rfl rfl ?_
              refine z_get E (ci := 6) (N := 16) (C := RX6) (T := TX6) (rfl : vl 16 0 = true) rfl rfl iX6 7 (by decide) rfl f2 rfl dX6_fill_60 ?_
              refine z_iload E dX6_fill_63 rfl ?_
              refine z_iload E dX6_fill_65 rfl ?_
              refine z_iast E (rfl : vl 21 0 = true) 48 (fun _ => rfl) (by omega) (by omega) (by omega) dX6_fill_67 ?_
              obtain ⟨V13, hV13⟩ : ∃ Z : Vt, Z = up Vl_51 21 0 (updI (Vl_51 21 0) c value) := ⟨_, rfl⟩
              rw [← hV13]
              have hB13 : BV V13 := hV13 ▸ BV_up hBl_51 (by intro _; omega)
              refine z_iinc E c dX6_fill_68 (L' := [some (.ref (ad G 16 0)), some (.int (iI b)), some (.int (iI cell)), some (.int (iI many)), some (.int (iI value)), some (.int (iI (c + 1)))]) (Nat.le_of_ble_eq_true rfl) rfl rfl ?_
              refine z_goto E 51 dX6_fill_71 rfl ?_
              exact ih_51 (c + 1) V13 hB13 (by omega) (by omega) (by rw [hV13, hVl, up_s, flI_c hk0]; exact upup _ _ _ _ _) (by omega)
        exact lp_51_10 ((cell + many - cell : Int).toNat + 1) cell V_9 hB_9 (by omega) (by omega) (by rw [Int.sub_self, flI_0]; exact zqa) (Nat.lt_succ_self _)
      · skip
        refine z_ldc E (-1000001) f0 rfl dX6_fill_28 ?_
        exact z_iret E dX6_fill_30 (⟨rfl, hB, by omega, Or.inl ⟨by omega, rfl, rfl⟩⟩)

set_option maxHeartbeats 4000000 in
set_option maxRecDepth 100000 in
theorem kX6_write (l : Launch) (G : Gl) (P : Nat → Nat) (V : Vt) (b : Int) (cell : Int) (value : Int) (hB : BV V) (hm0 : 0 ≤ V 17 0 0) (hm1 : V 17 0 0 ≤ 16) (hmL : ∀ k p, 0 ≤ k → k < 16 → 0 ≤ p → p < 6 → 0 ≤ mo (V 17 0) k (2 + p) ∧ mo (V 17 0) k (2 + p) < 40) (hH : MH (V 17 0)) (a5 : inR (V 17 0 1 + 1)) (hq : 0 ≤ V 16 0 3 ∧ V 16 0 3 ≤ 4) (hq4 : inR (V 16 0 4)) (r1 : inR b) (r2 : inR cell) (r4 : inR value) : Met l yX6_write wsX6_write ({ frames := 7, cells := 0, slots := 0, locals := 160 }) (va_Pc [.ref (ad G 16 0), .int (iI b), .int (iI cell), .int (iI value)] (Sg G P V)) (Qk G mkI (fun r P' V' => P' = P ∧ BV V' ∧ inR r ∧ ((¬ ((0 ≤ b ∧ b ≤ 3 ∧ 0 ≤ mh (V 17 0) b) ∧ ((0 ≤ cell ∧ cell ≤ 47) ∧ 1 ≤ (1 : Int) ∧ (1 : Int) ≤ 48 - cell) ∧ 0 ≤ value ∧ value ≤ 999) ∧ r = -1000001 ∧ V' = V) ∨ (((0 ≤ b ∧ b ≤ 3 ∧ 0 ≤ mh (V 17 0) b) ∧ ((0 ≤ cell ∧ cell ≤ 47) ∧ 1 ≤ (1 : Int) ∧ (1 : Int) ≤ 48 - cell) ∧ 0 ≤ value ∧ value ≤ 999) ∧ trQ (up V 21 0 (flI (mix (V 21 0) (fun c => mc (V 17 0) (mS (V 17 0) (mh (V 17 0) b)) c) 48) cell (1 : Int) value)) b r V')))) 0 0 (mem G) := by
  refine z_met (cc := cX6_write) (nL := 4) (ret := (some .int)) (own := RX6) (by decide +kernel) rfl rfl (Nat.le_of_ble_eq_true rfl) (zz_cat rfl) (L := [some (.ref (ad G 16 0)), some (.int (iI b)), some (.int (iI cell)), some (.int (iI value))]) rfl ?_
  intro X E
  refine z_aload_n E dX6_write_0 0 rfl rfl ?_
  refine z_iload_n E dX6_write_1 1 rfl rfl ?_
  refine z_iload_n E dX6_write_2 2 rfl rfl ?_
  refine z_iconst E dX6_write_3 ?_
  refine z_iload_n E dX6_write_4 3 rfl rfl ?_
  refine z_callV E (ci := 6) (N := 16) (C := RX6) (T := TX6) (n := 4) (st := []) (rfl : vl 16 0 = true) rfl rfl [.int (iI b), .int (iI cell), .int (iI 1), .int (iI value)] (kX6_fill l G P V b cell 1 value hB (by omega) (by omega) hmL hH (by omega) (by omega) (by omega) (by omega) (by omega) (by omega) (by omega)) gX6_write_X6_fill rfl ⟨rfl, rfl⟩ (by decide +kernel) ⟨Nat.le_of_ble_eq_true rfl, Nat.le_of_ble_eq_true rfl⟩ rfl rfl (Nat.le_of_ble_eq_true rfl) rfl dX6_write_5 (z_exI (fun r_1 P_1 V_1 h_1 => ?_))
  obtain ⟨hP_1, hB_1, hR_1, h_1⟩ := h_1
  rw [hP_1]
  have zqb := h_1
  have zqR := hR_1
  exact z_iret E dX6_write_8 (⟨rfl, hB_1, zqR, zqb⟩)

set_option maxHeartbeats 4000000 in
set_option maxRecDepth 100000 in
theorem kX6_copy (l : Launch) (G : Gl) (P : Nat → Nat) (V : Vt) (b : Int) (x : Int) (src : Int) (dst : Int) (many : Int) (hB : BV V) (hm0 : 0 ≤ V 17 0 0) (hm1 : V 17 0 0 ≤ 16) (hmL : ∀ k p, 0 ≤ k → k < 16 → 0 ≤ p → p < 6 → 0 ≤ mo (V 17 0) k (2 + p) ∧ mo (V 17 0) k (2 + p) < 40) (hH : MH (V 17 0)) (a5 : inR (V 17 0 1 + 1)) (hq : 0 ≤ V 16 0 3 ∧ V 16 0 3 ≤ 4) (hq4 : inR (V 16 0 4)) (r1 : inR b) (r2 : inR x) (r3 : inR src) (r4 : inR dst) (r5 : inR many) : Met l yX6_copy wsX6_copy ({ frames := 6, cells := 0, slots := 0, locals := 135 }) (va_Pc [.ref (ad G 16 0), .int (iI b), .int (iI x), .int (iI src), .int (iI dst), .int (iI many)] (Sg G P V)) (Qk G mkI (fun r P' V' => P' = P ∧ BV V' ∧ inR r ∧ ((¬ ((0 ≤ b ∧ b ≤ 3 ∧ 0 ≤ mh (V 17 0) b) ∧ 0 ≤ fO (mS (V 17 0) x) ∧ ((0 ≤ src ∧ src ≤ 47) ∧ 1 ≤ many ∧ many ≤ 48 - src) ∧ (0 ≤ dst ∧ dst ≤ 47) ∧ 1 ≤ many ∧ many ≤ 48 - dst) ∧ r = -1000001 ∧ V' = V) ∨ (((0 ≤ b ∧ b ≤ 3 ∧ 0 ≤ mh (V 17 0) b) ∧ 0 ≤ fO (mS (V 17 0) x) ∧ ((0 ≤ src ∧ src ≤ 47) ∧ 1 ≤ many ∧ many ≤ 48 - src) ∧ (0 ≤ dst ∧ dst ≤ 47) ∧ 1 ≤ many ∧ many ≤ 48 - dst) ∧ trQ (up V 21 0 (cpI (fun c => mc (V 17 0) (mS (V 17 0) x) c) (mix (V 21 0) (fun c => mc (V 17 0) (mS (V 17 0) (mh (V 17 0) b)) c) 48) src dst many)) b r V')))) 0 0 (mem G) := by
  refine z_met (cc := cX6_copy) (nL := 7) (ret := (some .int)) (own := RX6) (by decide +kernel) rfl rfl (Nat.le_of_ble_eq_true rfl) (zz_cat rfl) (L := [some (.ref (ad G 16 0)), some (.int (iI b)), some (.int (iI x)), some (.int (iI src)), some (.int (iI dst)), some (.int (iI many)), none]) rfl ?_
  intro X E
  have iX6 : ∀ x ∈ wsX60, x ∈ wsX6_copy := by decide +kernel
  have f0 : Cond.constant RX6 111 (-1000001) ∈ wsX6_copy := by decide +kernel
  have f1 : Cond.fieldLink RX6 7 "SharedStatesModel" "s" "[I" ∈ wsX6_copy := by decide +kernel
  have f2 : Cond.fieldLink RX6 22 "SharedStatesModel" "cells" "[I" ∈ wsX6_copy := by decide +kernel
  refine z_aload_n E dX6_copy_0 0 rfl rfl ?_
  refine z_iload_n E dX6_copy_1 1 rfl rfl ?_
  refine z_callV E (ci := 6) (N := 16) (C := RX6) (T := TX6) (n := 1) (st := []) (rfl : vl 16 0 = true) rfl rfl [.int (iI b)] (kX6_isBranch l G P V b hB (by omega)) gX6_copy_X6_isBranch rfl ⟨rfl, rfl⟩ (by decide +kernel) ⟨Nat.le_of_ble_eq_true rfl, Nat.le_of_ble_eq_true rfl⟩ rfl rfl (Nat.le_of_ble_eq_true rfl) rfl dX6_copy_2 (z_dtI ?_)
  refine z_ifeq_b E 35 dX6_copy_5 rfl (fun c_2 => ?_) (fun c_2 => ?_)
  · skip
    refine z_ldc E (-1000001) f0 rfl dX6_copy_35 ?_
    exact z_iret E dX6_copy_37 (⟨rfl, hB, by omega, Or.inl ⟨by omega, rfl, rfl⟩⟩)
  · skip
    refine z_aload_n E dX6_copy_8 0 rfl rfl ?_
    refine z_iload_n E dX6_copy_9 2 rfl rfl ?_
    refine z_callV E (ci := 6) (N := 16) (C := RX6) (T := TX6) (n := 1) (st := []) (rfl : vl 16 0 = true) rfl rfl [.int (iI x)] (kX6_isState l G P V x hB (by omega) (by omega) (by omega)) gX6_copy_X6_isState rfl ⟨rfl, rfl⟩ (by decide +kernel) ⟨Nat.le_of_ble_eq_true rfl, Nat.le_of_ble_eq_true rfl⟩ rfl rfl (Nat.le_of_ble_eq_true rfl) rfl dX6_copy_10 (z_dtI ?_)
    have h_3a := mS_c (V 17 0) x
    refine z_ifeq_b E 35 dX6_copy_13 rfl (fun c_4 => ?_) (fun c_4 => ?_)
    · skip
      refine z_ldc E (-1000001) f0 rfl dX6_copy_35 ?_
      exact z_iret E dX6_copy_37 (⟨rfl, hB, by omega, Or.inl ⟨by omega, rfl, rfl⟩⟩)
    · skip
      refine z_iload_n E dX6_copy_16 3 rfl rfl ?_
      refine z_iload E dX6_copy_17 rfl ?_
      refine z_callS E (n := 2) (st := []) [.int (iI src), .int (iI many)] (kX6_isRow l G P V src many (by omega) (by omega)) gX6_copy_X6_isRow rfl ⟨rfl, rfl⟩ (by decide +kernel) ⟨Nat.le_of_ble_eq_true rfl, Nat.le_of_ble_eq_true rfl⟩ rfl rfl (Nat.le_of_ble_eq_true rfl) rfl dX6_copy_19 (z_dtI ?_)
      refine z_ifeq_b E 35 dX6_copy_22 rfl (fun c_6 => ?_) (fun c_6 => ?_)
      · skip
        refine z_ldc E (-1000001) f0 rfl dX6_copy_35 ?_
        exact z_iret E dX6_copy_37 (⟨rfl, hB, by omega, Or.inl ⟨by omega, rfl, rfl⟩⟩)
      · skip
        refine z_iload E dX6_copy_25 rfl ?_
        refine z_iload E dX6_copy_27 rfl ?_
        refine z_callS E (n := 2) (st := []) [.int (iI dst), .int (iI many)] (kX6_isRow l G P V dst many (by omega) (by omega)) gX6_copy_X6_isRow rfl ⟨rfl, rfl⟩ (by decide +kernel) ⟨Nat.le_of_ble_eq_true rfl, Nat.le_of_ble_eq_true rfl⟩ rfl rfl (Nat.le_of_ble_eq_true rfl) rfl dX6_copy_29 (z_dtI ?_)
        refine z_ifne_b E 38 dX6_copy_32 rfl (fun c_8 => ?_) (fun c_8 => ?_)
        · skip
          refine z_aload_n E dX6_copy_38 0 rfl rfl ?_
          refine z_aload_n E dX6_copy_39 0 rfl rfl ?_
          refine z_aload_n E dX6_copy_40 0 rfl rfl ?_
          refine z_get E (ci := 6) (N := 16) (C := RX6) (T := TX6) (rfl : vl 16 0 = true) rfl rfl iX6 0 (by decide) rfl f1 rfl dX6_copy_41 ?_
          refine z_bipush E dX6_copy_44 rfl ?_
          refine z_iload_n E dX6_copy_46 1 rfl rfl ?_
          refine z_iadd E dX6_copy_47 ?_
          refine z_iald E (rfl : vl 17 0 = true) 498 rfl (by omega) (by omega) (by omega) dX6_copy_48 ?_
          have hr_9 := hB.s (6 + b) (by omega)
          refine z_callV E (ci := 6) (N := 16) (C := RX6) (T := TX6) (n := 1) (st := [.ref (ad G 16 0)]) (rfl : vl 16 0 = true) rfl rfl [.int (iI (V 17 0 (6 + b)))] (kX6_slot l G P V (V 17 0 (6 + b)) hB (by omega) (by omega) (by omega)) gX6_copy_X6_slot rfl ⟨rfl, rfl⟩ (by decide +kernel) ⟨Nat.le_of_ble_eq_true rfl, Nat.le_of_ble_eq_true rfl⟩ rfl rfl (Nat.le_of_ble_eq_true rfl) rfl dX6_copy_49 (z_dtI ?_)
          have h_10a := mS_c (V 17 0) (V 17 0 (6 + b))
          have zqh := hH.1 b (by omega) (by omega) (by omega)
          have h_q : fO (mS (V 17 0) (V 17 0 (6 + b))) = (mS (V 17 0) (mh (V 17 0) b)) := by unfold mh at zqh ⊢; omega
          rw [h_q]
          have h_q2 : (mS (V 17 0) (mh (V 17 0) b)) < V 17 0 0 := by unfold mh at zqh ⊢; omega
          refine z_callV E (ci := 6) (N := 16) (C := RX6) (T := TX6) (n := 1) (st := []) (rfl : vl 16 0 = true) rfl rfl [.int (iI (mS (V 17 0) (mh (V 17 0) b)))] (kX6_loads l G P V (mS (V 17 0) (mh (V 17 0) b)) hB (by omega) (by omega) hmL (by omega) (by omega)) gX6_copy_X6_loads rfl ⟨rfl, rfl⟩ (by decide +kernel) ⟨Nat.le_of_ble_eq_true rfl, Nat.le_of_ble_eq_true rfl⟩ rfl rfl (Nat.le_of_ble_eq_true rfl) rfl dX6_copy_52 (z_exV (fun P_11 V_11 h_11 => ?_))
          obtain ⟨hP_11, hB_11, h_11⟩ := h_11
          rw [hP_11]
          have zqa := h_11
          refine z_iconst E dX6_copy_55 ?_
          refine z_istore E dX6_copy_56 (L' := [some (.ref (ad G 16 0)), some (.int (iI b)), some (.int (iI x)), some (.int (iI src)), some (.int (iI dst)), some (.int (iI many)), some (.int (iI 0))]) (Nat.le_of_ble_eq_true rfl) rfl ?_
          have lp_58_12 : ∀ (fuel : Nat) (k : Int) (Vl_58 : Vt), BV Vl_58 → (0 ≤ k) → (k ≤ many) → (Vl_58 = up V 21 0 (cpI (fun c => mc (V 17 0) (mS (V 17 0) x) c) (mix (V 21 0) (fun c => mc (V 17 0) (mS (V 17 0) (mh (V 17 0) b)) c) 48) src dst k)) → (many - k : Int).toNat < fuel → Kz X G P Vl_58 [some (.ref (ad G 16 0)), some (.int (iI b)), some (.int (iI x)), some (.int (iI src)), some (.int (iI dst)), some (.int (iI many)), some (.int (iI k))] 58 [] := by
            intro fuel
            induction fuel with
            | zero => intro k Vl_58 hBl_58 hk0 hk1 hVl hf_58; exact absurd hf_58 (Nat.not_lt_zero _)
            | succ fuel ih_58 =>
              intro k Vl_58 hBl_58 hk0 hk1 hVl hf_58
              have zq17 : Vl_58 17 0 = V 17 0 := by rw [hVl]; rfl
              have zq16 : Vl_58 16 0 = V 16 0 := by rw [hVl]; rfl
              have zqL : ∀ k p, 0 ≤ k → k < 16 → 0 ≤ p → p < 6 → 0 ≤ mo (Vl_58 17 0) k (2 + p) ∧ mo (Vl_58 17 0) k (2 + p) < 40 := by rw [zq17]; exact hmL
              have zqm0 : 0 ≤ Vl_58 17 0 0 := by rw [zq17]; exact hm0
              have zqm1 : Vl_58 17 0 0 ≤ 16 := by rw [zq17]; exact hm1
              refine z_iload E dX6_copy_58 rfl ?_
              refine z_iload E dX6_copy_60 rfl ?_
              refine z_icmp_ge E 94 dX6_copy_62 rfl (by omega) (by omega) (fun c_13 => ?_) (fun c_13 => ?_)
              · skip
                refine z_aload_n E dX6_copy_94 0 rfl rfl ?_
                refine z_iload_n E dX6_copy_95 1 rfl rfl ?_
                refine z_callV E (ci := 6) (N := 16) (C := RX6) (T := TX6) (n := 1) (st := []) (rfl : vl 16 0 = true) rfl rfl [.int (iI b)] (kX6_tries l G P Vl_58 b hBl_58 (by omega) (by omega) zqL (by omega) (by omega) (by rw [zq17]; exact hH.1 b (by omega) (by omega) (by omega)) (by rw [zq17]; exact hH.2.1) (by rw [zq17]; exact a5) (by rw [zq16]; exact hq) (by rw [zq16]; exact hq4) (by rw [zq17]; exact hH.2.2 b (by omega) (by omega) (by omega))) gX6_copy_X6_tries rfl ⟨rfl, rfl⟩ (by decide +kernel) ⟨Nat.le_of_ble_eq_true rfl, Nat.le_of_ble_eq_true rfl⟩ rfl rfl (Nat.le_of_ble_eq_true rfl) rfl dX6_copy_96 (z_exI (fun r_14 P_14 V_14 h_14 => ?_))
                obtain ⟨hP_14, hB_14, hR_14, h_14⟩ := h_14
                rw [hP_14]
                have zqb := h_14
                have zqR := hR_14
                exact z_iret E dX6_copy_99 (⟨rfl, hB_14, zqR, Or.inr ⟨by omega, by rw [show many = k by omega, ← hVl]; exact zqb⟩⟩)
              · skip
                refine z_aload_n E dX6_copy_65 0 rfl rfl ?_
                refine z_get E (ci := 6) (N := 16) (C := RX6) (T := TX6) (rfl : vl 16 0 = true) rfl rfl iX6 7 (by decide) rfl f2 rfl dX6_copy_66 ?_
                refine z_iload E dX6_copy_69 rfl ?_
                refine z_iload E dX6_copy_71 rfl ?_
                refine z_iadd E dX6_copy_73 ?_
                refine z_aload_n E dX6_copy_74 0 rfl rfl ?_
                refine z_aload_n E dX6_copy_75 0 rfl rfl ?_
                refine z_iload_n E dX6_copy_76 2 rfl rfl ?_
                refine z_callV E (ci := 6) (N := 16) (C := RX6) (T := TX6) (n := 1) (st := [.ref (ad G 16 0), .int (iI (dst + k)), .ref (ad G 21 0)]) (rfl : vl 16 0 = true) rfl rfl [.int (iI x)] (kX6_slot l G P Vl_58 x hBl_58 (by omega) (by omega) (by omega)) gX6_copy_X6_slot rfl ⟨rfl, rfl⟩ (by decide +kernel) ⟨Nat.le_of_ble_eq_true rfl, Nat.le_of_ble_eq_true rfl⟩ rfl rfl (Nat.le_of_ble_eq_true rfl) rfl dX6_copy_77 (z_dtI ?_)
                have h_15a := mS_c (Vl_58 17 0) x
                rw [zq17] at h_15a ⊢
                have zqx : fO (mS (V 17 0) x) = mS (V 17 0) x := by omega
                rw [zqx]
                refine z_iload_n E dX6_copy_80 3 rfl rfl ?_
                refine z_iload E dX6_copy_81 rfl ?_
                refine z_iadd E dX6_copy_83 ?_
                refine z_callV E (ci := 6) (N := 16) (C := RX6) (T := TX6) (n := 2) (st := [.int (iI (dst + k)), .ref (ad G 21 0)]) (rfl : vl 16 0 = true) rfl rfl [.int (iI (mS (V 17 0) x)), .int (iI (src + k))] (kX6_cellOf l G P Vl_58 (mS (V 17 0) x) (src + k) hBl_58 (by omega) (by omega) zqL (by omega) (by omega) (by omega) (by omega)) gX6_copy_X6_cellOf rfl ⟨rfl, rfl⟩ (by decide +kernel) ⟨Nat.le_of_ble_eq_true rfl, Nat.le_of_ble_eq_true rfl⟩ rfl rfl (Nat.le_of_ble_eq_true rfl) rfl dX6_copy_84 (z_dtI ?_)
                have h_16a := mc_R hBl_58 zqL (mS (V 17 0) x) (src + k) (by omega) (by omega) (by omega) (by omega)
                rw [zq17] at h_16a ⊢
                refine z_iast E (rfl : vl 21 0 = true) 48 (fun _ => rfl) (by omega) (by omega) (by omega) dX6_copy_87 ?_
                obtain ⟨V17, hV17⟩ : ∃ Z : Vt, Z = up Vl_58 21 0 (updI (Vl_58 21 0) (dst + k) (mc (V 17 0) (mS (V 17 0) x) (src + k))) := ⟨_, rfl⟩
                rw [← hV17]
                have hB17 : BV V17 := hV17 ▸ BV_up hBl_58 (by intro _; omega)
                refine z_iinc E k dX6_copy_88 (L' := [some (.ref (ad G 16 0)), some (.int (iI b)), some (.int (iI x)), some (.int (iI src)), some (.int (iI dst)), some (.int (iI many)), some (.int (iI (k + 1)))]) (Nat.le_of_ble_eq_true rfl) rfl rfl ?_
                refine z_goto E 58 dX6_copy_91 rfl ?_
                exact ih_58 (k + 1) V17 hB17 (by omega) (by omega) (by rw [hV17, hVl, up_s, cpI_s hk0]; exact upup _ _ _ _ _) (by omega)
          exact lp_58_12 ((many - 0 : Int).toNat + 1) 0 V_11 hB_11 (by omega) (by omega) (by rw [cpI_0]; exact zqa) (Nat.lt_succ_self _)
        · skip
          refine z_ldc E (-1000001) f0 rfl dX6_copy_35 ?_
          exact z_iret E dX6_copy_37 (⟨rfl, hB, by omega, Or.inl ⟨by omega, rfl, rfl⟩⟩)

set_option maxHeartbeats 4000000 in
set_option maxRecDepth 100000 in
theorem kX6_merges (l : Launch) (G : Gl) (P : Nat → Nat) (V : Vt) (b : Int) (x : Int) (hB : BV V) (hm0 : 0 ≤ V 17 0 0) (hm1 : V 17 0 0 ≤ 16) (hmL : ∀ k p, 0 ≤ k → k < 16 → 0 ≤ p → p < 6 → 0 ≤ mo (V 17 0) k (2 + p) ∧ mo (V 17 0) k (2 + p) < 40) (hI : MI (V 17 0)) (a1 : 0 ≤ b) (a2 : b < 4) (a3 : 0 ≤ mS (V 17 0) (mh (V 17 0) b)) (a4 : 0 ≤ mS (V 17 0) x) (r2 : inR x) : Met l yX6_merges wsX6_merges ({ frames := 4, cells := 0, slots := 0, locals := 90 }) (va_Pc [.ref (ad G 16 0), .int (iI b), .int (iI x)] (Sg G P V)) (Qk G mkI (fun r P' V' => P' = P ∧ BV V' ∧ r = sm 48 (fun c => b2i (mgX (mc (V 17 0) (mS (V 17 0) (cmM (V 17 0) x 16 (mh (V 17 0) b))) c) (mc (V 17 0) (mS (V 17 0) (mh (V 17 0) b)) c) (mc (V 17 0) (mS (V 17 0) x) c))) ∧ V' = up V 21 0 (mix (V 21 0) (fun c => mgC (mc (V 17 0) (mS (V 17 0) (cmM (V 17 0) x 16 (mh (V 17 0) b))) c) (mc (V 17 0) (mS (V 17 0) (mh (V 17 0) b)) c) (mc (V 17 0) (mS (V 17 0) x) c)) 48))) 0 0 (mem G) := by
  refine z_met (cc := cX6_merges) (nL := 12) (ret := (some .int)) (own := RX6) (by decide +kernel) rfl rfl (Nat.le_of_ble_eq_true rfl) (zz_cat rfl) (L := [some (.ref (ad G 16 0)), some (.int (iI b)), some (.int (iI x)), none, none, none, none, none, none, none, none, none]) rfl ?_
  intro X E
  have iX6 : ∀ x ∈ wsX60, x ∈ wsX6_merges := by decide +kernel
  have f0 : Cond.fieldLink RX6 7 "SharedStatesModel" "s" "[I" ∈ wsX6_merges := by decide +kernel
  have f1 : Cond.fieldLink RX6 22 "SharedStatesModel" "cells" "[I" ∈ wsX6_merges := by decide +kernel
  refine z_aload_n E dX6_merges_0 0 rfl rfl ?_
  refine z_aload_n E dX6_merges_1 0 rfl rfl ?_
  refine z_get E (ci := 6) (N := 16) (C := RX6) (T := TX6) (rfl : vl 16 0 = true) rfl rfl iX6 0 (by decide) rfl f0 rfl dX6_merges_2 ?_
  refine z_bipush E dX6_merges_5 rfl ?_
  refine z_iload_n E dX6_merges_7 1 rfl rfl ?_
  refine z_iadd E dX6_merges_8 ?_
  refine z_iald E (rfl : vl 17 0 = true) 498 rfl (by omega) (by omega) (by omega) dX6_merges_9 ?_
  have hr_1 := hB.s (6 + b) (by omega)
  refine z_callV E (ci := 6) (N := 16) (C := RX6) (T := TX6) (n := 1) (st := []) (rfl : vl 16 0 = true) rfl rfl [.int (iI (V 17 0 (6 + b)))] (kX6_slot l G P V (V 17 0 (6 + b)) hB (by omega) (by omega) (by omega)) gX6_merges_X6_slot rfl ⟨rfl, rfl⟩ (by decide +kernel) ⟨Nat.le_of_ble_eq_true rfl, Nat.le_of_ble_eq_true rfl⟩ rfl rfl (Nat.le_of_ble_eq_true rfl) rfl dX6_merges_10 (z_dtI ?_)
  have h_2a := mS_c (V 17 0) (V 17 0 (6 + b))
  have h_q : fO (mS (V 17 0) (V 17 0 (6 + b))) = (mS (V 17 0) (mh (V 17 0) b)) := by unfold mh at a3 ⊢; omega
  rw [h_q]
  have h_q2 : (mS (V 17 0) (mh (V 17 0) b)) < V 17 0 0 := by unfold mh at a3 ⊢; omega
  refine z_istore_n E dX6_merges_13 3 rfl (L' := [some (.ref (ad G 16 0)), some (.int (iI b)), some (.int (iI x)), some (.int (iI (mS (V 17 0) (mh (V 17 0) b)))), none, none, none, none, none, none, none, none]) (Nat.le_of_ble_eq_true rfl) rfl ?_
  refine z_aload_n E dX6_merges_14 0 rfl rfl ?_
  refine z_iload_n E dX6_merges_15 2 rfl rfl ?_
  refine z_callV E (ci := 6) (N := 16) (C := RX6) (T := TX6) (n := 1) (st := []) (rfl : vl 16 0 = true) rfl rfl [.int (iI x)] (kX6_slot l G P V x hB (by omega) (by omega) (by omega)) gX6_merges_X6_slot rfl ⟨rfl, rfl⟩ (by decide +kernel) ⟨Nat.le_of_ble_eq_true rfl, Nat.le_of_ble_eq_true rfl⟩ rfl rfl (Nat.le_of_ble_eq_true rfl) rfl dX6_merges_16 (z_dtI ?_)
  have h_3a := mS_c (V 17 0) x
  rw [show fO (mS (V 17 0) x) = mS (V 17 0) x by omega]
  refine z_istore E dX6_merges_19 (L' := [some (.ref (ad G 16 0)), some (.int (iI b)), some (.int (iI x)), some (.int (iI (mS (V 17 0) (mh (V 17 0) b)))), some (.int (iI (mS (V 17 0) x))), none, none, none, none, none, none, none]) (Nat.le_of_ble_eq_true rfl) rfl ?_
  refine z_aload_n E dX6_merges_21 0 rfl rfl ?_
  refine z_aload_n E dX6_merges_22 0 rfl rfl ?_
  refine z_aload_n E dX6_merges_23 0 rfl rfl ?_
  refine z_get E (ci := 6) (N := 16) (C := RX6) (T := TX6) (rfl : vl 16 0 = true) rfl rfl iX6 0 (by decide) rfl f0 rfl dX6_merges_24 ?_
  refine z_bipush E dX6_merges_27 rfl ?_
  refine z_iload_n E dX6_merges_29 1 rfl rfl ?_
  refine z_iadd E dX6_merges_30 ?_
  refine z_iald E (rfl : vl 17 0 = true) 498 rfl (by omega) (by omega) (by omega) dX6_merges_31 ?_
  refine z_iload_n E dX6_merges_32 2 rfl rfl ?_
  refine z_callV E (ci := 6) (N := 16) (C := RX6) (T := TX6) (n := 2) (st := [.ref (ad G 16 0)]) (rfl : vl 16 0 = true) rfl rfl [.int (iI (V 17 0 (6 + b))), .int (iI x)] (kX6_common l G P V (V 17 0 (6 + b)) x hB (by omega) (by omega) hmL hI (by omega) (by omega) (by unfold mh at a3; exact a3) a4) gX6_merges_X6_common rfl ⟨rfl, rfl⟩ (by decide +kernel) ⟨Nat.le_of_ble_eq_true rfl, Nat.le_of_ble_eq_true rfl⟩ rfl rfl (Nat.le_of_ble_eq_true rfl) rfl dX6_merges_33 (z_dtI ?_)
  have zqe : V 17 0 (6 + b) = mh (V 17 0) b := rfl
  rw [zqe]
  have zqk := cmM_ok hI a4 16 (mh (V 17 0) b) a3 (by omega)
  have zqkr := hI.nn zqk
  have zqkq : inR (cmM (V 17 0) x 16 (mh (V 17 0) b)) := cmM_R hI a4 16 _ a3 (by unfold mh; assumption)
  refine z_callV E (ci := 6) (N := 16) (C := RX6) (T := TX6) (n := 1) (st := []) (rfl : vl 16 0 = true) rfl rfl [.int (iI (cmM (V 17 0) x 16 (mh (V 17 0) b)))] (kX6_slot l G P V (cmM (V 17 0) x 16 (mh (V 17 0) b)) hB (by omega) (by omega) (by omega)) gX6_merges_X6_slot rfl ⟨rfl, rfl⟩ (by decide +kernel) ⟨Nat.le_of_ble_eq_true rfl, Nat.le_of_ble_eq_true rfl⟩ rfl rfl (Nat.le_of_ble_eq_true rfl) rfl dX6_merges_36 (z_dtI ?_)
  have h_5a := mS_c (V 17 0) (cmM (V 17 0) x 16 (mh (V 17 0) b))
  rw [show fO (mS (V 17 0) (cmM (V 17 0) x 16 (mh (V 17 0) b))) = (mS (V 17 0) (cmM (V 17 0) x 16 (mh (V 17 0) b))) by omega]
  refine z_istore E dX6_merges_39 (L' := [some (.ref (ad G 16 0)), some (.int (iI b)), some (.int (iI x)), some (.int (iI (mS (V 17 0) (mh (V 17 0) b)))), some (.int (iI (mS (V 17 0) x))), some (.int (iI (mS (V 17 0) (cmM (V 17 0) x 16 (mh (V 17 0) b))))), none, none, none, none, none, none]) (Nat.le_of_ble_eq_true rfl) rfl ?_
  refine z_iconst E dX6_merges_41 ?_
  refine z_istore E dX6_merges_42 (L' := [some (.ref (ad G 16 0)), some (.int (iI b)), some (.int (iI x)), some (.int (iI (mS (V 17 0) (mh (V 17 0) b)))), some (.int (iI (mS (V 17 0) x))), some (.int (iI (mS (V 17 0) (cmM (V 17 0) x 16 (mh (V 17 0) b))))), some (.int (iI 0)), none, none, none, none, none]) (Nat.le_of_ble_eq_true rfl) rfl ?_
  refine z_iconst E dX6_merges_44 ?_
  refine z_istore E dX6_merges_45 (L' := [some (.ref (ad G 16 0)), some (.int (iI b)), some (.int (iI x)), some (.int (iI (mS (V 17 0) (mh (V 17 0) b)))), some (.int (iI (mS (V 17 0) x))), some (.int (iI (mS (V 17 0) (cmM (V 17 0) x 16 (mh (V 17 0) b))))), some (.int (iI 0)), some (.int (iI 0)), none, none, none, none]) (Nat.le_of_ble_eq_true rfl) rfl ?_
  have lp_47_6 : ∀ (fuel : Nat) (m : Int) (k : Int) (Vl_47 : Vt), BV Vl_47 → (0 ≤ k) → (k ≤ 48) → (m = sm k (fun c => b2i (mgX (mc (V 17 0) (mS (V 17 0) (cmM (V 17 0) x 16 (mh (V 17 0) b))) c) (mc (V 17 0) (mS (V 17 0) (mh (V 17 0) b)) c) (mc (V 17 0) (mS (V 17 0) x) c)))) → (Vl_47 = up V 21 0 (mix (V 21 0) (fun c => mgC (mc (V 17 0) (mS (V 17 0) (cmM (V 17 0) x 16 (mh (V 17 0) b))) c) (mc (V 17 0) (mS (V 17 0) (mh (V 17 0) b)) c) (mc (V 17 0) (mS (V 17 0) x) c)) k)) → (48 - k : Int).toNat < fuel → Kz X G P Vl_47 [some (.ref (ad G 16 0)), some (.int (iI b)), some (.int (iI x)), some (.int (iI (mS (V 17 0) (mh (V 17 0) b)))), some (.int (iI (mS (V 17 0) x))), some (.int (iI (mS (V 17 0) (cmM (V 17 0) x 16 (mh (V 17 0) b))))), some (.int (iI m)), some (.int (iI k)), none, none, none, none] 47 [] := by
    intro fuel
    induction fuel with
    | zero => intro m k Vl_47 hBl_47 hk0 hk1 hs hVl hf_47; exact absurd hf_47 (Nat.not_lt_zero _)
    | succ fuel ih_47 =>
      intro m k Vl_47 hBl_47 hk0 hk1 hs hVl hf_47
      have zq17 : Vl_47 17 0 = V 17 0 := by rw [hVl]; rfl
      have zq16 : Vl_47 16 0 = V 16 0 := by rw [hVl]; rfl
      have zqL : ∀ k p, 0 ≤ k → k < 16 → 0 ≤ p → p < 6 → 0 ≤ mo (Vl_47 17 0) k (2 + p) ∧ mo (Vl_47 17 0) k (2 + p) < 40 := by rw [zq17]; exact hmL
      have zqm0 : 0 ≤ Vl_47 17 0 0 := by rw [zq17]; exact hm0
      have zqm1 : Vl_47 17 0 0 ≤ 16 := by rw [zq17]; exact hm1
      refine z_iload E dX6_merges_47 rfl ?_
      refine z_bipush E dX6_merges_49 rfl ?_
      refine z_icmp_ge E 170 dX6_merges_51 rfl (by omega) (by omega) (fun c_7 => ?_) (fun c_7 => ?_)
      · skip
        refine z_iload E dX6_merges_170 rfl ?_
        exact z_iret E dX6_merges_172 (⟨rfl, hBl_47, by rw [hs, show k = 48 by omega], by rw [hVl, show k = 48 by omega]⟩)
      · skip
        refine z_aload_n E dX6_merges_54 0 rfl rfl ?_
        refine z_iload_n E dX6_merges_55 3 rfl rfl ?_
        refine z_iload E dX6_merges_56 rfl ?_
        refine z_callV E (ci := 6) (N := 16) (C := RX6) (T := TX6) (n := 2) (st := []) (rfl : vl 16 0 = true) rfl rfl [.int (iI (mS (V 17 0) (mh (V 17 0) b))), .int (iI k)] (kX6_cellOf l G P Vl_47 (mS (V 17 0) (mh (V 17 0) b)) k hBl_47 (by omega) (by omega) zqL (by omega) (by omega) (by omega) (by omega)) gX6_merges_X6_cellOf rfl ⟨rfl, rfl⟩ (by decide +kernel) ⟨Nat.le_of_ble_eq_true rfl, Nat.le_of_ble_eq_true rfl⟩ rfl rfl (Nat.le_of_ble_eq_true rfl) rfl dX6_merges_58 (z_dtI ?_)
        have h_8a := mc_R hBl_47 zqL (mS (V 17 0) (mh (V 17 0) b)) k (by omega) (by omega) (by omega) (by omega)
        rw [zq17] at h_8a ⊢
        refine z_istore E dX6_merges_61 (L' := [some (.ref (ad G 16 0)), some (.int (iI b)), some (.int (iI x)), some (.int (iI (mS (V 17 0) (mh (V 17 0) b)))), some (.int (iI (mS (V 17 0) x))), some (.int (iI (mS (V 17 0) (cmM (V 17 0) x 16 (mh (V 17 0) b))))), some (.int (iI m)), some (.int (iI k)), some (.int (iI (mc (V 17 0) (mS (V 17 0) (mh (V 17 0) b)) k))), none, none, none]) (Nat.le_of_ble_eq_true rfl) rfl ?_
        refine z_aload_n E dX6_merges_63 0 rfl rfl ?_
        refine z_iload E dX6_merges_64 rfl ?_
        refine z_iload E dX6_merges_66 rfl ?_
        refine z_callV E (ci := 6) (N := 16) (C := RX6) (T := TX6) (n := 2) (st := []) (rfl : vl 16 0 = true) rfl rfl [.int (iI (mS (V 17 0) x)), .int (iI k)] (kX6_cellOf l G P Vl_47 (mS (V 17 0) x) k hBl_47 (by omega) (by omega) zqL (by omega) (by omega) (by omega) (by omega)) gX6_merges_X6_cellOf rfl ⟨rfl, rfl⟩ (by decide +kernel) ⟨Nat.le_of_ble_eq_true rfl, Nat.le_of_ble_eq_true rfl⟩ rfl rfl (Nat.le_of_ble_eq_true rfl) rfl dX6_merges_68 (z_dtI ?_)
        have h_9a := mc_R hBl_47 zqL (mS (V 17 0) x) k (by omega) (by omega) (by omega) (by omega)
        rw [zq17] at h_9a ⊢
        refine z_istore E dX6_merges_71 (L' := [some (.ref (ad G 16 0)), some (.int (iI b)), some (.int (iI x)), some (.int (iI (mS (V 17 0) (mh (V 17 0) b)))), some (.int (iI (mS (V 17 0) x))), some (.int (iI (mS (V 17 0) (cmM (V 17 0) x 16 (mh (V 17 0) b))))), some (.int (iI m)), some (.int (iI k)), some (.int (iI (mc (V 17 0) (mS (V 17 0) (mh (V 17 0) b)) k))), some (.int (iI (mc (V 17 0) (mS (V 17 0) x) k))), none, none]) (Nat.le_of_ble_eq_true rfl) rfl ?_
        refine z_iload E dX6_merges_73 rfl ?_
        refine z_aload_n E dX6_merges_75 0 rfl rfl ?_
        refine z_iload E dX6_merges_76 rfl ?_
        refine z_iload E dX6_merges_78 rfl ?_
        refine z_callV E (ci := 6) (N := 16) (C := RX6) (T := TX6) (n := 2) (st := [.int (iI (mc (V 17 0) (mS (V 17 0) x) k))]) (rfl : vl 16 0 = true) rfl rfl [.int (iI (mS (V 17 0) (cmM (V 17 0) x 16 (mh (V 17 0) b)))), .int (iI k)] (kX6_cellOf l G P Vl_47 (mS (V 17 0) (cmM (V 17 0) x 16 (mh (V 17 0) b))) k hBl_47 (by omega) (by omega) zqL (by omega) (by omega) (by omega) (by omega)) gX6_merges_X6_cellOf rfl ⟨rfl, rfl⟩ (by decide +kernel) ⟨Nat.le_of_ble_eq_true rfl, Nat.le_of_ble_eq_true rfl⟩ rfl rfl (Nat.le_of_ble_eq_true rfl) rfl dX6_merges_80 (z_dtI ?_)
        have h_10a := mc_R hBl_47 zqL (mS (V 17 0) (cmM (V 17 0) x 16 (mh (V 17 0) b))) k (by omega) (by omega) (by omega) (by omega)
        rw [zq17] at h_10a ⊢
        refine z_icmp_ne E 90 dX6_merges_83 rfl (by omega) (by omega) (fun c_11 => ?_) (fun c_11 => ?_)
        · skip
          refine z_iconst E dX6_merges_90 ?_
          refine z_istore E dX6_merges_91 (L' := [some (.ref (ad G 16 0)), some (.int (iI b)), some (.int (iI x)), some (.int (iI (mS (V 17 0) (mh (V 17 0) b)))), some (.int (iI (mS (V 17 0) x))), some (.int (iI (mS (V 17 0) (cmM (V 17 0) x 16 (mh (V 17 0) b))))), some (.int (iI m)), some (.int (iI k)), some (.int (iI (mc (V 17 0) (mS (V 17 0) (mh (V 17 0) b)) k))), some (.int (iI (mc (V 17 0) (mS (V 17 0) x) k))), some (.int (iI 0)), none]) (Nat.le_of_ble_eq_true rfl) rfl ?_
          refine z_iload E dX6_merges_93 rfl ?_
          refine z_if_ne E 122 dX6_merges_95 rfl (by omega) (fun c => absurd c (by decide)) (fun _ => ?_)
          refine z_iload E dX6_merges_98 rfl ?_
          refine z_aload_n E dX6_merges_100 0 rfl rfl ?_
          refine z_iload E dX6_merges_101 rfl ?_
          refine z_iload E dX6_merges_103 rfl ?_
          refine z_callV E (ci := 6) (N := 16) (C := RX6) (T := TX6) (n := 2) (st := [.int (iI (mc (V 17 0) (mS (V 17 0) (mh (V 17 0) b)) k))]) (rfl : vl 16 0 = true) rfl rfl [.int (iI (mS (V 17 0) (cmM (V 17 0) x 16 (mh (V 17 0) b)))), .int (iI k)] (kX6_cellOf l G P Vl_47 (mS (V 17 0) (cmM (V 17 0) x 16 (mh (V 17 0) b))) k hBl_47 (by omega) (by omega) zqL (by omega) (by omega) (by omega) (by omega)) gX6_merges_X6_cellOf rfl ⟨rfl, rfl⟩ (by decide +kernel) ⟨Nat.le_of_ble_eq_true rfl, Nat.le_of_ble_eq_true rfl⟩ rfl rfl (Nat.le_of_ble_eq_true rfl) rfl dX6_merges_105 (z_dtI ?_)
          have h_13a := mc_R hBl_47 zqL (mS (V 17 0) (cmM (V 17 0) x 16 (mh (V 17 0) b))) k (by omega) (by omega) (by omega) (by omega)
          rw [zq17] at h_13a ⊢
          refine z_icmp_eq E 118 dX6_merges_108 rfl (by omega) (by omega) (fun c_14 => ?_) (fun c_14 => ?_)
          · skip
            refine z_iconst E dX6_merges_118 ?_
            refine z_goto E 123 dX6_merges_119 rfl ?_
            refine z_istore E dX6_merges_123 (L' := [some (.ref (ad G 16 0)), some (.int (iI b)), some (.int (iI x)), some (.int (iI (mS (V 17 0) (mh (V 17 0) b)))), some (.int (iI (mS (V 17 0) x))), some (.int (iI (mS (V 17 0) (cmM (V 17 0) x 16 (mh (V 17 0) b))))), some (.int (iI m)), some (.int (iI k)), some (.int (iI (mc (V 17 0) (mS (V 17 0) (mh (V 17 0) b)) k))), some (.int (iI (mc (V 17 0) (mS (V 17 0) x) k))), some (.int (iI 0)), some (.int (iI 1))]) (Nat.le_of_ble_eq_true rfl) rfl ?_
            refine z_aload_n E dX6_merges_125 0 rfl rfl ?_
            refine z_get E (ci := 6) (N := 16) (C := RX6) (T := TX6) (rfl : vl 16 0 = true) rfl rfl iX6 7 (by decide) rfl f1 rfl dX6_merges_126 ?_
            refine z_iload E dX6_merges_129 rfl ?_
            refine z_iload E dX6_merges_131 rfl ?_
            refine z_if_eq E 141 dX6_merges_133 rfl (by omega) (fun c => absurd c (by decide)) (fun _ => ?_)
            refine z_iload E dX6_merges_136 rfl ?_
            refine z_goto E 143 dX6_merges_138 rfl ?_
            refine z_iast E (rfl : vl 21 0 = true) 48 (fun _ => rfl) (by omega) (by omega) (by omega) dX6_merges_143 ?_
            obtain ⟨V16, hV16⟩ : ∃ Z : Vt, Z = up Vl_47 21 0 (updI (Vl_47 21 0) k (mc (V 17 0) (mS (V 17 0) x) k)) := ⟨_, rfl⟩
            rw [← hV16]
            have hB16 : BV V16 := hV16 ▸ BV_up hBl_47 (by intro _; omega)
            refine z_iload E dX6_merges_144 rfl ?_
            refine z_iload E dX6_merges_146 rfl ?_
            refine z_if_ne E 156 dX6_merges_148 rfl (by omega) (fun c => absurd c (by decide)) (fun _ => ?_)
            refine z_iload E dX6_merges_151 rfl ?_
            refine z_if_eq E 160 dX6_merges_153 rfl (by omega) (fun c => absurd c (by decide)) (fun _ => ?_)
            refine z_iconst E dX6_merges_156 ?_
            refine z_goto E 161 dX6_merges_157 rfl ?_
            refine z_iadd E dX6_merges_161 ?_
            refine z_istore E dX6_merges_162 (L' := [some (.ref (ad G 16 0)), some (.int (iI b)), some (.int (iI x)), some (.int (iI (mS (V 17 0) (mh (V 17 0) b)))), some (.int (iI (mS (V 17 0) x))), some (.int (iI (mS (V 17 0) (cmM (V 17 0) x 16 (mh (V 17 0) b))))), some (.int (iI (m + 0))), some (.int (iI k)), some (.int (iI (mc (V 17 0) (mS (V 17 0) (mh (V 17 0) b)) k))), some (.int (iI (mc (V 17 0) (mS (V 17 0) x) k))), some (.int (iI 0)), some (.int (iI 1))]) (Nat.le_of_ble_eq_true rfl) rfl ?_
            refine z_iinc E k dX6_merges_164 (L' := [some (.ref (ad G 16 0)), some (.int (iI b)), some (.int (iI x)), some (.int (iI (mS (V 17 0) (mh (V 17 0) b)))), some (.int (iI (mS (V 17 0) x))), some (.int (iI (mS (V 17 0) (cmM (V 17 0) x 16 (mh (V 17 0) b))))), some (.int (iI (m + 0))), some (.int (iI (k + 1))), some (.int (iI (mc (V 17 0) (mS (V 17 0) (mh (V 17 0) b)) k))), some (.int (iI (mc (V 17 0) (mS (V 17 0) x) k))), some (.int (iI 0)), some (.int (iI 1))]) (Nat.le_of_ble_eq_true rfl) rfl rfl ?_
            refine z_goto E 47 dX6_merges_167 rfl ?_
            refine Kz.drop 8 (L' := [some (.ref (ad G 16 0)), some (.int (iI b)), some (.int (iI x)), some (.int (iI (mS (V 17 0) (mh (V 17 0) b)))), some (.int (iI (mS (V 17 0) x))), some (.int (iI (mS (V 17 0) (cmM (V 17 0) x 16 (mh (V 17 0) b))))), some (.int (iI (m + 0))), some (.int (iI (k + 1))), none, some (.int (iI (mc (V 17 0) (mS (V 17 0) x) k))), some (.int (iI 0)), some (.int (iI 1))]) rfl ?_
            refine Kz.drop 9 (L' := [some (.ref (ad G 16 0)), some (.int (iI b)), some (.int (iI x)), some (.int (iI (mS (V 17 0) (mh (V 17 0) b)))), some (.int (iI (mS (V 17 0) x))), some (.int (iI (mS (V 17 0) (cmM (V 17 0) x 16 (mh (V 17 0) b))))), some (.int (iI (m + 0))), some (.int (iI (k + 1))), none, none, some (.int (iI 0)), some (.int (iI 1))]) rfl ?_
            refine Kz.drop 10 (L' := [some (.ref (ad G 16 0)), some (.int (iI b)), some (.int (iI x)), some (.int (iI (mS (V 17 0) (mh (V 17 0) b)))), some (.int (iI (mS (V 17 0) x))), some (.int (iI (mS (V 17 0) (cmM (V 17 0) x 16 (mh (V 17 0) b))))), some (.int (iI (m + 0))), some (.int (iI (k + 1))), none, none, none, some (.int (iI 1))]) rfl ?_
            refine Kz.drop 11 (L' := [some (.ref (ad G 16 0)), some (.int (iI b)), some (.int (iI x)), some (.int (iI (mS (V 17 0) (mh (V 17 0) b)))), some (.int (iI (mS (V 17 0) x))), some (.int (iI (mS (V 17 0) (cmM (V 17 0) x 16 (mh (V 17 0) b))))), some (.int (iI (m + 0))), some (.int (iI (k + 1))), none, none, none, none]) rfl ?_
            exact ih_47 (m + 0) (k + 1) V16 hB16 (by omega) (by omega) (by first | (exfalso; omega) | exact smb_t hs (by omega) (by unfold mgX; omega) | exact smb_f hs (by omega) (by unfold mgX; omega)) (by rw [hV16, hVl, up_s, upup]; congr 1; exact mix_e hk0 (by first | exact (mgC_t (by omega)).symm | exact (mgC_f (by omega)).symm)) (by omega)
          · skip
            refine z_iload E dX6_merges_111 rfl ?_
            refine z_iload E dX6_merges_113 rfl ?_
            refine z_icmp_ne E 122 dX6_merges_115 rfl (by omega) (by omega) (fun c_19 => ?_) (fun c_19 => ?_)
            · skip
              refine z_iconst E dX6_merges_122 ?_
              refine z_istore E dX6_merges_123 (L' := [some (.ref (ad G 16 0)), some (.int (iI b)), some (.int (iI x)), some (.int (iI (mS (V 17 0) (mh (V 17 0) b)))), some (.int (iI (mS (V 17 0) x))), some (.int (iI (mS (V 17 0) (cmM (V 17 0) x 16 (mh (V 17 0) b))))), some (.int (iI m)), some (.int (iI k)), some (.int (iI (mc (V 17 0) (mS (V 17 0) (mh (V 17 0) b)) k))), some (.int (iI (mc (V 17 0) (mS (V 17 0) x) k))), some (.int (iI 0)), some (.int (iI 0))]) (Nat.le_of_ble_eq_true rfl) rfl ?_
              refine z_aload_n E dX6_merges_125 0 rfl rfl ?_
              refine z_get E (ci := 6) (N := 16) (C := RX6) (T := TX6) (rfl : vl 16 0 = true) rfl rfl iX6 7 (by decide) rfl f1 rfl dX6_merges_126 ?_
              refine z_iload E dX6_merges_129 rfl ?_
              refine z_iload E dX6_merges_131 rfl ?_
              refine z_if_eq E 141 dX6_merges_133 rfl (by omega) (fun _ => ?_) (fun c => absurd c (by decide))
              refine z_iload E dX6_merges_141 rfl ?_
              refine z_iast E (rfl : vl 21 0 = true) 48 (fun _ => rfl) (by omega) (by omega) (by omega) dX6_merges_143 ?_
              obtain ⟨V21, hV21⟩ : ∃ Z : Vt, Z = up Vl_47 21 0 (updI (Vl_47 21 0) k (mc (V 17 0) (mS (V 17 0) (mh (V 17 0) b)) k)) := ⟨_, rfl⟩
              rw [← hV21]
              have hB21 : BV V21 := hV21 ▸ BV_up hBl_47 (by intro _; omega)
              refine z_iload E dX6_merges_144 rfl ?_
              refine z_iload E dX6_merges_146 rfl ?_
              refine z_if_ne E 156 dX6_merges_148 rfl (by omega) (fun c => absurd c (by decide)) (fun _ => ?_)
              refine z_iload E dX6_merges_151 rfl ?_
              refine z_if_eq E 160 dX6_merges_153 rfl (by omega) (fun _ => ?_) (fun c => absurd c (by decide))
              refine z_iconst E dX6_merges_160 ?_
              refine z_iadd E dX6_merges_161 ?_
              refine z_istore E dX6_merges_162 (L' := [some (.ref (ad G 16 0)), some (.int (iI b)), some (.int (iI x)), some (.int (iI (mS (V 17 0) (mh (V 17 0) b)))), some (.int (iI (mS (V 17 0) x))), some (.int (iI (mS (V 17 0) (cmM (V 17 0) x 16 (mh (V 17 0) b))))), some (.int (iI (m + 1))), some (.int (iI k)), some (.int (iI (mc (V 17 0) (mS (V 17 0) (mh (V 17 0) b)) k))), some (.int (iI (mc (V 17 0) (mS (V 17 0) x) k))), some (.int (iI 0)), some (.int (iI 0))]) (Nat.le_of_ble_eq_true rfl) rfl ?_
              refine z_iinc E k dX6_merges_164 (L' := [some (.ref (ad G 16 0)), some (.int (iI b)), some (.int (iI x)), some (.int (iI (mS (V 17 0) (mh (V 17 0) b)))), some (.int (iI (mS (V 17 0) x))), some (.int (iI (mS (V 17 0) (cmM (V 17 0) x 16 (mh (V 17 0) b))))), some (.int (iI (m + 1))), some (.int (iI (k + 1))), some (.int (iI (mc (V 17 0) (mS (V 17 0) (mh (V 17 0) b)) k))), some (.int (iI (mc (V 17 0) (mS (V 17 0) x) k))), some (.int (iI 0)), some (.int (iI 0))]) (Nat.le_of_ble_eq_true rfl) rfl rfl ?_
              refine z_goto E 47 dX6_merges_167 rfl ?_
              refine Kz.drop 8 (L' := [some (.ref (ad G 16 0)), some (.int (iI b)), some (.int (iI x)), some (.int (iI (mS (V 17 0) (mh (V 17 0) b)))), some (.int (iI (mS (V 17 0) x))), some (.int (iI (mS (V 17 0) (cmM (V 17 0) x 16 (mh (V 17 0) b))))), some (.int (iI (m + 1))), some (.int (iI (k + 1))), none, some (.int (iI (mc (V 17 0) (mS (V 17 0) x) k))), some (.int (iI 0)), some (.int (iI 0))]) rfl ?_
              refine Kz.drop 9 (L' := [some (.ref (ad G 16 0)), some (.int (iI b)), some (.int (iI x)), some (.int (iI (mS (V 17 0) (mh (V 17 0) b)))), some (.int (iI (mS (V 17 0) x))), some (.int (iI (mS (V 17 0) (cmM (V 17 0) x 16 (mh (V 17 0) b))))), some (.int (iI (m + 1))), some (.int (iI (k + 1))), none, none, some (.int (iI 0)), some (.int (iI 0))]) rfl ?_
              refine Kz.drop 10 (L' := [some (.ref (ad G 16 0)), some (.int (iI b)), some (.int (iI x)), some (.int (iI (mS (V 17 0) (mh (V 17 0) b)))), some (.int (iI (mS (V 17 0) x))), some (.int (iI (mS (V 17 0) (cmM (V 17 0) x 16 (mh (V 17 0) b))))), some (.int (iI (m + 1))), some (.int (iI (k + 1))), none, none, none, some (.int (iI 0))]) rfl ?_
              refine Kz.drop 11 (L' := [some (.ref (ad G 16 0)), some (.int (iI b)), some (.int (iI x)), some (.int (iI (mS (V 17 0) (mh (V 17 0) b)))), some (.int (iI (mS (V 17 0) x))), some (.int (iI (mS (V 17 0) (cmM (V 17 0) x 16 (mh (V 17 0) b))))), some (.int (iI (m + 1))), some (.int (iI (k + 1))), none, none, none, none]) rfl ?_
              exact ih_47 (m + 1) (k + 1) V21 hB21 (by omega) (by omega) (by first | (exfalso; omega) | exact smb_t hs (by omega) (by unfold mgX; omega) | exact smb_f hs (by omega) (by unfold mgX; omega)) (by rw [hV21, hVl, up_s, upup]; congr 1; exact mix_e hk0 (by first | exact (mgC_t (by omega)).symm | exact (mgC_f (by omega)).symm)) (by omega)
            · skip
              refine z_iconst E dX6_merges_118 ?_
              refine z_goto E 123 dX6_merges_119 rfl ?_
              refine z_istore E dX6_merges_123 (L' := [some (.ref (ad G 16 0)), some (.int (iI b)), some (.int (iI x)), some (.int (iI (mS (V 17 0) (mh (V 17 0) b)))), some (.int (iI (mS (V 17 0) x))), some (.int (iI (mS (V 17 0) (cmM (V 17 0) x 16 (mh (V 17 0) b))))), some (.int (iI m)), some (.int (iI k)), some (.int (iI (mc (V 17 0) (mS (V 17 0) (mh (V 17 0) b)) k))), some (.int (iI (mc (V 17 0) (mS (V 17 0) x) k))), some (.int (iI 0)), some (.int (iI 1))]) (Nat.le_of_ble_eq_true rfl) rfl ?_
              refine z_aload_n E dX6_merges_125 0 rfl rfl ?_
              refine z_get E (ci := 6) (N := 16) (C := RX6) (T := TX6) (rfl : vl 16 0 = true) rfl rfl iX6 7 (by decide) rfl f1 rfl dX6_merges_126 ?_
              refine z_iload E dX6_merges_129 rfl ?_
              refine z_iload E dX6_merges_131 rfl ?_
              refine z_if_eq E 141 dX6_merges_133 rfl (by omega) (fun c => absurd c (by decide)) (fun _ => ?_)
              refine z_iload E dX6_merges_136 rfl ?_
              refine z_goto E 143 dX6_merges_138 rfl ?_
              refine z_iast E (rfl : vl 21 0 = true) 48 (fun _ => rfl) (by omega) (by omega) (by omega) dX6_merges_143 ?_
              obtain ⟨V25, hV25⟩ : ∃ Z : Vt, Z = up Vl_47 21 0 (updI (Vl_47 21 0) k (mc (V 17 0) (mS (V 17 0) x) k)) := ⟨_, rfl⟩
              rw [← hV25]
              have hB25 : BV V25 := hV25 ▸ BV_up hBl_47 (by intro _; omega)
              refine z_iload E dX6_merges_144 rfl ?_
              refine z_iload E dX6_merges_146 rfl ?_
              refine z_if_ne E 156 dX6_merges_148 rfl (by omega) (fun c => absurd c (by decide)) (fun _ => ?_)
              refine z_iload E dX6_merges_151 rfl ?_
              refine z_if_eq E 160 dX6_merges_153 rfl (by omega) (fun c => absurd c (by decide)) (fun _ => ?_)
              refine z_iconst E dX6_merges_156 ?_
              refine z_goto E 161 dX6_merges_157 rfl ?_
              refine z_iadd E dX6_merges_161 ?_
              refine z_istore E dX6_merges_162 (L' := [some (.ref (ad G 16 0)), some (.int (iI b)), some (.int (iI x)), some (.int (iI (mS (V 17 0) (mh (V 17 0) b)))), some (.int (iI (mS (V 17 0) x))), some (.int (iI (mS (V 17 0) (cmM (V 17 0) x 16 (mh (V 17 0) b))))), some (.int (iI (m + 0))), some (.int (iI k)), some (.int (iI (mc (V 17 0) (mS (V 17 0) (mh (V 17 0) b)) k))), some (.int (iI (mc (V 17 0) (mS (V 17 0) x) k))), some (.int (iI 0)), some (.int (iI 1))]) (Nat.le_of_ble_eq_true rfl) rfl ?_
              refine z_iinc E k dX6_merges_164 (L' := [some (.ref (ad G 16 0)), some (.int (iI b)), some (.int (iI x)), some (.int (iI (mS (V 17 0) (mh (V 17 0) b)))), some (.int (iI (mS (V 17 0) x))), some (.int (iI (mS (V 17 0) (cmM (V 17 0) x 16 (mh (V 17 0) b))))), some (.int (iI (m + 0))), some (.int (iI (k + 1))), some (.int (iI (mc (V 17 0) (mS (V 17 0) (mh (V 17 0) b)) k))), some (.int (iI (mc (V 17 0) (mS (V 17 0) x) k))), some (.int (iI 0)), some (.int (iI 1))]) (Nat.le_of_ble_eq_true rfl) rfl rfl ?_
              refine z_goto E 47 dX6_merges_167 rfl ?_
              refine Kz.drop 8 (L' := [some (.ref (ad G 16 0)), some (.int (iI b)), some (.int (iI x)), some (.int (iI (mS (V 17 0) (mh (V 17 0) b)))), some (.int (iI (mS (V 17 0) x))), some (.int (iI (mS (V 17 0) (cmM (V 17 0) x 16 (mh (V 17 0) b))))), some (.int (iI (m + 0))), some (.int (iI (k + 1))), none, some (.int (iI (mc (V 17 0) (mS (V 17 0) x) k))), some (.int (iI 0)), some (.int (iI 1))]) rfl ?_
              refine Kz.drop 9 (L' := [some (.ref (ad G 16 0)), some (.int (iI b)), some (.int (iI x)), some (.int (iI (mS (V 17 0) (mh (V 17 0) b)))), some (.int (iI (mS (V 17 0) x))), some (.int (iI (mS (V 17 0) (cmM (V 17 0) x 16 (mh (V 17 0) b))))), some (.int (iI (m + 0))), some (.int (iI (k + 1))), none, none, some (.int (iI 0)), some (.int (iI 1))]) rfl ?_
              refine Kz.drop 10 (L' := [some (.ref (ad G 16 0)), some (.int (iI b)), some (.int (iI x)), some (.int (iI (mS (V 17 0) (mh (V 17 0) b)))), some (.int (iI (mS (V 17 0) x))), some (.int (iI (mS (V 17 0) (cmM (V 17 0) x 16 (mh (V 17 0) b))))), some (.int (iI (m + 0))), some (.int (iI (k + 1))), none, none, none, some (.int (iI 1))]) rfl ?_
              refine Kz.drop 11 (L' := [some (.ref (ad G 16 0)), some (.int (iI b)), some (.int (iI x)), some (.int (iI (mS (V 17 0) (mh (V 17 0) b)))), some (.int (iI (mS (V 17 0) x))), some (.int (iI (mS (V 17 0) (cmM (V 17 0) x 16 (mh (V 17 0) b))))), some (.int (iI (m + 0))), some (.int (iI (k + 1))), none, none, none, none]) rfl ?_
              exact ih_47 (m + 0) (k + 1) V25 hB25 (by omega) (by omega) (by first | (exfalso; omega) | exact smb_t hs (by omega) (by unfold mgX; omega) | exact smb_f hs (by omega) (by unfold mgX; omega)) (by rw [hV25, hVl, up_s, upup]; congr 1; exact mix_e hk0 (by first | exact (mgC_t (by omega)).symm | exact (mgC_f (by omega)).symm)) (by omega)
        · skip
          refine z_iconst E dX6_merges_86 ?_
          refine z_goto E 91 dX6_merges_87 rfl ?_
          refine z_istore E dX6_merges_91 (L' := [some (.ref (ad G 16 0)), some (.int (iI b)), some (.int (iI x)), some (.int (iI (mS (V 17 0) (mh (V 17 0) b)))), some (.int (iI (mS (V 17 0) x))), some (.int (iI (mS (V 17 0) (cmM (V 17 0) x 16 (mh (V 17 0) b))))), some (.int (iI m)), some (.int (iI k)), some (.int (iI (mc (V 17 0) (mS (V 17 0) (mh (V 17 0) b)) k))), some (.int (iI (mc (V 17 0) (mS (V 17 0) x) k))), some (.int (iI 1)), none]) (Nat.le_of_ble_eq_true rfl) rfl ?_
          refine z_iload E dX6_merges_93 rfl ?_
          refine z_if_ne E 122 dX6_merges_95 rfl (by omega) (fun _ => ?_) (fun c => absurd c (by decide))
          refine z_iconst E dX6_merges_122 ?_
          refine z_istore E dX6_merges_123 (L' := [some (.ref (ad G 16 0)), some (.int (iI b)), some (.int (iI x)), some (.int (iI (mS (V 17 0) (mh (V 17 0) b)))), some (.int (iI (mS (V 17 0) x))), some (.int (iI (mS (V 17 0) (cmM (V 17 0) x 16 (mh (V 17 0) b))))), some (.int (iI m)), some (.int (iI k)), some (.int (iI (mc (V 17 0) (mS (V 17 0) (mh (V 17 0) b)) k))), some (.int (iI (mc (V 17 0) (mS (V 17 0) x) k))), some (.int (iI 1)), some (.int (iI 0))]) (Nat.le_of_ble_eq_true rfl) rfl ?_
          refine z_aload_n E dX6_merges_125 0 rfl rfl ?_
          refine z_get E (ci := 6) (N := 16) (C := RX6) (T := TX6) (rfl : vl 16 0 = true) rfl rfl iX6 7 (by decide) rfl f1 rfl dX6_merges_126 ?_
          refine z_iload E dX6_merges_129 rfl ?_
          refine z_iload E dX6_merges_131 rfl ?_
          refine z_if_eq E 141 dX6_merges_133 rfl (by omega) (fun _ => ?_) (fun c => absurd c (by decide))
          refine z_iload E dX6_merges_141 rfl ?_
          refine z_iast E (rfl : vl 21 0 = true) 48 (fun _ => rfl) (by omega) (by omega) (by omega) dX6_merges_143 ?_
          obtain ⟨V30, hV30⟩ : ∃ Z : Vt, Z = up Vl_47 21 0 (updI (Vl_47 21 0) k (mc (V 17 0) (mS (V 17 0) (mh (V 17 0) b)) k)) := ⟨_, rfl⟩
          rw [← hV30]
          have hB30 : BV V30 := hV30 ▸ BV_up hBl_47 (by intro _; omega)
          refine z_iload E dX6_merges_144 rfl ?_
          refine z_iload E dX6_merges_146 rfl ?_
          refine z_if_ne E 156 dX6_merges_148 rfl (by omega) (fun _ => ?_) (fun c => absurd c (by decide))
          refine z_iconst E dX6_merges_156 ?_
          refine z_goto E 161 dX6_merges_157 rfl ?_
          refine z_iadd E dX6_merges_161 ?_
          refine z_istore E dX6_merges_162 (L' := [some (.ref (ad G 16 0)), some (.int (iI b)), some (.int (iI x)), some (.int (iI (mS (V 17 0) (mh (V 17 0) b)))), some (.int (iI (mS (V 17 0) x))), some (.int (iI (mS (V 17 0) (cmM (V 17 0) x 16 (mh (V 17 0) b))))), some (.int (iI (m + 0))), some (.int (iI k)), some (.int (iI (mc (V 17 0) (mS (V 17 0) (mh (V 17 0) b)) k))), some (.int (iI (mc (V 17 0) (mS (V 17 0) x) k))), some (.int (iI 1)), some (.int (iI 0))]) (Nat.le_of_ble_eq_true rfl) rfl ?_
          refine z_iinc E k dX6_merges_164 (L' := [some (.ref (ad G 16 0)), some (.int (iI b)), some (.int (iI x)), some (.int (iI (mS (V 17 0) (mh (V 17 0) b)))), some (.int (iI (mS (V 17 0) x))), some (.int (iI (mS (V 17 0) (cmM (V 17 0) x 16 (mh (V 17 0) b))))), some (.int (iI (m + 0))), some (.int (iI (k + 1))), some (.int (iI (mc (V 17 0) (mS (V 17 0) (mh (V 17 0) b)) k))), some (.int (iI (mc (V 17 0) (mS (V 17 0) x) k))), some (.int (iI 1)), some (.int (iI 0))]) (Nat.le_of_ble_eq_true rfl) rfl rfl ?_
          refine z_goto E 47 dX6_merges_167 rfl ?_
          refine Kz.drop 8 (L' := [some (.ref (ad G 16 0)), some (.int (iI b)), some (.int (iI x)), some (.int (iI (mS (V 17 0) (mh (V 17 0) b)))), some (.int (iI (mS (V 17 0) x))), some (.int (iI (mS (V 17 0) (cmM (V 17 0) x 16 (mh (V 17 0) b))))), some (.int (iI (m + 0))), some (.int (iI (k + 1))), none, some (.int (iI (mc (V 17 0) (mS (V 17 0) x) k))), some (.int (iI 1)), some (.int (iI 0))]) rfl ?_
          refine Kz.drop 9 (L' := [some (.ref (ad G 16 0)), some (.int (iI b)), some (.int (iI x)), some (.int (iI (mS (V 17 0) (mh (V 17 0) b)))), some (.int (iI (mS (V 17 0) x))), some (.int (iI (mS (V 17 0) (cmM (V 17 0) x 16 (mh (V 17 0) b))))), some (.int (iI (m + 0))), some (.int (iI (k + 1))), none, none, some (.int (iI 1)), some (.int (iI 0))]) rfl ?_
          refine Kz.drop 10 (L' := [some (.ref (ad G 16 0)), some (.int (iI b)), some (.int (iI x)), some (.int (iI (mS (V 17 0) (mh (V 17 0) b)))), some (.int (iI (mS (V 17 0) x))), some (.int (iI (mS (V 17 0) (cmM (V 17 0) x 16 (mh (V 17 0) b))))), some (.int (iI (m + 0))), some (.int (iI (k + 1))), none, none, none, some (.int (iI 0))]) rfl ?_
          refine Kz.drop 11 (L' := [some (.ref (ad G 16 0)), some (.int (iI b)), some (.int (iI x)), some (.int (iI (mS (V 17 0) (mh (V 17 0) b)))), some (.int (iI (mS (V 17 0) x))), some (.int (iI (mS (V 17 0) (cmM (V 17 0) x 16 (mh (V 17 0) b))))), some (.int (iI (m + 0))), some (.int (iI (k + 1))), none, none, none, none]) rfl ?_
          exact ih_47 (m + 0) (k + 1) V30 hB30 (by omega) (by omega) (by first | (exfalso; omega) | exact smb_t hs (by omega) (by unfold mgX; omega) | exact smb_f hs (by omega) (by unfold mgX; omega)) (by rw [hV30, hVl, up_s, upup]; congr 1; exact mix_e hk0 (by first | exact (mgC_t (by omega)).symm | exact (mgC_f (by omega)).symm)) (by omega)
  exact lp_47_6 ((48 - 0 : Int).toNat + 1) 0 0 V hB (by omega) (by omega) (sm_0 (by omega)).symm (by rw [mix_0]; exact up_self.symm) (Nat.lt_succ_self _)

set_option maxHeartbeats 4000000 in
set_option maxRecDepth 100000 in
theorem kX6_conflicts (l : Launch) (G : Gl) (P : Nat → Nat) (V : Vt) (b : Int) (x : Int) (hB : BV V) (hm0 : 0 ≤ V 17 0 0) (hm1 : V 17 0 0 ≤ 16) (hmL : ∀ k p, 0 ≤ k → k < 16 → 0 ≤ p → p < 6 → 0 ≤ mo (V 17 0) k (2 + p) ∧ mo (V 17 0) k (2 + p) < 40) (hI : MI (V 17 0)) (hH : MH (V 17 0)) (r1 : inR b) (r2 : inR x) : Met l yX6_conflicts wsX6_conflicts ({ frames := 5, cells := 0, slots := 0, locals := 121 }) (va_Pc [.ref (ad G 16 0), .int (iI b), .int (iI x)] (Sg G P V)) (Qk G mkI (fun r P' V' => P' = P ∧ BV V' ∧ ((¬ ((0 ≤ b ∧ b ≤ 3 ∧ 0 ≤ mh (V 17 0) b) ∧ 0 ≤ fO (mS (V 17 0) x)) ∧ r = -1000001 ∧ V' = V) ∨ (((0 ≤ b ∧ b ≤ 3 ∧ 0 ≤ mh (V 17 0) b) ∧ 0 ≤ fO (mS (V 17 0) x)) ∧ r = sm 48 (fun c => b2i (mgX (mc (V 17 0) (mS (V 17 0) (cmM (V 17 0) x 16 (mh (V 17 0) b))) c) (mc (V 17 0) (mS (V 17 0) (mh (V 17 0) b)) c) (mc (V 17 0) (mS (V 17 0) x) c))) ∧ V' = up V 21 0 (mix (V 21 0) (fun c => mgC (mc (V 17 0) (mS (V 17 0) (cmM (V 17 0) x 16 (mh (V 17 0) b))) c) (mc (V 17 0) (mS (V 17 0) (mh (V 17 0) b)) c) (mc (V 17 0) (mS (V 17 0) x) c)) 48))))) 0 0 (mem G) := by
  refine z_met (cc := cX6_conflicts) (nL := 3) (ret := (some .int)) (own := RX6) (by decide +kernel) rfl rfl (Nat.le_of_ble_eq_true rfl) (zz_cat rfl) (L := [some (.ref (ad G 16 0)), some (.int (iI b)), some (.int (iI x))]) rfl ?_
  intro X E
  have f0 : Cond.constant RX6 111 (-1000001) ∈ wsX6_conflicts := by decide +kernel
  refine z_aload_n E dX6_conflicts_0 0 rfl rfl ?_
  refine z_iload_n E dX6_conflicts_1 1 rfl rfl ?_
  refine z_callV E (ci := 6) (N := 16) (C := RX6) (T := TX6) (n := 1) (st := []) (rfl : vl 16 0 = true) rfl rfl [.int (iI b)] (kX6_isBranch l G P V b hB (by omega)) gX6_conflicts_X6_isBranch rfl ⟨rfl, rfl⟩ (by decide +kernel) ⟨Nat.le_of_ble_eq_true rfl, Nat.le_of_ble_eq_true rfl⟩ rfl rfl (Nat.le_of_ble_eq_true rfl) rfl dX6_conflicts_2 (z_dtI ?_)
  refine z_ifeq_b E 25 dX6_conflicts_5 rfl (fun c_2 => ?_) (fun c_2 => ?_)
  · skip
    refine z_ldc E (-1000001) f0 rfl dX6_conflicts_25 ?_
    exact z_iret E dX6_conflicts_27 (by first | exact ⟨rfl, hB, Or.inr ⟨by omega, zqr, zqa⟩⟩ | exact ⟨rfl, hB, Or.inl ⟨by omega, rfl, rfl⟩⟩)
  · skip
    refine z_aload_n E dX6_conflicts_8 0 rfl rfl ?_
    refine z_iload_n E dX6_conflicts_9 2 rfl rfl ?_
    refine z_callV E (ci := 6) (N := 16) (C := RX6) (T := TX6) (n := 1) (st := []) (rfl : vl 16 0 = true) rfl rfl [.int (iI x)] (kX6_isState l G P V x hB (by omega) (by omega) (by omega)) gX6_conflicts_X6_isState rfl ⟨rfl, rfl⟩ (by decide +kernel) ⟨Nat.le_of_ble_eq_true rfl, Nat.le_of_ble_eq_true rfl⟩ rfl rfl (Nat.le_of_ble_eq_true rfl) rfl dX6_conflicts_10 (z_dtI ?_)
    have h_3a := mS_c (V 17 0) x
    refine z_ifeq_b E 25 dX6_conflicts_13 rfl (fun c_4 => ?_) (fun c_4 => ?_)
    · skip
      refine z_ldc E (-1000001) f0 rfl dX6_conflicts_25 ?_
      exact z_iret E dX6_conflicts_27 (by first | exact ⟨rfl, hB, Or.inr ⟨by omega, zqr, zqa⟩⟩ | exact ⟨rfl, hB, Or.inl ⟨by omega, rfl, rfl⟩⟩)
    · skip
      refine z_aload_n E dX6_conflicts_16 0 rfl rfl ?_
      refine z_iload_n E dX6_conflicts_17 1 rfl rfl ?_
      refine z_iload_n E dX6_conflicts_18 2 rfl rfl ?_
      refine z_callV E (ci := 6) (N := 16) (C := RX6) (T := TX6) (n := 2) (st := []) (rfl : vl 16 0 = true) rfl rfl [.int (iI b), .int (iI x)] (kX6_merges l G P V b x hB (by omega) (by omega) hmL hI (by omega) (by omega) (hH.1 b (by omega) (by omega) (by omega)) (by omega) (by omega)) gX6_conflicts_X6_merges rfl ⟨rfl, rfl⟩ (by decide +kernel) ⟨Nat.le_of_ble_eq_true rfl, Nat.le_of_ble_eq_true rfl⟩ rfl rfl (Nat.le_of_ble_eq_true rfl) rfl dX6_conflicts_19 (z_exI (fun r_5 P_5 V_5 h_5 => ?_))
      obtain ⟨hP_5, hB_5, hr_5, h_5⟩ := h_5
      rw [hP_5]
      have zqa := h_5
      have zqr := hr_5
      refine z_goto E 27 dX6_conflicts_22 rfl ?_
      exact z_iret E dX6_conflicts_27 (by first | exact ⟨rfl, hB_5, Or.inr ⟨by omega, zqr, zqa⟩⟩ | exact ⟨rfl, hB, Or.inl ⟨by omega, rfl, rfl⟩⟩)

set_option maxHeartbeats 4000000 in
set_option maxRecDepth 100000 in
theorem kX6_merge (l : Launch) (G : Gl) (P : Nat → Nat) (V : Vt) (b : Int) (x : Int) (hB : BV V) (hm0 : 0 ≤ V 17 0 0) (hm1 : V 17 0 0 ≤ 16) (hmL : ∀ k p, 0 ≤ k → k < 16 → 0 ≤ p → p < 6 → 0 ≤ mo (V 17 0) k (2 + p) ∧ mo (V 17 0) k (2 + p) < 40) (hI : MI (V 17 0)) (hH : MH (V 17 0)) (a5 : inR (V 17 0 1 + 1)) (hq : 0 ≤ V 16 0 3 ∧ V 16 0 3 ≤ 4) (hq4 : inR (V 16 0 4)) (r1 : inR b) (r2 : inR x) : Met l yX6_merge wsX6_merge ({ frames := 6, cells := 0, slots := 0, locals := 135 }) (va_Pc [.ref (ad G 16 0), .int (iI b), .int (iI x)] (Sg G P V)) (Qk G mkI (fun r P' V' => P' = P ∧ BV V' ∧ inR r ∧ ((¬ ((0 ≤ b ∧ b ≤ 3 ∧ 0 ≤ mh (V 17 0) b) ∧ 0 ≤ fO (mS (V 17 0) x)) ∧ r = -1000001 ∧ V' = V) ∨ (((0 ≤ b ∧ b ≤ 3 ∧ 0 ≤ mh (V 17 0) b) ∧ 0 ≤ fO (mS (V 17 0) x)) ∧ ∃ (ra : Int) (Va : Vt), trQ (up V 21 0 (mix (V 21 0) (fun c => mgC (mc (V 17 0) (mS (V 17 0) (cmM (V 17 0) x 16 (mh (V 17 0) b))) c) (mc (V 17 0) (mS (V 17 0) (mh (V 17 0) b)) c) (mc (V 17 0) (mS (V 17 0) x) c)) 48)) b ra Va ∧ ((ra < 0 ∧ r = ra ∧ V' = Va) ∨ (0 ≤ ra ∧ r = sm 48 (fun c => b2i (mgX (mc (V 17 0) (mS (V 17 0) (cmM (V 17 0) x 16 (mh (V 17 0) b))) c) (mc (V 17 0) (mS (V 17 0) (mh (V 17 0) b)) c) (mc (V 17 0) (mS (V 17 0) x) c))) ∧ V' = up Va 17 0 (updI (Va 17 0) 4 (Va 17 0 4 + r)))))))) 0 0 (mem G) := by
  refine z_met (cc := cX6_merge) (nL := 5) (ret := (some .int)) (own := RX6) (by decide +kernel) rfl rfl (Nat.le_of_ble_eq_true rfl) (zz_cat rfl) (L := [some (.ref (ad G 16 0)), some (.int (iI b)), some (.int (iI x)), none, none]) rfl ?_
  intro X E
  have iX6 : ∀ x ∈ wsX60, x ∈ wsX6_merge := by decide +kernel
  have f0 : Cond.constant RX6 111 (-1000001) ∈ wsX6_merge := by decide +kernel
  have f1 : Cond.fieldLink RX6 7 "SharedStatesModel" "s" "[I" ∈ wsX6_merge := by decide +kernel
  refine z_aload_n E dX6_merge_0 0 rfl rfl ?_
  refine z_iload_n E dX6_merge_1 1 rfl rfl ?_
  refine z_callV E (ci := 6) (N := 16) (C := RX6) (T := TX6) (n := 1) (st := []) (rfl : vl 16 0 = true) rfl rfl [.int (iI b)] (kX6_isBranch l G P V b hB (by omega)) gX6_merge_X6_isBranch rfl ⟨rfl, rfl⟩ (by decide +kernel) ⟨Nat.le_of_ble_eq_true rfl, Nat.le_of_ble_eq_true rfl⟩ rfl rfl (Nat.le_of_ble_eq_true rfl) rfl dX6_merge_2 (z_dtI ?_)
  refine z_ifeq_b E 16 dX6_merge_5 rfl (fun c_2 => ?_) (fun c_2 => ?_)
  · skip
    refine z_ldc E (-1000001) f0 rfl dX6_merge_16 ?_
    exact z_iret E dX6_merge_18 (⟨rfl, hB, by omega, Or.inl ⟨by omega, rfl, rfl⟩⟩)
  · skip
    refine z_aload_n E dX6_merge_8 0 rfl rfl ?_
    refine z_iload_n E dX6_merge_9 2 rfl rfl ?_
    refine z_callV E (ci := 6) (N := 16) (C := RX6) (T := TX6) (n := 1) (st := []) (rfl : vl 16 0 = true) rfl rfl [.int (iI x)] (kX6_isState l G P V x hB (by omega) (by omega) (by omega)) gX6_merge_X6_isState rfl ⟨rfl, rfl⟩ (by decide +kernel) ⟨Nat.le_of_ble_eq_true rfl, Nat.le_of_ble_eq_true rfl⟩ rfl rfl (Nat.le_of_ble_eq_true rfl) rfl dX6_merge_10 (z_dtI ?_)
    have h_3a := mS_c (V 17 0) x
    refine z_ifne_b E 19 dX6_merge_13 rfl (fun c_4 => ?_) (fun c_4 => ?_)
    · skip
      refine z_aload_n E dX6_merge_19 0 rfl rfl ?_
      refine z_iload_n E dX6_merge_20 1 rfl rfl ?_
      refine z_iload_n E dX6_merge_21 2 rfl rfl ?_
      refine z_callV E (ci := 6) (N := 16) (C := RX6) (T := TX6) (n := 2) (st := []) (rfl : vl 16 0 = true) rfl rfl [.int (iI b), .int (iI x)] (kX6_merges l G P V b x hB (by omega) (by omega) hmL hI (by omega) (by omega) (hH.1 b (by omega) (by omega) (by omega)) (by omega) (by omega)) gX6_merge_X6_merges rfl ⟨rfl, rfl⟩ (by decide +kernel) ⟨Nat.le_of_ble_eq_true rfl, Nat.le_of_ble_eq_true rfl⟩ rfl rfl (Nat.le_of_ble_eq_true rfl) rfl dX6_merge_22 (z_exI (fun r_5 P_5 V_5 h_5 => ?_))
      obtain ⟨hP_5, hB_5, hr_5, h_5⟩ := h_5
      rw [hP_5]
      have zqa := h_5
      have zqr := hr_5
      have zqm := sm_b2i_bd (n := 48) (p := fun c => mgX (mc (V 17 0) (mS (V 17 0) (cmM (V 17 0) x 16 (mh (V 17 0) b))) c) (mc (V 17 0) (mS (V 17 0) (mh (V 17 0) b)) c) (mc (V 17 0) (mS (V 17 0) x) c)) (by omega)
      have zq17 : V_5 17 0 = V 17 0 := by rw [h_5]; rfl
      have zq16 : V_5 16 0 = V 16 0 := by rw [h_5]; rfl
      refine z_istore_n E dX6_merge_25 3 rfl (L' := [some (.ref (ad G 16 0)), some (.int (iI b)), some (.int (iI x)), some (.int (iI r_5)), none]) (Nat.le_of_ble_eq_true rfl) rfl ?_
      refine z_aload_n E dX6_merge_26 0 rfl rfl ?_
      refine z_iload_n E dX6_merge_27 1 rfl rfl ?_
      refine z_callV E (ci := 6) (N := 16) (C := RX6) (T := TX6) (n := 1) (st := []) (rfl : vl 16 0 = true) rfl rfl [.int (iI b)] (kX6_tries l G P V_5 b hB_5 (by rw [zq17]; exact hm0) (by rw [zq17]; exact hm1) (by rw [zq17]; exact hmL) (by omega) (by omega) (by rw [zq17]; exact hH.1 b (by omega) (by omega) (by omega)) (by rw [zq17]; exact hH.2.1) (by rw [zq17]; exact a5) (by rw [zq16]; exact hq) (by rw [zq16]; exact hq4) (by rw [zq17]; exact hH.2.2 b (by omega) (by omega) (by omega))) gX6_merge_X6_tries rfl ⟨rfl, rfl⟩ (by decide +kernel) ⟨Nat.le_of_ble_eq_true rfl, Nat.le_of_ble_eq_true rfl⟩ rfl rfl (Nat.le_of_ble_eq_true rfl) rfl dX6_merge_28 (z_exI (fun r_6 P_6 V_6 h_6 => ?_))
      obtain ⟨hP_6, hB_6, hR_6, h_6⟩ := h_6
      rw [hP_6]
      have zqb := h_6
      have zqR := hR_6
      refine z_istore E dX6_merge_31 (L' := [some (.ref (ad G 16 0)), some (.int (iI b)), some (.int (iI x)), some (.int (iI r_5)), some (.int (iI r_6))]) (Nat.le_of_ble_eq_true rfl) rfl ?_
      refine z_aload_n E dX6_merge_33 0 rfl rfl ?_
      refine z_get E (ci := 6) (N := 16) (C := RX6) (T := TX6) (rfl : vl 16 0 = true) rfl rfl iX6 0 (by decide) rfl f1 rfl dX6_merge_34 ?_
      refine z_iconst E dX6_merge_37 ?_
      refine z_dup2 E dX6_merge_38 rfl rfl ?_
      refine z_iald E (rfl : vl 17 0 = true) 498 rfl (by omega) (by omega) (by omega) dX6_merge_39 ?_
      refine z_iload E dX6_merge_40 rfl ?_
      refine z_if_ge E 49 dX6_merge_42 rfl (by omega) (fun c_8 => ?_) (fun c_8 => ?_)
      · skip
        refine z_iload_n E dX6_merge_49 3 rfl rfl ?_
        refine z_iadd E dX6_merge_50 ?_
        refine z_iast E (rfl : vl 17 0 = true) 498 (fun _ => rfl) (by omega) (by omega) (by omega) dX6_merge_51 ?_
        obtain ⟨V9, hV9⟩ : ∃ Z : Vt, Z = up V_6 17 0 (updI (V_6 17 0) 4 ((V_6 17 0 4) + r_5)) := ⟨_, rfl⟩
        rw [← hV9]
        have hB9 : BV V9 := hV9 ▸ BV_up hB_6 (fun hz => absurd (by simp [ctr]) hz)
        refine z_iload E dX6_merge_52 rfl ?_
        refine z_if_ge E 62 dX6_merge_54 rfl (by omega) (fun c_10 => ?_) (fun c_10 => ?_)
        · skip
          refine z_iload_n E dX6_merge_62 3 rfl rfl ?_
          exact z_iret E dX6_merge_63 (by first | (exfalso; omega) | exact ⟨rfl, hB9, by omega, Or.inr ⟨by omega, _, _, zqa ▸ zqb, Or.inl ⟨by assumption, rfl, by rw [hV9, Int.add_zero, updI_id, up_self]⟩⟩⟩ | exact ⟨rfl, hB9, by omega, Or.inr ⟨by omega, _, _, zqa ▸ zqb, Or.inr ⟨by assumption, zqr, hV9⟩⟩⟩)
        · skip
          refine z_iload E dX6_merge_57 rfl ?_
          refine z_goto E 63 dX6_merge_59 rfl ?_
          exact z_iret E dX6_merge_63 (by first | (exfalso; omega) | exact ⟨rfl, hB9, by omega, Or.inr ⟨by omega, _, _, zqa ▸ zqb, Or.inl ⟨by assumption, rfl, by rw [hV9, Int.add_zero, updI_id, up_self]⟩⟩⟩ | exact ⟨rfl, hB9, by omega, Or.inr ⟨by omega, _, _, zqa ▸ zqb, Or.inr ⟨by assumption, zqr, hV9⟩⟩⟩)
      · skip
        refine z_iconst E dX6_merge_45 ?_
        refine z_goto E 50 dX6_merge_46 rfl ?_
        refine z_iadd E dX6_merge_50 ?_
        refine z_iast E (rfl : vl 17 0 = true) 498 (fun _ => rfl) (by omega) (by omega) (by omega) dX6_merge_51 ?_
        obtain ⟨V11, hV11⟩ : ∃ Z : Vt, Z = up V_6 17 0 (updI (V_6 17 0) 4 ((V_6 17 0 4) + 0)) := ⟨_, rfl⟩
        rw [← hV11]
        have hB11 : BV V11 := hV11 ▸ BV_up hB_6 (fun hz => absurd (by simp [ctr]) hz)
        refine z_iload E dX6_merge_52 rfl ?_
        refine z_if_ge E 62 dX6_merge_54 rfl (by omega) (fun c_12 => ?_) (fun c_12 => ?_)
        · skip
          refine z_iload_n E dX6_merge_62 3 rfl rfl ?_
          exact z_iret E dX6_merge_63 (by first | (exfalso; omega) | exact ⟨rfl, hB11, by omega, Or.inr ⟨by omega, _, _, zqa ▸ zqb, Or.inl ⟨by assumption, rfl, by rw [hV11, Int.add_zero, updI_id, up_self]⟩⟩⟩ | exact ⟨rfl, hB11, by omega, Or.inr ⟨by omega, _, _, zqa ▸ zqb, Or.inr ⟨by assumption, zqr, hV11⟩⟩⟩)
        · skip
          refine z_iload E dX6_merge_57 rfl ?_
          refine z_goto E 63 dX6_merge_59 rfl ?_
          exact z_iret E dX6_merge_63 (by first | (exfalso; omega) | exact ⟨rfl, hB11, by omega, Or.inr ⟨by omega, _, _, zqa ▸ zqb, Or.inl ⟨by assumption, rfl, by rw [hV11, Int.add_zero, updI_id, up_self]⟩⟩⟩ | exact ⟨rfl, hB11, by omega, Or.inr ⟨by omega, _, _, zqa ▸ zqb, Or.inr ⟨by assumption, zqr, hV11⟩⟩⟩)
    · skip
      refine z_ldc E (-1000001) f0 rfl dX6_merge_16 ?_
      exact z_iret E dX6_merge_18 (⟨rfl, hB, by omega, Or.inl ⟨by omega, rfl, rfl⟩⟩)
