set_option maxHeartbeats 4000000 in
set_option maxRecDepth 100000 in
theorem kX6_heaviest (l : Launch) (G : Gl) (P : Nat → Nat) (V : Vt) (what : Int) (hB : BV V) (hm0 : 0 ≤ V 17 0 0) (hm1 : V 17 0 0 ≤ 16) (hmL : ∀ k p, 0 ≤ k → k < 16 → 0 ≤ p → p < 6 → 0 ≤ mo (V 17 0) k (2 + p) ∧ mo (V 17 0) k (2 + p) < 40) (r1 : inR what) : Met l yX6_heaviest wsX6_heaviest ({ frames := 5, cells := 0, slots := 0, locals := 114 }) (va_Pc [.ref (ad G 16 0), .int (iI what)] (Sg G P V)) (Qk G mkI (fun r P' V' => P' = P ∧ BV V' ∧ ((¬ (0 ≤ what ∧ what ≤ 1) ∧ r = -1000001 ∧ V' = V) ∨ ((0 ≤ what ∧ what ≤ 1) ∧ (V' = V ∨ V' = up V 19 0 (cpI (V 17 0) (V 19 0) 0 0 498)) ∧ r = if hvS (frV (V 17 0)) (fun j => mo (V 17 0) j 0) (V 17 0 0).toNat < 0 then hvS (frV (V 17 0)) (fun j => mo (V 17 0) j 0) (V 17 0 0).toNat else if what = 0 then hvS (frV (V 17 0)) (fun j => mo (V 17 0) j 0) (V 17 0 0).toNat else hvM (frV (V 17 0)) (V 17 0 0).toNat)))) 0 0 (mem G) := by
  refine z_met (cc := cX6_heaviest) (nL := 7) (ret := (some .int)) (own := RX6) (by decide +kernel) rfl rfl (Nat.le_of_ble_eq_true rfl) (zz_cat rfl) (L := [some (.ref (ad G 16 0)), some (.int (iI what)), none, none, none, none, none]) rfl ?_
  intro X E
  have iX6 : ∀ x ∈ wsX60, x ∈ wsX6_heaviest := by decide +kernel
  have f0 : Cond.constant RX6 43 (-1000004) ∈ wsX6_heaviest := by decide +kernel
  have f1 : Cond.fieldLink RX6 7 "SharedStatesModel" "s" "[I" ∈ wsX6_heaviest := by decide +kernel
  have f2 : Cond.constant RX6 111 (-1000001) ∈ wsX6_heaviest := by decide +kernel
  refine z_iload_n E dX6_heaviest_0 1 rfl rfl ?_
  refine z_iconst E dX6_heaviest_1 ?_
  refine z_iconst E dX6_heaviest_2 ?_
  refine z_callS E (n := 3) (st := []) [.int (iI what), .int (iI 0), .int (iI 1)] (kX6_in l G P V what 0 1 (by omega) (by omega) (by omega)) gX6_heaviest_X6_in rfl ⟨rfl, rfl⟩ (by decide +kernel) ⟨Nat.le_of_ble_eq_true rfl, Nat.le_of_ble_eq_true rfl⟩ rfl rfl (Nat.le_of_ble_eq_true rfl) rfl dX6_heaviest_3 (z_dtI ?_)
  refine z_ifne_b E 12 dX6_heaviest_6 rfl (fun c_2 => ?_) (fun c_2 => ?_)
  · skip
    refine z_ldc E (-1000004) f0 rfl dX6_heaviest_12 ?_
    refine z_istore_n E dX6_heaviest_14 2 rfl (L' := [some (.ref (ad G 16 0)), some (.int (iI what)), some (.int (iI (-1000004))), none, none, none, none]) (Nat.le_of_ble_eq_true rfl) rfl ?_
    refine z_iconst E dX6_heaviest_15 ?_
    refine z_istore_n E dX6_heaviest_16 3 rfl (L' := [some (.ref (ad G 16 0)), some (.int (iI what)), some (.int (iI (-1000004))), some (.int (iI (-1))), none, none, none]) (Nat.le_of_ble_eq_true rfl) rfl ?_
    refine z_iconst E dX6_heaviest_17 ?_
    refine z_istore E dX6_heaviest_18 (L' := [some (.ref (ad G 16 0)), some (.int (iI what)), some (.int (iI (-1000004))), some (.int (iI (-1))), some (.int (iI 0)), none, none]) (Nat.le_of_ble_eq_true rfl) rfl ?_
    have lp_20_3 : ∀ (fuel : Nat) (best : Int) (most : Int) (k : Int) (Vl_20 : Vt), BV Vl_20 → (0 ≤ k) → (k ≤ V 17 0 0) → (most = hvM (frV (V 17 0)) (k).toNat) → (best = hvS (frV (V 17 0)) (fun j => mo (V 17 0) j 0) (k).toNat) → (-1 ≤ most ∧ most ≤ 40) → (inR best) → (Vl_20 = V ∨ Vl_20 = up V 19 0 (cpI (V 17 0) (V 19 0) 0 0 498)) → (V 17 0 0 - k : Int).toNat < fuel → Kz X G P Vl_20 [some (.ref (ad G 16 0)), some (.int (iI what)), some (.int (iI best)), some (.int (iI most)), some (.int (iI k)), none, none] 20 [] := by
      intro fuel
      induction fuel with
      | zero => intro best most k Vl_20 hBl_20 hk0 hk1 hm hb hmr hbr hVl hf_20; exact absurd hf_20 (Nat.not_lt_zero _)
      | succ fuel ih_20 =>
        intro best most k Vl_20 hBl_20 hk0 hk1 hm hb hmr hbr hVl hf_20
        have zq17 : Vl_20 17 0 = V 17 0 := by rcases hVl with z | z <;> rw [z] <;> rfl
        have zq0 : Vl_20 17 0 0 = V 17 0 0 := by rw [zq17]
        have zqs := hvM_s (f := (frV (V 17 0))) hk0
        have zqt := hvS_s (f := (frV (V 17 0))) (g := (fun j => mo (V 17 0) j 0)) hk0
        have zqfb := frV_bd (V 17 0) k
        refine z_iload E dX6_heaviest_20 rfl ?_
        refine z_aload_n E dX6_heaviest_22 0 rfl rfl ?_
        refine z_get E (ci := 6) (N := 16) (C := RX6) (T := TX6) (rfl : vl 16 0 = true) rfl rfl iX6 0 (by decide) rfl f1 rfl dX6_heaviest_23 ?_
        refine z_iconst E dX6_heaviest_26 ?_
        refine z_iald E (rfl : vl 17 0 = true) 498 rfl (by omega) (by omega) (by omega) dX6_heaviest_27 ?_
        have hr_4 := hBl_20.s 0 (by omega)
        refine z_icmp_ge E 93 dX6_heaviest_28 rfl (by omega) (by omega) (fun c_5 => ?_) (fun c_5 => ?_)
        · skip
          refine z_iload_n E dX6_heaviest_93 2 rfl rfl ?_
          refine z_if_lt E 101 dX6_heaviest_94 rfl (by omega) (fun c_6 => ?_) (fun c_6 => ?_)
          · skip
            refine z_iload_n E dX6_heaviest_101 2 rfl rfl ?_
            refine z_goto E 106 dX6_heaviest_102 rfl ?_
            exact z_iret E dX6_heaviest_106 (by
                have zqn : k = V 17 0 0 := by omega
                exact ⟨rfl, hBl_20, Or.inr ⟨by assumption, hVl, by rw [← zqn, ← hm, ← hb]; first | (rw [if_pos (by omega)]; done) | (rw [if_neg (by omega), if_pos (by omega)]; done) | (rw [if_neg (by omega), if_neg (by omega)]; done)⟩⟩)
          · skip
            refine z_iload_n E dX6_heaviest_97 1 rfl rfl ?_
            refine z_if_ne E 105 dX6_heaviest_98 rfl (by omega) (fun c_7 => ?_) (fun c_7 => ?_)
            · skip
              refine z_iload_n E dX6_heaviest_105 3 rfl rfl ?_
              exact z_iret E dX6_heaviest_106 (by
                  have zqn : k = V 17 0 0 := by omega
                  exact ⟨rfl, hBl_20, Or.inr ⟨by assumption, hVl, by rw [← zqn, ← hm, ← hb]; first | (rw [if_pos (by omega)]; done) | (rw [if_neg (by omega), if_pos (by omega)]; done) | (rw [if_neg (by omega), if_neg (by omega)]; done)⟩⟩)
            · skip
              refine z_iload_n E dX6_heaviest_101 2 rfl rfl ?_
              refine z_goto E 106 dX6_heaviest_102 rfl ?_
              exact z_iret E dX6_heaviest_106 (by
                  have zqn : k = V 17 0 0 := by omega
                  exact ⟨rfl, hBl_20, Or.inr ⟨by assumption, hVl, by rw [← zqn, ← hm, ← hb]; first | (rw [if_pos (by omega)]; done) | (rw [if_neg (by omega), if_pos (by omega)]; done) | (rw [if_neg (by omega), if_neg (by omega)]; done)⟩⟩)
        · skip
          refine z_aload_n E dX6_heaviest_31 0 rfl rfl ?_
          refine z_iload E dX6_heaviest_32 rfl ?_
          refine z_iconst E dX6_heaviest_34 ?_
          refine z_callV E (ci := 6) (N := 16) (C := RX6) (T := TX6) (n := 2) (st := []) (rfl : vl 16 0 = true) rfl rfl [.int (iI k), .int (iI 0)] (kX6_of l G P Vl_20 k 0 hBl_20 (by omega) (by omega) (by omega) (by omega)) gX6_heaviest_X6_of rfl ⟨rfl, rfl⟩ (by decide +kernel) ⟨Nat.le_of_ble_eq_true rfl, Nat.le_of_ble_eq_true rfl⟩ rfl rfl (Nat.le_of_ble_eq_true rfl) rfl dX6_heaviest_35 (z_dtI ?_)
          have h_8a := mo_R hBl_20 k 0 (by omega) (by omega)
          rw [zq17] at h_8a ⊢
          refine z_istore E dX6_heaviest_38 (L' := [some (.ref (ad G 16 0)), some (.int (iI what)), some (.int (iI best)), some (.int (iI most)), some (.int (iI k)), some (.int (iI (mo (V 17 0) k 0))), none]) (Nat.le_of_ble_eq_true rfl) rfl ?_
          refine z_aload_n E dX6_heaviest_40 0 rfl rfl ?_
          refine z_iload E dX6_heaviest_41 rfl ?_
          refine z_callV E (ci := 6) (N := 16) (C := RX6) (T := TX6) (n := 1) (st := []) (rfl : vl 16 0 = true) rfl rfl [.int (iI (mo (V 17 0) k 0))] (kX6_canForget l G P Vl_20 (mo (V 17 0) k 0) hBl_20 (by omega)) gX6_heaviest_X6_canForget rfl ⟨rfl, rfl⟩ (by decide +kernel) ⟨Nat.le_of_ble_eq_true rfl, Nat.le_of_ble_eq_true rfl⟩ rfl rfl (Nat.le_of_ble_eq_true rfl) rfl dX6_heaviest_43 (z_dtI ?_)
          rw [zq17]
          refine z_ifeq_b E 58 dX6_heaviest_46 rfl (fun c_10 => ?_) (fun c_10 => ?_)
          · skip
            have zqv : (-1 : Int) = frV (V 17 0) k := (if_neg (by assumption)).symm
            refine z_iconst E dX6_heaviest_58 ?_
            refine z_istore E dX6_heaviest_59 (L' := [some (.ref (ad G 16 0)), some (.int (iI what)), some (.int (iI best)), some (.int (iI most)), some (.int (iI k)), some (.int (iI (mo (V 17 0) k 0))), some (.int (iI (-1)))]) (Nat.le_of_ble_eq_true rfl) rfl ?_
            refine z_iload E dX6_heaviest_61 rfl ?_
            refine z_iload_n E dX6_heaviest_63 3 rfl rfl ?_
            refine z_icmp_le E 72 dX6_heaviest_64 rfl (by omega) (by omega) (fun c_11 => ?_) (fun c_11 => ?_)
            · skip
              refine z_iload_n E dX6_heaviest_72 2 rfl rfl ?_
              refine z_istore_n E dX6_heaviest_73 2 rfl (L' := [some (.ref (ad G 16 0)), some (.int (iI what)), some (.int (iI best)), some (.int (iI most)), some (.int (iI k)), some (.int (iI (mo (V 17 0) k 0))), some (.int (iI (-1)))]) (Nat.le_of_ble_eq_true rfl) rfl ?_
              refine z_iload E dX6_heaviest_74 rfl ?_
              refine z_iload_n E dX6_heaviest_76 3 rfl rfl ?_
              refine z_icmp_le E 85 dX6_heaviest_77 rfl (by omega) (by omega) (fun c_12 => ?_) (fun c_12 => ?_)
              · skip
                refine z_iload_n E dX6_heaviest_85 3 rfl rfl ?_
                refine z_istore_n E dX6_heaviest_86 3 rfl (L' := [some (.ref (ad G 16 0)), some (.int (iI what)), some (.int (iI best)), some (.int (iI most)), some (.int (iI k)), some (.int (iI (mo (V 17 0) k 0))), some (.int (iI (-1)))]) (Nat.le_of_ble_eq_true rfl) rfl ?_
                refine z_iinc E k dX6_heaviest_87 (L' := [some (.ref (ad G 16 0)), some (.int (iI what)), some (.int (iI best)), some (.int (iI most)), some (.int (iI (k + 1))), some (.int (iI (mo (V 17 0) k 0))), some (.int (iI (-1)))]) (Nat.le_of_ble_eq_true rfl) rfl rfl ?_
                refine z_goto E 20 dX6_heaviest_90 rfl ?_
                refine Kz.drop 5 (L' := [some (.ref (ad G 16 0)), some (.int (iI what)), some (.int (iI best)), some (.int (iI most)), some (.int (iI (k + 1))), none, some (.int (iI (-1)))]) rfl ?_
                refine Kz.drop 6 (L' := [some (.ref (ad G 16 0)), some (.int (iI what)), some (.int (iI best)), some (.int (iI most)), some (.int (iI (k + 1))), none, none]) rfl ?_
                exact ih_20 best most (k + 1) Vl_20 hBl_20 (by omega) (by omega) (by rw [zqs]; first | (rw [if_pos (by omega)]; omega) | (rw [if_neg (by omega)]; omega)) (by rw [zqt]; first | (rw [if_pos (by omega)]; done) | (rw [if_neg (by omega)]; exact hb) | (rw [if_pos (by omega)]; omega) | (exfalso; omega)) (by omega) (by omega) (by first | exact Or.inr zqh | exact hVl) (by omega)
              · skip
                refine z_iload E dX6_heaviest_80 rfl ?_
                refine z_goto E 86 dX6_heaviest_82 rfl ?_
                refine z_istore_n E dX6_heaviest_86 3 rfl (L' := [some (.ref (ad G 16 0)), some (.int (iI what)), some (.int (iI best)), some (.int (iI (-1))), some (.int (iI k)), some (.int (iI (mo (V 17 0) k 0))), some (.int (iI (-1)))]) (Nat.le_of_ble_eq_true rfl) rfl ?_
                refine z_iinc E k dX6_heaviest_87 (L' := [some (.ref (ad G 16 0)), some (.int (iI what)), some (.int (iI best)), some (.int (iI (-1))), some (.int (iI (k + 1))), some (.int (iI (mo (V 17 0) k 0))), some (.int (iI (-1)))]) (Nat.le_of_ble_eq_true rfl) rfl rfl ?_
                refine z_goto E 20 dX6_heaviest_90 rfl ?_
                refine Kz.drop 5 (L' := [some (.ref (ad G 16 0)), some (.int (iI what)), some (.int (iI best)), some (.int (iI (-1))), some (.int (iI (k + 1))), none, some (.int (iI (-1)))]) rfl ?_
                refine Kz.drop 6 (L' := [some (.ref (ad G 16 0)), some (.int (iI what)), some (.int (iI best)), some (.int (iI (-1))), some (.int (iI (k + 1))), none, none]) rfl ?_
                exact ih_20 best (-1) (k + 1) Vl_20 hBl_20 (by omega) (by omega) (by rw [zqs]; first | (rw [if_pos (by omega)]; omega) | (rw [if_neg (by omega)]; omega)) (by rw [zqt]; first | (rw [if_pos (by omega)]; done) | (rw [if_neg (by omega)]; exact hb) | (rw [if_pos (by omega)]; omega) | (exfalso; omega)) (by omega) (by omega) (by first | exact Or.inr zqh | exact hVl) (by omega)
            · skip
              refine z_iload E dX6_heaviest_67 rfl ?_
              refine z_goto E 73 dX6_heaviest_69 rfl ?_
              refine z_istore_n E dX6_heaviest_73 2 rfl (L' := [some (.ref (ad G 16 0)), some (.int (iI what)), some (.int (iI (mo (V 17 0) k 0))), some (.int (iI most)), some (.int (iI k)), some (.int (iI (mo (V 17 0) k 0))), some (.int (iI (-1)))]) (Nat.le_of_ble_eq_true rfl) rfl ?_
              refine z_iload E dX6_heaviest_74 rfl ?_
              refine z_iload_n E dX6_heaviest_76 3 rfl rfl ?_
              refine z_icmp_le E 85 dX6_heaviest_77 rfl (by omega) (by omega) (fun c_13 => ?_) (fun c_13 => ?_)
              · skip
                refine z_iload_n E dX6_heaviest_85 3 rfl rfl ?_
                refine z_istore_n E dX6_heaviest_86 3 rfl (L' := [some (.ref (ad G 16 0)), some (.int (iI what)), some (.int (iI (mo (V 17 0) k 0))), some (.int (iI most)), some (.int (iI k)), some (.int (iI (mo (V 17 0) k 0))), some (.int (iI (-1)))]) (Nat.le_of_ble_eq_true rfl) rfl ?_
                refine z_iinc E k dX6_heaviest_87 (L' := [some (.ref (ad G 16 0)), some (.int (iI what)), some (.int (iI (mo (V 17 0) k 0))), some (.int (iI most)), some (.int (iI (k + 1))), some (.int (iI (mo (V 17 0) k 0))), some (.int (iI (-1)))]) (Nat.le_of_ble_eq_true rfl) rfl rfl ?_
                refine z_goto E 20 dX6_heaviest_90 rfl ?_
                refine Kz.drop 5 (L' := [some (.ref (ad G 16 0)), some (.int (iI what)), some (.int (iI (mo (V 17 0) k 0))), some (.int (iI most)), some (.int (iI (k + 1))), none, some (.int (iI (-1)))]) rfl ?_
                refine Kz.drop 6 (L' := [some (.ref (ad G 16 0)), some (.int (iI what)), some (.int (iI (mo (V 17 0) k 0))), some (.int (iI most)), some (.int (iI (k + 1))), none, none]) rfl ?_
                exact ih_20 (mo (V 17 0) k 0) most (k + 1) Vl_20 hBl_20 (by omega) (by omega) (by rw [zqs]; first | (rw [if_pos (by omega)]; omega) | (rw [if_neg (by omega)]; omega)) (by rw [zqt]; first | (rw [if_pos (by omega)]; done) | (rw [if_neg (by omega)]; exact hb) | (rw [if_pos (by omega)]; omega) | (exfalso; omega)) (by omega) (by omega) (by first | exact Or.inr zqh | exact hVl) (by omega)
              · skip
                refine z_iload E dX6_heaviest_80 rfl ?_
                refine z_goto E 86 dX6_heaviest_82 rfl ?_
                refine z_istore_n E dX6_heaviest_86 3 rfl (L' := [some (.ref (ad G 16 0)), some (.int (iI what)), some (.int (iI (mo (V 17 0) k 0))), some (.int (iI (-1))), some (.int (iI k)), some (.int (iI (mo (V 17 0) k 0))), some (.int (iI (-1)))]) (Nat.le_of_ble_eq_true rfl) rfl ?_
                refine z_iinc E k dX6_heaviest_87 (L' := [some (.ref (ad G 16 0)), some (.int (iI what)), some (.int (iI (mo (V 17 0) k 0))), some (.int (iI (-1))), some (.int (iI (k + 1))), some (.int (iI (mo (V 17 0) k 0))), some (.int (iI (-1)))]) (Nat.le_of_ble_eq_true rfl) rfl rfl ?_
                refine z_goto E 20 dX6_heaviest_90 rfl ?_
                refine Kz.drop 5 (L' := [some (.ref (ad G 16 0)), some (.int (iI what)), some (.int (iI (mo (V 17 0) k 0))), some (.int (iI (-1))), some (.int (iI (k + 1))), none, some (.int (iI (-1)))]) rfl ?_
                refine Kz.drop 6 (L' := [some (.ref (ad G 16 0)), some (.int (iI what)), some (.int (iI (mo (V 17 0) k 0))), some (.int (iI (-1))), some (.int (iI (k + 1))), none, none]) rfl ?_
                exact ih_20 (mo (V 17 0) k 0) (-1) (k + 1) Vl_20 hBl_20 (by omega) (by omega) (by rw [zqs]; first | (rw [if_pos (by omega)]; omega) | (rw [if_neg (by omega)]; omega)) (by rw [zqt]; first | (rw [if_pos (by omega)]; done) | (rw [if_neg (by omega)]; exact hb) | (rw [if_pos (by omega)]; omega) | (exfalso; omega)) (by omega) (by omega) (by first | exact Or.inr zqh | exact hVl) (by omega)
          · skip
            refine z_aload_n E dX6_heaviest_49 0 rfl rfl ?_
            refine z_iload E dX6_heaviest_50 rfl ?_
            refine z_callV E (ci := 6) (N := 16) (C := RX6) (T := TX6) (n := 1) (st := []) (rfl : vl 16 0 = true) rfl rfl [.int (iI (mo (V 17 0) k 0))] (kX6_freed l G P Vl_20 (mo (V 17 0) k 0) hBl_20 (by rw [zq17]; exact hm0) (by rw [zq17]; exact hm1) (by rw [zq17]; exact hmL) (by omega) (by rw [zq17]; exact (mS_at hk0 (by omega)).1)) gX6_heaviest_X6_freed rfl ⟨rfl, rfl⟩ (by decide +kernel) ⟨Nat.le_of_ble_eq_true rfl, Nat.le_of_ble_eq_true rfl⟩ rfl rfl (Nat.le_of_ble_eq_true rfl) rfl dX6_heaviest_52 (z_exI (fun r_14 P_14 V_14 h_14 => ?_))
            obtain ⟨hP_14, hB_14, h_14⟩ := h_14
            rw [hP_14]
            obtain ⟨zqr, zqe⟩ := h_14
            rw [zq17] at zqr zqe
            have zqv : r_14 = frV (V 17 0) k := by rw [zqr]; exact (if_pos (by assumption)).symm
            have zqh : V_14 = up V 19 0 (cpI (V 17 0) (V 19 0) 0 0 498) := by
              rw [zqe]
              rcases hVl with z | z
              · rw [z]
              · rw [z, up_s, cp_cp, upup]
            refine z_goto E 59 dX6_heaviest_55 rfl ?_
            refine z_istore E dX6_heaviest_59 (L' := [some (.ref (ad G 16 0)), some (.int (iI what)), some (.int (iI best)), some (.int (iI most)), some (.int (iI k)), some (.int (iI (mo (V 17 0) k 0))), some (.int (iI r_14))]) (Nat.le_of_ble_eq_true rfl) rfl ?_
            refine z_iload E dX6_heaviest_61 rfl ?_
            refine z_iload_n E dX6_heaviest_63 3 rfl rfl ?_
            refine z_icmp_le E 72 dX6_heaviest_64 rfl (by omega) (by omega) (fun c_15 => ?_) (fun c_15 => ?_)
            · skip
              refine z_iload_n E dX6_heaviest_72 2 rfl rfl ?_
              refine z_istore_n E dX6_heaviest_73 2 rfl (L' := [some (.ref (ad G 16 0)), some (.int (iI what)), some (.int (iI best)), some (.int (iI most)), some (.int (iI k)), some (.int (iI (mo (V 17 0) k 0))), some (.int (iI r_14))]) (Nat.le_of_ble_eq_true rfl) rfl ?_
              refine z_iload E dX6_heaviest_74 rfl ?_
              refine z_iload_n E dX6_heaviest_76 3 rfl rfl ?_
              refine z_icmp_le E 85 dX6_heaviest_77 rfl (by omega) (by omega) (fun c_16 => ?_) (fun c_16 => ?_)
              · skip
                refine z_iload_n E dX6_heaviest_85 3 rfl rfl ?_
                refine z_istore_n E dX6_heaviest_86 3 rfl (L' := [some (.ref (ad G 16 0)), some (.int (iI what)), some (.int (iI best)), some (.int (iI most)), some (.int (iI k)), some (.int (iI (mo (V 17 0) k 0))), some (.int (iI r_14))]) (Nat.le_of_ble_eq_true rfl) rfl ?_
                refine z_iinc E k dX6_heaviest_87 (L' := [some (.ref (ad G 16 0)), some (.int (iI what)), some (.int (iI best)), some (.int (iI most)), some (.int (iI (k + 1))), some (.int (iI (mo (V 17 0) k 0))), some (.int (iI r_14))]) (Nat.le_of_ble_eq_true rfl) rfl rfl ?_
                refine z_goto E 20 dX6_heaviest_90 rfl ?_
                refine Kz.drop 5 (L' := [some (.ref (ad G 16 0)), some (.int (iI what)), some (.int (iI best)), some (.int (iI most)), some (.int (iI (k + 1))), none, some (.int (iI r_14))]) rfl ?_
                refine Kz.drop 6 (L' := [some (.ref (ad G 16 0)), some (.int (iI what)), some (.int (iI best)), some (.int (iI most)), some (.int (iI (k + 1))), none, none]) rfl ?_
                exact ih_20 best most (k + 1) V_14 hB_14 (by omega) (by omega) (by rw [zqs]; first | (rw [if_pos (by omega)]; omega) | (rw [if_neg (by omega)]; omega)) (by rw [zqt]; first | (rw [if_pos (by omega)]; done) | (rw [if_neg (by omega)]; exact hb) | (rw [if_pos (by omega)]; omega) | (exfalso; omega)) (by omega) (by omega) (by first | exact Or.inr zqh | exact hVl) (by omega)
              · skip
                refine z_iload E dX6_heaviest_80 rfl ?_
                refine z_goto E 86 dX6_heaviest_82 rfl ?_
                refine z_istore_n E dX6_heaviest_86 3 rfl (L' := [some (.ref (ad G 16 0)), some (.int (iI what)), some (.int (iI best)), some (.int (iI r_14)), some (.int (iI k)), some (.int (iI (mo (V 17 0) k 0))), some (.int (iI r_14))]) (Nat.le_of_ble_eq_true rfl) rfl ?_
                refine z_iinc E k dX6_heaviest_87 (L' := [some (.ref (ad G 16 0)), some (.int (iI what)), some (.int (iI best)), some (.int (iI r_14)), some (.int (iI (k + 1))), some (.int (iI (mo (V 17 0) k 0))), some (.int (iI r_14))]) (Nat.le_of_ble_eq_true rfl) rfl rfl ?_
                refine z_goto E 20 dX6_heaviest_90 rfl ?_
                refine Kz.drop 5 (L' := [some (.ref (ad G 16 0)), some (.int (iI what)), some (.int (iI best)), some (.int (iI r_14)), some (.int (iI (k + 1))), none, some (.int (iI r_14))]) rfl ?_
                refine Kz.drop 6 (L' := [some (.ref (ad G 16 0)), some (.int (iI what)), some (.int (iI best)), some (.int (iI r_14)), some (.int (iI (k + 1))), none, none]) rfl ?_
                exact ih_20 best r_14 (k + 1) V_14 hB_14 (by omega) (by omega) (by rw [zqs]; first | (rw [if_pos (by omega)]; omega) | (rw [if_neg (by omega)]; omega)) (by rw [zqt]; first | (rw [if_pos (by omega)]; done) | (rw [if_neg (by omega)]; exact hb) | (rw [if_pos (by omega)]; omega) | (exfalso; omega)) (by omega) (by omega) (by first | exact Or.inr zqh | exact hVl) (by omega)
            · skip
              refine z_iload E dX6_heaviest_67 rfl ?_
              refine z_goto E 73 dX6_heaviest_69 rfl ?_
              refine z_istore_n E dX6_heaviest_73 2 rfl (L' := [some (.ref (ad G 16 0)), some (.int (iI what)), some (.int (iI (mo (V 17 0) k 0))), some (.int (iI most)), some (.int (iI k)), some (.int (iI (mo (V 17 0) k 0))), some (.int (iI r_14))]) (Nat.le_of_ble_eq_true rfl) rfl ?_
              refine z_iload E dX6_heaviest_74 rfl ?_
              refine z_iload_n E dX6_heaviest_76 3 rfl rfl ?_
              refine z_icmp_le E 85 dX6_heaviest_77 rfl (by omega) (by omega) (fun c_17 => ?_) (fun c_17 => ?_)
              · skip
                refine z_iload_n E dX6_heaviest_85 3 rfl rfl ?_
                refine z_istore_n E dX6_heaviest_86 3 rfl (L' := [some (.ref (ad G 16 0)), some (.int (iI what)), some (.int (iI (mo (V 17 0) k 0))), some (.int (iI most)), some (.int (iI k)), some (.int (iI (mo (V 17 0) k 0))), some (.int (iI r_14))]) (Nat.le_of_ble_eq_true rfl) rfl ?_
                refine z_iinc E k dX6_heaviest_87 (L' := [some (.ref (ad G 16 0)), some (.int (iI what)), some (.int (iI (mo (V 17 0) k 0))), some (.int (iI most)), some (.int (iI (k + 1))), some (.int (iI (mo (V 17 0) k 0))), some (.int (iI r_14))]) (Nat.le_of_ble_eq_true rfl) rfl rfl ?_
                refine z_goto E 20 dX6_heaviest_90 rfl ?_
                refine Kz.drop 5 (L' := [some (.ref (ad G 16 0)), some (.int (iI what)), some (.int (iI (mo (V 17 0) k 0))), some (.int (iI most)), some (.int (iI (k + 1))), none, some (.int (iI r_14))]) rfl ?_
                refine Kz.drop 6 (L' := [some (.ref (ad G 16 0)), some (.int (iI what)), some (.int (iI (mo (V 17 0) k 0))), some (.int (iI most)), some (.int (iI (k + 1))), none, none]) rfl ?_
                exact ih_20 (mo (V 17 0) k 0) most (k + 1) V_14 hB_14 (by omega) (by omega) (by rw [zqs]; first | (rw [if_pos (by omega)]; omega) | (rw [if_neg (by omega)]; omega)) (by rw [zqt]; first | (rw [if_pos (by omega)]; done) | (rw [if_neg (by omega)]; exact hb) | (rw [if_pos (by omega)]; omega) | (exfalso; omega)) (by omega) (by omega) (by first | exact Or.inr zqh | exact hVl) (by omega)
              · skip
                refine z_iload E dX6_heaviest_80 rfl ?_
                refine z_goto E 86 dX6_heaviest_82 rfl ?_
                refine z_istore_n E dX6_heaviest_86 3 rfl (L' := [some (.ref (ad G 16 0)), some (.int (iI what)), some (.int (iI (mo (V 17 0) k 0))), some (.int (iI r_14)), some (.int (iI k)), some (.int (iI (mo (V 17 0) k 0))), some (.int (iI r_14))]) (Nat.le_of_ble_eq_true rfl) rfl ?_
                refine z_iinc E k dX6_heaviest_87 (L' := [some (.ref (ad G 16 0)), some (.int (iI what)), some (.int (iI (mo (V 17 0) k 0))), some (.int (iI r_14)), some (.int (iI (k + 1))), some (.int (iI (mo (V 17 0) k 0))), some (.int (iI r_14))]) (Nat.le_of_ble_eq_true rfl) rfl rfl ?_
                refine z_goto E 20 dX6_heaviest_90 rfl ?_
                refine Kz.drop 5 (L' := [some (.ref (ad G 16 0)), some (.int (iI what)), some (.int (iI (mo (V 17 0) k 0))), some (.int (iI r_14)), some (.int (iI (k + 1))), none, some (.int (iI r_14))]) rfl ?_
                refine Kz.drop 6 (L' := [some (.ref (ad G 16 0)), some (.int (iI what)), some (.int (iI (mo (V 17 0) k 0))), some (.int (iI r_14)), some (.int (iI (k + 1))), none, none]) rfl ?_
                exact ih_20 (mo (V 17 0) k 0) r_14 (k + 1) V_14 hB_14 (by omega) (by omega) (by rw [zqs]; first | (rw [if_pos (by omega)]; omega) | (rw [if_neg (by omega)]; omega)) (by rw [zqt]; first | (rw [if_pos (by omega)]; done) | (rw [if_neg (by omega)]; exact hb) | (rw [if_pos (by omega)]; omega) | (exfalso; omega)) (by omega) (by omega) (by first | exact Or.inr zqh | exact hVl) (by omega)
    exact lp_20_3 ((V 17 0 0 - 0 : Int).toNat + 1) (-1000004) (-1) 0 V hB (by omega) (by omega) rfl rfl (by omega) (by omega) (Or.inl rfl) (Nat.lt_succ_self _)
  · skip
    refine z_ldc E (-1000001) f2 rfl dX6_heaviest_9 ?_
    exact z_iret E dX6_heaviest_11 (⟨rfl, hB, Or.inl ⟨by assumption, rfl, rfl⟩⟩)
