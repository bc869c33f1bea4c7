set_option maxHeartbeats 4000000 in
set_option maxRecDepth 100000 in
theorem kX6_frees (l : Launch) (G : Gl) (P : Nat → Nat) (V : Vt) (x : Int) (hB : BV V) (hm0 : 0 ≤ V 17 0 0) (hm1 : V 17 0 0 ≤ 16) (hmL : ∀ k p, 0 ≤ k → k < 16 → 0 ≤ p → p < 6 → 0 ≤ mo (V 17 0) k (2 + p) ∧ mo (V 17 0) k (2 + p) < 40) (r1 : inR x) : Met l yX6_frees wsX6_frees ({ frames := 5, cells := 0, slots := 0, locals := 114 }) (va_Pc [.ref (ad G 16 0), .int (iI x)] (Sg G P V)) (Qk G mkI (fun r P' V' => P' = P ∧ BV V' ∧ ((¬ 0 ≤ fO (mS (V 17 0) x) ∧ r = -1000001 ∧ V' = V) ∨ (0 ≤ fO (mS (V 17 0) x) ∧ ¬ (0 < x ∧ ∀ d, 0 ≤ d → d < 4 → ¬ mh (V 17 0) d = x) ∧ r = -1000002 ∧ V' = V) ∨ (0 ≤ fO (mS (V 17 0) x) ∧ (0 < x ∧ ∀ d, 0 ≤ d → d < 4 → ¬ mh (V 17 0) d = x) ∧ r = sm 40 (fun b => b2i (mf (fgM (V 17 0) x (mo (V 17 0) (mS (V 17 0) x) 1) (mS (V 17 0) x) (V 17 0 0)) b = 1 ∧ pwM (fgM (V 17 0) x (mo (V 17 0) (mS (V 17 0) x) 1) (mS (V 17 0) x) (V 17 0 0)) b = 0)) ∧ V' = up V 19 0 (cpI (V 17 0) (V 19 0) 0 0 498))))) 0 0 (mem G) := by
  refine z_met (cc := cX6_frees) (nL := 2) (ret := (some .int)) (own := RX6) (by decide +kernel) rfl rfl (Nat.le_of_ble_eq_true rfl) (zz_cat rfl) (L := [some (.ref (ad G 16 0)), some (.int (iI x))]) rfl ?_
  intro X E
  have f0 : Cond.constant RX6 134 (-1000002) ∈ wsX6_frees := by decide +kernel
  have f1 : Cond.constant RX6 111 (-1000001) ∈ wsX6_frees := by decide +kernel
  refine z_aload_n E dX6_frees_0 0 rfl rfl ?_
  refine z_iload_n E dX6_frees_1 1 rfl rfl ?_
  refine z_callV E (ci := 6) (N := 16) (C := RX6) (T := TX6) (n := 1) (st := []) (rfl : vl 16 0 = true) rfl rfl [.int (iI x)] (kX6_isState l G P V x hB (by omega) (by omega) (by omega)) gX6_frees_X6_isState rfl ⟨rfl, rfl⟩ (by decide +kernel) ⟨Nat.le_of_ble_eq_true rfl, Nat.le_of_ble_eq_true rfl⟩ rfl rfl (Nat.le_of_ble_eq_true rfl) rfl dX6_frees_2 (z_dtI ?_)
  have h_1a := mS_c (V 17 0) x
  have zqms := mS_c (V 17 0) x
  refine z_ifne_b E 13 dX6_frees_5 rfl (fun c_2 => ?_) (fun c_2 => ?_)
  · skip
    refine z_aload_n E dX6_frees_13 0 rfl rfl ?_
    refine z_iload_n E dX6_frees_14 1 rfl rfl ?_
    refine z_callV E (ci := 6) (N := 16) (C := RX6) (T := TX6) (n := 1) (st := []) (rfl : vl 16 0 = true) rfl rfl [.int (iI x)] (kX6_canForget l G P V x hB (by omega)) gX6_frees_X6_canForget rfl ⟨rfl, rfl⟩ (by decide +kernel) ⟨Nat.le_of_ble_eq_true rfl, Nat.le_of_ble_eq_true rfl⟩ rfl rfl (Nat.le_of_ble_eq_true rfl) rfl dX6_frees_15 (z_dtI ?_)
    refine z_ifeq_b E 29 dX6_frees_18 rfl (fun c_4 => ?_) (fun c_4 => ?_)
    · skip
      refine z_ldc E (-1000002) f0 rfl dX6_frees_29 ?_
      exact z_iret E dX6_frees_31 (by first | exact ⟨rfl, hB, Or.inr (Or.inr ⟨by assumption, by assumption, zqr, zqs⟩)⟩ | exact ⟨rfl, hB, Or.inl ⟨by assumption, rfl, rfl⟩⟩ | exact ⟨rfl, hB, Or.inr (Or.inl ⟨by assumption, by assumption, rfl, rfl⟩)⟩)
    · skip
      refine z_aload_n E dX6_frees_21 0 rfl rfl ?_
      refine z_iload_n E dX6_frees_22 1 rfl rfl ?_
      refine z_callV E (ci := 6) (N := 16) (C := RX6) (T := TX6) (n := 1) (st := []) (rfl : vl 16 0 = true) rfl rfl [.int (iI x)] (kX6_freed l G P V x hB (by omega) (by omega) hmL (by omega) (by omega)) gX6_frees_X6_freed rfl ⟨rfl, rfl⟩ (by decide +kernel) ⟨Nat.le_of_ble_eq_true rfl, Nat.le_of_ble_eq_true rfl⟩ rfl rfl (Nat.le_of_ble_eq_true rfl) rfl dX6_frees_23 (z_exI (fun r_5 P_5 V_5 h_5 => ?_))
      obtain ⟨hP_5, hB_5, h_5⟩ := h_5
      rw [hP_5]
      obtain ⟨zqr, zqs⟩ := h_5
      refine z_goto E 31 dX6_frees_26 rfl ?_
      exact z_iret E dX6_frees_31 (by first | exact ⟨rfl, hB_5, Or.inr (Or.inr ⟨by assumption, by assumption, zqr, zqs⟩)⟩ | exact ⟨rfl, hB, Or.inl ⟨by assumption, rfl, rfl⟩⟩ | exact ⟨rfl, hB, Or.inr (Or.inl ⟨by assumption, by assumption, rfl, rfl⟩)⟩)
  · skip
    refine z_ldc E (-1000001) f1 rfl dX6_frees_8 ?_
    refine z_goto E 31 dX6_frees_10 rfl ?_
    exact z_iret E dX6_frees_31 (by first | exact ⟨rfl, hB, Or.inr (Or.inr ⟨by assumption, by assumption, zqr, zqs⟩)⟩ | exact ⟨rfl, hB, Or.inl ⟨by assumption, rfl, rfl⟩⟩ | exact ⟨rfl, hB, Or.inr (Or.inl ⟨by assumption, by assumption, rfl, rfl⟩)⟩)

set_option maxHeartbeats 4000000 in
set_option maxRecDepth 100000 in
theorem kX6_sharesAll (l : Launch) (G : Gl) (P : Nat → Nat) (V : Vt) (hB : BV V) (hm0 : 0 ≤ V 17 0 0) (hm1 : V 17 0 0 ≤ 16) (hmL : ∀ k p, 0 ≤ k → k < 16 → 0 ≤ p → p < 6 → 0 ≤ mo (V 17 0) k (2 + p) ∧ mo (V 17 0) k (2 + p) < 40) (hU : ∀ k p, 0 ≤ k → k < V 17 0 0 → 0 ≤ p → p < 6 → mf (V 17 0) (mo (V 17 0) k (2 + p)) = 1) : Met l yX6_sharesAll wsX6_sharesAll ({ frames := 3, cells := 0, slots := 0, locals := 68 }) (va_Pc [.ref (ad G 16 0)] (Sg G P V)) (Qk G mkI (fun r P' V' => P' = P ∧ BV V' ∧ r = sm 40 (fun b => b2i (mf (shS (V 17 0) (V 17 0 0) 0) b = 1 ∧ pwM (shS (V 17 0) (V 17 0 0) 0) b = 0)) ∧ V' = up V 17 0 (swS (shS (V 17 0) (V 17 0 0) 0) 40))) 0 0 (mem G) := by
  refine z_met (cc := cX6_sharesAll) (nL := 3) (ret := (some .int)) (own := RX6) (by decide +kernel) rfl rfl (Nat.le_of_ble_eq_true rfl) (zz_cat rfl) (L := [some (.ref (ad G 16 0)), none, none]) rfl ?_
  intro X E
  have iX6 : ∀ x ∈ wsX60, x ∈ wsX6_sharesAll := by decide +kernel
  have f0 : Cond.fieldLink RX6 7 "SharedStatesModel" "s" "[I" ∈ wsX6_sharesAll := by decide +kernel
  refine z_iconst E dX6_sharesAll_0 ?_
  refine z_istore_n E dX6_sharesAll_1 1 rfl (L' := [some (.ref (ad G 16 0)), some (.int (iI 0)), none]) (Nat.le_of_ble_eq_true rfl) rfl ?_
  have lp_2_1 : ∀ (fuel : Nat) (k : Int) (Vl_2 : Vt), BV Vl_2 → (0 ≤ k) → (k ≤ V 17 0 0) → (Vl_2 = up V 17 0 (shS (V 17 0) k 0)) → (V 17 0 0 - k : Int).toNat < fuel → Kz X G P Vl_2 [some (.ref (ad G 16 0)), some (.int (iI k)), none] 2 [] := by
    intro fuel
    induction fuel with
    | zero => intro k Vl_2 hBl_2 hk0 hk1 hVl hf_2; exact absurd hf_2 (Nat.not_lt_zero _)
    | succ fuel ih_2 =>
      intro k Vl_2 hBl_2 hk0 hk1 hVl hf_2
      have zq17 : Vl_2 17 0 = shS (V 17 0) k 0 := by rw [hVl, up_s]
      have zq0 : Vl_2 17 0 0 = V 17 0 0 := by rw [zq17, shS_o (by omega) (by omega)]
      refine z_iload_n E dX6_sharesAll_2 1 rfl rfl ?_
      refine z_aload_n E dX6_sharesAll_3 0 rfl rfl ?_
      refine z_get E (ci := 6) (N := 16) (C := RX6) (T := TX6) (rfl : vl 16 0 = true) rfl rfl iX6 0 (by decide) rfl f0 rfl dX6_sharesAll_4 ?_
      refine z_iconst E dX6_sharesAll_7 ?_
      refine z_iald E (rfl : vl 17 0 = true) 498 rfl (by omega) (by omega) (by omega) dX6_sharesAll_8 ?_
      have hr_2 := hBl_2.s 0 (by omega)
      refine z_icmp_ge E 60 dX6_sharesAll_9 rfl (by omega) (by omega) (fun c_3 => ?_) (fun c_3 => ?_)
      · skip
        have zqk : k = V 17 0 0 := by omega
        have zqM : Vl_2 17 0 = (shS (V 17 0) (V 17 0 0) 0) := by rw [zq17, zqk]
        have zqL : ∀ k p, 0 ≤ k → k < 16 → 0 ≤ p → p < 6 → 0 ≤ mo (Vl_2 17 0) k (2 + p) ∧ mo (Vl_2 17 0) k (2 + p) < 40 := by rw [zqM]; exact shS_L hmL hU
        refine z_aload_n E dX6_sharesAll_60 0 rfl rfl ?_
        refine z_callV E (ci := 6) (N := 16) (C := RX6) (T := TX6) (n := 0) (st := []) (rfl : vl 16 0 = true) rfl rfl [] (kX6_sweeps l G P Vl_2  hBl_2 (by omega) (by omega) zqL) gX6_sharesAll_X6_sweeps rfl ⟨rfl, rfl⟩ (by decide +kernel) ⟨Nat.le_of_ble_eq_true rfl, Nat.le_of_ble_eq_true rfl⟩ rfl rfl (Nat.le_of_ble_eq_true rfl) rfl dX6_sharesAll_61 (z_exI (fun r_4 P_4 V_4 h_4 => ?_))
        obtain ⟨hP_4, hB_4, h_4⟩ := h_4
        rw [hP_4]
        obtain ⟨zqr, zqs⟩ := h_4
        rw [zqM] at zqr zqs
        exact z_iret E dX6_sharesAll_64 (⟨rfl, hB_4, zqr, by rw [zqs, hVl]; exact upup _ _ _ _ _⟩)
      · skip
        refine z_iconst E dX6_sharesAll_12 ?_
        refine z_istore_n E dX6_sharesAll_13 2 rfl (L' := [some (.ref (ad G 16 0)), some (.int (iI k)), some (.int (iI 0))]) (Nat.le_of_ble_eq_true rfl) rfl ?_
        have lp_14_5 : ∀ (fuel : Nat) (p : Int) (Vl_14 : Vt), BV Vl_14 → (0 ≤ p) → (p ≤ 6) → (Vl_14 = up V 17 0 (shS (V 17 0) k p)) → (6 - p : Int).toNat < fuel → Kz X G P Vl_14 [some (.ref (ad G 16 0)), some (.int (iI k)), some (.int (iI p))] 14 [] := by
          intro fuel
          induction fuel with
          | zero => intro p Vl_14 hBl_14 hp0 hp1 hVm hf_14; exact absurd hf_14 (Nat.not_lt_zero _)
          | succ fuel ih_14 =>
            intro p Vl_14 hBl_14 hp0 hp1 hVm hf_14
            refine z_iload_n E dX6_sharesAll_14 2 rfl rfl ?_
            refine z_bipush E dX6_sharesAll_15 rfl ?_
            refine z_icmp_ge E 54 dX6_sharesAll_17 rfl (by omega) (by omega) (fun c_6 => ?_) (fun c_6 => ?_)
            · skip
              refine z_iinc E k dX6_sharesAll_54 (L' := [some (.ref (ad G 16 0)), some (.int (iI (k + 1))), some (.int (iI p))]) (Nat.le_of_ble_eq_true rfl) rfl rfl ?_
              refine z_goto E 2 dX6_sharesAll_57 rfl ?_
              refine Kz.drop 2 (L' := [some (.ref (ad G 16 0)), some (.int (iI (k + 1))), none]) rfl ?_
              exact ih_2 (k + 1) Vl_14 hBl_14 (by omega) (by omega) (by rw [hVm, show p = 6 by omega, shS_n]) (by omega)
            · skip
              have zqv : Vl_14 17 0 = shS (V 17 0) k p := by rw [hVm, up_s]
              have zqh := hmL k p hk0 (by omega) hp0 (by omega)
              have zqo : mo (Vl_14 17 0) k (2 + p) = mo (V 17 0) k (2 + p) := by rw [zqv]; exact shS_k hp0 (by omega)
              have zqc : ∀ j, 138 ≤ j → Vl_14 17 0 j = V 17 0 j := fun j h0 => by rw [zqv]; exact shS_o (by omega) (Or.inr h0)
              have zql : llM (Vl_14 17 0) (mo (V 17 0) k (2 + p)) = llM (V 17 0) (mo (V 17 0) k (2 + p)) := llM_congr (by omega) zqc
              have zqu := hU k p hk0 (by omega) hp0 (by omega)
              have zqf : mf (Vl_14 17 0) (mo (V 17 0) k (2 + p)) = 1 := by rw [← zqu]; unfold mf; exact zqc _ (by omega)
              have zqb := llM_c (V 17 0) (mo (V 17 0) k (2 + p)) (by omega) (by omega) zqu
              refine z_aload_n E dX6_sharesAll_20 0 rfl rfl ?_
              refine z_get E (ci := 6) (N := 16) (C := RX6) (T := TX6) (rfl : vl 16 0 = true) rfl rfl iX6 0 (by decide) rfl f0 rfl dX6_sharesAll_21 ?_
              refine z_bipush E dX6_sharesAll_24 rfl ?_
              refine z_bipush E dX6_sharesAll_26 rfl ?_
              refine z_iload_n E dX6_sharesAll_28 1 rfl rfl ?_
              refine z_imul E dX6_sharesAll_29 ?_
              refine z_iadd E dX6_sharesAll_30 ?_
              refine z_iconst E dX6_sharesAll_31 ?_
              refine z_iadd E dX6_sharesAll_32 ?_
              refine z_iload_n E dX6_sharesAll_33 2 rfl rfl ?_
              refine z_iadd E dX6_sharesAll_34 ?_
              refine z_aload_n E dX6_sharesAll_35 0 rfl rfl ?_
              refine z_aload_n E dX6_sharesAll_36 0 rfl rfl ?_
              refine z_iload_n E dX6_sharesAll_37 1 rfl rfl ?_
              refine z_iconst E dX6_sharesAll_38 ?_
              refine z_iload_n E dX6_sharesAll_39 2 rfl rfl ?_
              refine z_iadd E dX6_sharesAll_40 ?_
              refine z_callV E (ci := 6) (N := 16) (C := RX6) (T := TX6) (n := 2) (st := [.ref (ad G 16 0), .int (iI (((10 + (8 * k)) + 2) + p)), .ref (ad G 17 0)]) (rfl : vl 16 0 = true) rfl rfl [.int (iI k), .int (iI (2 + p))] (kX6_of l G P Vl_14 k (2 + p) hBl_14 (by omega) (by omega) (by omega) (by omega)) gX6_sharesAll_X6_of rfl ⟨rfl, rfl⟩ (by decide +kernel) ⟨Nat.le_of_ble_eq_true rfl, Nat.le_of_ble_eq_true rfl⟩ rfl rfl (Nat.le_of_ble_eq_true rfl) rfl dX6_sharesAll_41 (z_dtI ?_)
              have h_7a := mo_R hBl_14 k (2 + p) (by omega) (by omega)
              rw [zqo]
              refine z_callV E (ci := 6) (N := 16) (C := RX6) (T := TX6) (n := 1) (st := [.int (iI (((10 + (8 * k)) + 2) + p)), .ref (ad G 17 0)]) (rfl : vl 16 0 = true) rfl rfl [.int (iI (mo (V 17 0) k (2 + p)))] (kX6_lowestLike l G P Vl_14 (mo (V 17 0) k (2 + p)) hBl_14 (by omega) (by omega) zqf) gX6_sharesAll_X6_lowestLike rfl ⟨rfl, rfl⟩ (by decide +kernel) ⟨Nat.le_of_ble_eq_true rfl, Nat.le_of_ble_eq_true rfl⟩ rfl rfl (Nat.le_of_ble_eq_true rfl) rfl dX6_sharesAll_44 (z_dtI ?_)
              rw [zql]
              refine z_iast E (rfl : vl 17 0 = true) 498 (fun _ => rfl) (by omega) (by omega) (by omega) dX6_sharesAll_47 ?_
              obtain ⟨V9, hV9⟩ : ∃ Z : Vt, Z = up Vl_14 17 0 (updI (Vl_14 17 0) (((10 + (8 * k)) + 2) + p) (llM (V 17 0) (mo (V 17 0) k (2 + p)))) := ⟨_, rfl⟩
              rw [← hV9]
              have hB9 : BV V9 := hV9 ▸ BV_up hBl_14 (by intro _; omega)
              refine z_iinc E p dX6_sharesAll_48 (L' := [some (.ref (ad G 16 0)), some (.int (iI k)), some (.int (iI (p + 1)))]) (Nat.le_of_ble_eq_true rfl) rfl rfl ?_
              refine z_goto E 14 dX6_sharesAll_51 rfl ?_
              exact ih_14 (p + 1) V9 hB9 (by omega) (by omega) (by rw [hV9, hVm, up_s, shS_s hk0 hp0 (by omega)]; exact upup _ _ _ _ _) (by omega)
        exact lp_14_5 ((6 - 0 : Int).toNat + 1) 0 Vl_2 hBl_2 (by omega) (by omega) hVl (Nat.lt_succ_self _)
  exact lp_2_1 ((V 17 0 0 - 0 : Int).toNat + 1) 0 V hB (by omega) (by omega) (by rw [shS_0]; exact up_self.symm) (Nat.lt_succ_self _)

set_option maxHeartbeats 4000000 in
set_option maxRecDepth 100000 in
theorem kX6_share (l : Launch) (G : Gl) (P : Nat → Nat) (V : Vt) (hB : BV V) (hm0 : 0 ≤ V 17 0 0) (hm1 : V 17 0 0 ≤ 16) (hmL : ∀ k p, 0 ≤ k → k < 16 → 0 ≤ p → p < 6 → 0 ≤ mo (V 17 0) k (2 + p) ∧ mo (V 17 0) k (2 + p) < 40) (hU : ∀ k p, 0 ≤ k → k < V 17 0 0 → 0 ≤ p → p < 6 → mf (V 17 0) (mo (V 17 0) k (2 + p)) = 1) (hq : 0 ≤ V 16 0 3 ∧ V 16 0 3 ≤ 4) (hq4 : inR (V 16 0 4)) : Met l yX6_share wsX6_share ({ frames := 4, cells := 0, slots := 0, locals := 90 }) (va_Pc [.ref (ad G 16 0)] (Sg G P V)) (Qk G mkI (fun r P' V' => P' = P ∧ BV V' ∧ r = sm 40 (fun b => b2i (mf (shS (V 17 0) (V 17 0 0) 0) b = 1 ∧ pwM (shS (V 17 0) (V 17 0 0) 0) b = 0)) ∧ V' = up (chV V) 17 0 (swS (shS (V 17 0) (V 17 0 0) 0) 40))) 0 0 (mem G) := by
  refine z_met (cc := cX6_share) (nL := 1) (ret := (some .int)) (own := RX6) (by decide +kernel) rfl rfl (Nat.le_of_ble_eq_true rfl) (zz_cat rfl) (L := [some (.ref (ad G 16 0))]) rfl ?_
  intro X E
  refine z_aload_n E dX6_share_0 0 rfl rfl ?_
  refine z_callV E (ci := 6) (N := 16) (C := RX6) (T := TX6) (n := 0) (st := []) (rfl : vl 16 0 = true) rfl rfl [] (kX6_changes l G P V  hB (by omega) (by omega)) gX6_share_X6_changes rfl ⟨rfl, rfl⟩ (by decide +kernel) ⟨Nat.le_of_ble_eq_true rfl, Nat.le_of_ble_eq_true rfl⟩ rfl rfl (Nat.le_of_ble_eq_true rfl) rfl dX6_share_1 (z_exV (fun P_1 V_1 h_1 => ?_))
  obtain ⟨hP_1, hB_1, h_1⟩ := h_1
  rw [hP_1]
  have zqc := h_1
  have zq17 : V_1 17 0 = V 17 0 := by rw [zqc, ch_o (by decide) (by decide)]
  refine z_aload_n E dX6_share_4 0 rfl rfl ?_
  refine z_callV E (ci := 6) (N := 16) (C := RX6) (T := TX6) (n := 0) (st := []) (rfl : vl 16 0 = true) rfl rfl [] (kX6_sharesAll l G P V_1  hB_1 (by rw [zq17]; exact hm0) (by rw [zq17]; exact hm1) (by rw [zq17]; exact hmL) (by rw [zq17]; exact hU)) gX6_share_X6_sharesAll rfl ⟨rfl, rfl⟩ (by decide +kernel) ⟨Nat.le_of_ble_eq_true rfl, Nat.le_of_ble_eq_true rfl⟩ rfl rfl (Nat.le_of_ble_eq_true rfl) rfl dX6_share_5 (z_exI (fun r_2 P_2 V_2 h_2 => ?_))
  obtain ⟨hP_2, hB_2, h_2⟩ := h_2
  rw [hP_2]
  obtain ⟨zqr, zqs⟩ := h_2
  rw [zq17] at zqr zqs
  exact z_iret E dX6_share_8 (⟨rfl, hB_2, zqr, by rw [zqs, zqc]⟩)
