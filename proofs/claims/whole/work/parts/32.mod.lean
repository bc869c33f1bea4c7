set_option maxHeartbeats 4000000 in
set_option maxRecDepth 100000 in
theorem kX6_loads (l : Launch) (G : Gl) (P : Nat → Nat) (V : Vt) (k : Int) (hB : BV V) (hm0 : 0 ≤ V 17 0 0) (hm1 : V 17 0 0 ≤ 16) (hmL : ∀ k p, 0 ≤ k → k < 16 → 0 ≤ p → p < 6 → 0 ≤ mo (V 17 0) k (2 + p) ∧ mo (V 17 0) k (2 + p) < 40) (a1 : 0 ≤ k) (a2 : k < 16) : Met l yX6_loads wsX6_loads ({ frames := 2, cells := 0, slots := 0, locals := 44 }) (va_Pc [.ref (ad G 16 0), .int (iI k)] (Sg G P V)) (Qk G mkV (fun r P' V' => P' = P ∧ BV V' ∧ V' = up V 21 0 (mix (V 21 0) (fun c => mc (V 17 0) k c) 48))) 0 0 (mem G) := by
  refine z_met (cc := cX6_loads) (nL := 3) (ret := none) (own := RX6) (by decide +kernel) rfl rfl (Nat.le_of_ble_eq_true rfl) (zz_cat rfl) (L := [some (.ref (ad G 16 0)), some (.int (iI k)), none]) rfl ?_
  intro X E
  have iX6 : ∀ x ∈ wsX60, x ∈ wsX6_loads := by decide +kernel
  have f0 : Cond.fieldLink RX6 22 "SharedStatesModel" "cells" "[I" ∈ wsX6_loads := by decide +kernel
  refine z_iconst E dX6_loads_0 ?_
  refine z_istore_n E dX6_loads_1 2 rfl (L' := [some (.ref (ad G 16 0)), some (.int (iI k)), some (.int (iI 0))]) (Nat.le_of_ble_eq_true rfl) rfl ?_
  have lp_2_1 : ∀ (fuel : Nat) (c : Int) (Vl_2 : Vt), BV Vl_2 → (0 ≤ c) → (c ≤ 48) → (Vl_2 = up V 21 0 (mix (V 21 0) (fun c => mc (V 17 0) k c) c)) → (48 - c : Int).toNat < fuel → Kz X G P Vl_2 [some (.ref (ad G 16 0)), some (.int (iI k)), some (.int (iI c))] 2 [] := by
    intro fuel
    induction fuel with
    | zero => intro c Vl_2 hBl_2 hk0 hk1 hVl hf_2; exact absurd hf_2 (Nat.not_lt_zero _)
    | succ fuel ih_2 =>
      intro c Vl_2 hBl_2 hk0 hk1 hVl hf_2
      have g17 : Vl_2 17 0 = V 17 0 := by rw [hVl]; rfl
      have hLl : ∀ k p, 0 ≤ k → k < 16 → 0 ≤ p → p < 6 → 0 ≤ mo (Vl_2 17 0) k (2 + p) ∧ mo (Vl_2 17 0) k (2 + p) < 40 := by rw [g17]; exact hmL
      have gm0 : 0 ≤ Vl_2 17 0 0 := by rw [g17]; exact hm0
      have gm1 : Vl_2 17 0 0 ≤ 16 := by rw [g17]; exact hm1
      refine z_iload_n E dX6_loads_2 2 rfl rfl ?_
      refine z_bipush E dX6_loads_3 rfl ?_
      refine z_icmp_ge E 26 dX6_loads_5 rfl (by omega) (by omega) (fun c_2 => ?_) (fun c_2 => ?_)
      · skip
        exact z_vret E dX6_loads_26 (⟨rfl, hBl_2, by rw [hVl, show c = 48 by omega]⟩)
      · skip
        refine z_aload_n E dX6_loads_8 0 rfl rfl ?_
        refine z_get E (ci := 6) (N := 16) (C := RX6) (T := TX6) (rfl : vl 16 0 = true) rfl rfl iX6 7 (by decide) rfl f0 rfl dX6_loads_9 ?_
        refine z_iload_n E dX6_loads_12 2 rfl rfl ?_
        refine z_aload_n E dX6_loads_13 0 rfl rfl ?_
        refine z_iload_n E dX6_loads_14 1 rfl rfl ?_
        refine z_iload_n E dX6_loads_15 2 rfl rfl ?_
        refine z_callV E (ci := 6) (N := 16) (C := RX6) (T := TX6) (n := 2) (st := [.int (iI c), .ref (ad G 21 0)]) (rfl : vl 16 0 = true) rfl rfl [.int (iI k), .int (iI c)] (kX6_cellOf l G P Vl_2 k c hBl_2 (by omega) (by omega) hLl (by omega) (by omega) (by omega) (by omega)) gX6_loads_X6_cellOf rfl ⟨rfl, rfl⟩ (by decide +kernel) ⟨Nat.le_of_ble_eq_true rfl, Nat.le_of_ble_eq_true rfl⟩ rfl rfl (Nat.le_of_ble_eq_true rfl) rfl dX6_loads_16 (z_dtI ?_)
        have h_3a := mc_R hBl_2 hLl k c (by omega) (by omega) (by omega) (by omega)
        refine z_iast E (rfl : vl 21 0 = true) 48 (fun _ => rfl) (by omega) (by omega) (by omega) dX6_loads_19 ?_
        obtain ⟨V4, hV4⟩ : ∃ Z : Vt, Z = up Vl_2 21 0 (updI (Vl_2 21 0) c (mc (Vl_2 17 0) k c)) := ⟨_, rfl⟩
        rw [← hV4]
        have hB4 : BV V4 := hV4 ▸ BV_up hBl_2 (by intro _; omega)
        refine z_iinc E c dX6_loads_20 (L' := [some (.ref (ad G 16 0)), some (.int (iI k)), some (.int (iI (c + 1)))]) (Nat.le_of_ble_eq_true rfl) rfl rfl ?_
        refine z_goto E 2 dX6_loads_23 rfl ?_
        exact ih_2 (c + 1) V4 hB4 (by omega) (by omega) (by rw [hV4, g17, hVl, up_s, mix_s hk0]; exact upup _ _ _ _ _) (by omega)
  exact lp_2_1 ((48 - 0 : Int).toNat + 1) 0 V hB (by omega) (by omega) (by rw [mix_0]; exact up_self.symm) (Nat.lt_succ_self _)

set_option maxHeartbeats 4000000 in
set_option maxRecDepth 100000 in
theorem kX6_needs (l : Launch) (G : Gl) (P : Nat → Nat) (V : Vt) (k : Int) (hB : BV V) (hm0 : 0 ≤ V 17 0 0) (hm1 : V 17 0 0 ≤ 16) (hmL : ∀ k p, 0 ≤ k → k < 16 → 0 ≤ p → p < 6 → 0 ≤ mo (V 17 0) k (2 + p) ∧ mo (V 17 0) k (2 + p) < 40) (a1 : 0 ≤ k) (a2 : k < 16) : Met l yX6_needs wsX6_needs ({ frames := 3, cells := 0, slots := 0, locals := 68 }) (va_Pc [.ref (ad G 16 0), .int (iI k)] (Sg G P V)) (Qk G mkI (dt (NDm (V 17 0) (V 21 0) k) P V)) 0 0 (mem G) := by
  refine z_met (cc := cX6_needs) (nL := 6) (ret := (some .int)) (own := RX6) (by decide +kernel) rfl rfl (Nat.le_of_ble_eq_true rfl) (zz_cat rfl) (L := [some (.ref (ad G 16 0)), some (.int (iI k)), none, none, none, none]) rfl ?_
  intro X E
  have iX6 : ∀ x ∈ wsX60, x ∈ wsX6_needs := by decide +kernel
  have f0 : Cond.fieldLink RX6 7 "SharedStatesModel" "s" "[I" ∈ wsX6_needs := by decide +kernel
  refine z_iconst E dX6_needs_0 ?_
  refine z_istore_n E dX6_needs_1 2 rfl (L' := [some (.ref (ad G 16 0)), some (.int (iI k)), some (.int (iI 0)), none, none, none]) (Nat.le_of_ble_eq_true rfl) rfl ?_
  refine z_iconst E dX6_needs_2 ?_
  refine z_istore_n E dX6_needs_3 3 rfl (L' := [some (.ref (ad G 16 0)), some (.int (iI k)), some (.int (iI 0)), some (.int (iI 0)), none, none]) (Nat.le_of_ble_eq_true rfl) rfl ?_
  have lp_4_1 : ∀ (fuel : Nat) (m : Int) (p : Int), (0 ≤ p) → (p ≤ 6) → (m = sm p (fun p => b2i (DFm (V 17 0) (V 21 0) k p ∧ ¬ TKm (V 17 0) (V 21 0) k p))) → (6 - p : Int).toNat < fuel → Kz X G P V [some (.ref (ad G 16 0)), some (.int (iI k)), some (.int (iI m)), some (.int (iI p)), none, none] 4 [] := by
    intro fuel
    induction fuel with
    | zero => intro m p hp0 hp1 hs hf_4; exact absurd hf_4 (Nat.not_lt_zero _)
    | succ fuel ih_4 =>
      intro m p hp0 hp1 hs hf_4
      refine z_iload_n E dX6_needs_4 3 rfl rfl ?_
      refine z_bipush E dX6_needs_5 rfl ?_
      refine z_icmp_ge E 120 dX6_needs_7 rfl (by omega) (by omega) (fun c_2 => ?_) (fun c_2 => ?_)
      · skip
        refine z_iload_n E dX6_needs_120 2 rfl rfl ?_
        exact z_iret E dX6_needs_121 (⟨by rw [hs, show p = 6 by omega] <;> rfl, rfl, rfl⟩)
      · skip
        refine z_aload_n E dX6_needs_10 0 rfl rfl ?_
        refine z_get E (ci := 6) (N := 16) (C := RX6) (T := TX6) (rfl : vl 16 0 = true) rfl rfl iX6 0 (by decide) rfl f0 rfl dX6_needs_11 ?_
        refine z_iconst E dX6_needs_14 ?_
        refine z_iald E (rfl : vl 17 0 = true) 498 rfl (by omega) (by omega) (by omega) dX6_needs_15 ?_
        have hr_3 := hB.s 5 (by omega)
        refine z_iconst E dX6_needs_16 ?_
        refine z_icmp_ne E 32 dX6_needs_17 rfl (by omega) (by omega) (fun c_4 => ?_) (fun c_4 => ?_)
        · skip
          refine z_iconst E dX6_needs_32 ?_
          refine z_istore E dX6_needs_33 (L' := [some (.ref (ad G 16 0)), some (.int (iI k)), some (.int (iI m)), some (.int (iI p)), some (.int (iI 0)), none]) (Nat.le_of_ble_eq_true rfl) rfl ?_
          refine z_iconst E dX6_needs_35 ?_
          refine z_istore E dX6_needs_36 (L' := [some (.ref (ad G 16 0)), some (.int (iI k)), some (.int (iI m)), some (.int (iI p)), some (.int (iI 0)), some (.int (iI 0))]) (Nat.le_of_ble_eq_true rfl) rfl ?_
          have lp_38_5 : ∀ (fuel : Nat) (t : Int) (q : Int), (0 ≤ q) → (q ≤ p) → (t = b2i ((V 17 0 5 = 1 ∧ 0 ≤ fO (FDm (V 17 0) (V 21 0) p)) ∨ ∃ j, 0 ≤ j ∧ j < q ∧ V 17 0 5 = 1 ∧ DFm (V 17 0) (V 21 0) k j ∧ SMm (V 21 0) p j)) → (p - q : Int).toNat < fuel → Kz X G P V [some (.ref (ad G 16 0)), some (.int (iI k)), some (.int (iI m)), some (.int (iI p)), some (.int (iI t)), some (.int (iI q))] 38 [] := by
            intro fuel
            induction fuel with
            | zero => intro t q hq0 hq1 ht hf_38; exact absurd hf_38 (Nat.not_lt_zero _)
            | succ fuel ih_38 =>
              intro t q hq0 hq1 ht hf_38
              have htb := b2i_b ((V 17 0 5 = 1 ∧ 0 ≤ fO (FDm (V 17 0) (V 21 0) p)) ∨ ∃ j, 0 ≤ j ∧ j < q ∧ V 17 0 5 = 1 ∧ DFm (V 17 0) (V 21 0) k j ∧ SMm (V 21 0) p j)
              rw [← ht] at htb
              refine z_iload E dX6_needs_38 rfl ?_
              refine z_iload_n E dX6_needs_40 3 rfl rfl ?_
              refine z_icmp_ge E 92 dX6_needs_41 rfl (by omega) (by omega) (fun c_6 => ?_) (fun c_6 => ?_)
              · skip
                refine z_iload_n E dX6_needs_92 2 rfl rfl ?_
                refine z_aload_n E dX6_needs_93 0 rfl rfl ?_
                refine z_iload_n E dX6_needs_94 1 rfl rfl ?_
                refine z_iload_n E dX6_needs_95 3 rfl rfl ?_
                refine z_callV E (ci := 6) (N := 16) (C := RX6) (T := TX6) (n := 2) (st := [.int (iI m)]) (rfl : vl 16 0 = true) rfl rfl [.int (iI k), .int (iI p)] (kX6_differs l G P V k p hB (by omega) (by omega) hmL (by omega) (by omega) (by omega) (by omega)) gX6_needs_X6_differs rfl ⟨rfl, rfl⟩ (by decide +kernel) ⟨Nat.le_of_ble_eq_true rfl, Nat.le_of_ble_eq_true rfl⟩ rfl rfl (Nat.le_of_ble_eq_true rfl) rfl dX6_needs_96 (z_dtI ?_)
                refine z_ifeq_b E 111 dX6_needs_99 rfl (fun c_8 => ?_) (fun c_8 => ?_)
                · skip
                  refine z_iconst E dX6_needs_111 ?_
                  refine z_iadd E dX6_needs_112 ?_
                  refine z_istore_n E dX6_needs_113 2 rfl (L' := [some (.ref (ad G 16 0)), some (.int (iI k)), some (.int (iI (m + 0))), some (.int (iI p)), some (.int (iI t)), some (.int (iI q))]) (Nat.le_of_ble_eq_true rfl) rfl ?_
                  refine z_iinc E p dX6_needs_114 (L' := [some (.ref (ad G 16 0)), some (.int (iI k)), some (.int (iI (m + 0))), some (.int (iI (p + 1))), some (.int (iI t)), some (.int (iI q))]) (Nat.le_of_ble_eq_true rfl) rfl rfl ?_
                  refine z_goto E 4 dX6_needs_117 rfl ?_
                  refine Kz.drop 4 (L' := [some (.ref (ad G 16 0)), some (.int (iI k)), some (.int (iI (m + 0))), some (.int (iI (p + 1))), none, some (.int (iI q))]) rfl ?_
                  refine Kz.drop 5 (L' := [some (.ref (ad G 16 0)), some (.int (iI k)), some (.int (iI (m + 0))), some (.int (iI (p + 1))), none, none]) rfl ?_
                  exact ih_4 (m + 0) (p + 1) (by omega) (by omega) (by first | exact smb_t hs (by omega) ⟨by assumption, (tk_n ht (by assumption) (by omega))⟩ | exact smb_f hs (by omega) (fun z => absurd z.1 (by assumption)) | exact smb_f hs (by omega) (fun z => z.2 (tk_y ht (by assumption) (by omega)))) (by omega)
                · skip
                  refine z_iload E dX6_needs_102 rfl ?_
                  refine z_if_ne E 111 dX6_needs_104 rfl (by omega) (fun c_9 => ?_) (fun c_9 => ?_)
                  · skip
                    refine z_iconst E dX6_needs_111 ?_
                    refine z_iadd E dX6_needs_112 ?_
                    refine z_istore_n E dX6_needs_113 2 rfl (L' := [some (.ref (ad G 16 0)), some (.int (iI k)), some (.int (iI (m + 0))), some (.int (iI p)), some (.int (iI t)), some (.int (iI q))]) (Nat.le_of_ble_eq_true rfl) rfl ?_
                    refine z_iinc E p dX6_needs_114 (L' := [some (.ref (ad G 16 0)), some (.int (iI k)), some (.int (iI (m + 0))), some (.int (iI (p + 1))), some (.int (iI t)), some (.int (iI q))]) (Nat.le_of_ble_eq_true rfl) rfl rfl ?_
                    refine z_goto E 4 dX6_needs_117 rfl ?_
                    refine Kz.drop 4 (L' := [some (.ref (ad G 16 0)), some (.int (iI k)), some (.int (iI (m + 0))), some (.int (iI (p + 1))), none, some (.int (iI q))]) rfl ?_
                    refine Kz.drop 5 (L' := [some (.ref (ad G 16 0)), some (.int (iI k)), some (.int (iI (m + 0))), some (.int (iI (p + 1))), none, none]) rfl ?_
                    exact ih_4 (m + 0) (p + 1) (by omega) (by omega) (by first | exact smb_t hs (by omega) ⟨by assumption, (tk_n ht (by assumption) (by omega))⟩ | exact smb_f hs (by omega) (fun z => absurd z.1 (by assumption)) | exact smb_f hs (by omega) (fun z => z.2 (tk_y ht (by assumption) (by omega)))) (by omega)
                  · skip
                    refine z_iconst E dX6_needs_107 ?_
                    refine z_goto E 112 dX6_needs_108 rfl ?_
                    refine z_iadd E dX6_needs_112 ?_
                    refine z_istore_n E dX6_needs_113 2 rfl (L' := [some (.ref (ad G 16 0)), some (.int (iI k)), some (.int (iI (m + 1))), some (.int (iI p)), some (.int (iI t)), some (.int (iI q))]) (Nat.le_of_ble_eq_true rfl) rfl ?_
                    refine z_iinc E p dX6_needs_114 (L' := [some (.ref (ad G 16 0)), some (.int (iI k)), some (.int (iI (m + 1))), some (.int (iI (p + 1))), some (.int (iI t)), some (.int (iI q))]) (Nat.le_of_ble_eq_true rfl) rfl rfl ?_
                    refine z_goto E 4 dX6_needs_117 rfl ?_
                    refine Kz.drop 4 (L' := [some (.ref (ad G 16 0)), some (.int (iI k)), some (.int (iI (m + 1))), some (.int (iI (p + 1))), none, some (.int (iI q))]) rfl ?_
                    refine Kz.drop 5 (L' := [some (.ref (ad G 16 0)), some (.int (iI k)), some (.int (iI (m + 1))), some (.int (iI (p + 1))), none, none]) rfl ?_
                    exact ih_4 (m + 1) (p + 1) (by omega) (by omega) (by first | exact smb_t hs (by omega) ⟨by assumption, (tk_n ht (by assumption) (by omega))⟩ | exact smb_f hs (by omega) (fun z => absurd z.1 (by assumption)) | exact smb_f hs (by omega) (fun z => z.2 (tk_y ht (by assumption) (by omega)))) (by omega)
              · skip
                refine z_iload E dX6_needs_44 rfl ?_
                refine z_if_ne E 79 dX6_needs_46 rfl (by omega) (fun c_10 => ?_) (fun c_10 => ?_)
                · skip
                  refine z_iconst E dX6_needs_79 ?_
                  refine z_goto E 84 dX6_needs_80 rfl ?_
                  refine z_istore E dX6_needs_84 (L' := [some (.ref (ad G 16 0)), some (.int (iI k)), some (.int (iI m)), some (.int (iI p)), some (.int (iI 1)), some (.int (iI q))]) (Nat.le_of_ble_eq_true rfl) rfl ?_
                  refine z_iinc E q dX6_needs_86 (L' := [some (.ref (ad G 16 0)), some (.int (iI k)), some (.int (iI m)), some (.int (iI p)), some (.int (iI 1)), some (.int (iI (q + 1)))]) (Nat.le_of_ble_eq_true rfl) rfl rfl ?_
                  refine z_goto E 38 dX6_needs_89 rfl ?_
                  exact ih_38 1 (q + 1) (by omega) (by omega) (by first | exact tk_1a ht (by assumption) | exact tk_1p (by omega) ⟨by assumption, by assumption, by assumption⟩ | exact tk_0s ht (by assumption) (fun z => absurd z.1 (by assumption)) | exact tk_0s ht (by assumption) (fun z => absurd z.2.1 (by assumption)) | exact tk_0s ht (by assumption) (fun z => absurd z.2.2 (by assumption))) (by omega)
                · skip
                  refine z_aload_n E dX6_needs_49 0 rfl rfl ?_
                  refine z_get E (ci := 6) (N := 16) (C := RX6) (T := TX6) (rfl : vl 16 0 = true) rfl rfl iX6 0 (by decide) rfl f0 rfl dX6_needs_50 ?_
                  refine z_iconst E dX6_needs_53 ?_
                  refine z_iald E (rfl : vl 17 0 = true) 498 rfl (by omega) (by omega) (by omega) dX6_needs_54 ?_
                  refine z_iconst E dX6_needs_55 ?_
                  refine z_icmp_ne E 83 dX6_needs_56 rfl (by omega) (by omega) (fun c_11 => ?_) (fun c_11 => ?_)
                  · skip
                    refine z_iconst E dX6_needs_83 ?_
                    refine z_istore E dX6_needs_84 (L' := [some (.ref (ad G 16 0)), some (.int (iI k)), some (.int (iI m)), some (.int (iI p)), some (.int (iI 0)), some (.int (iI q))]) (Nat.le_of_ble_eq_true rfl) rfl ?_
                    refine z_iinc E q dX6_needs_86 (L' := [some (.ref (ad G 16 0)), some (.int (iI k)), some (.int (iI m)), some (.int (iI p)), some (.int (iI 0)), some (.int (iI (q + 1)))]) (Nat.le_of_ble_eq_true rfl) rfl rfl ?_
                    refine z_goto E 38 dX6_needs_89 rfl ?_
                    exact ih_38 0 (q + 1) (by omega) (by omega) (by first | exact tk_1a ht (by assumption) | exact tk_1p (by omega) ⟨by assumption, by assumption, by assumption⟩ | exact tk_0s ht (by assumption) (fun z => absurd z.1 (by assumption)) | exact tk_0s ht (by assumption) (fun z => absurd z.2.1 (by assumption)) | exact tk_0s ht (by assumption) (fun z => absurd z.2.2 (by assumption))) (by omega)
                  · skip
                    refine z_aload_n E dX6_needs_59 0 rfl rfl ?_
                    refine z_iload_n E dX6_needs_60 1 rfl rfl ?_
                    refine z_iload E dX6_needs_61 rfl ?_
                    refine z_callV E (ci := 6) (N := 16) (C := RX6) (T := TX6) (n := 2) (st := []) (rfl : vl 16 0 = true) rfl rfl [.int (iI k), .int (iI q)] (kX6_differs l G P V k q hB (by omega) (by omega) hmL (by omega) (by omega) (by omega) (by omega)) gX6_needs_X6_differs rfl ⟨rfl, rfl⟩ (by decide +kernel) ⟨Nat.le_of_ble_eq_true rfl, Nat.le_of_ble_eq_true rfl⟩ rfl rfl (Nat.le_of_ble_eq_true rfl) rfl dX6_needs_63 (z_dtI ?_)
                    refine z_ifeq_b E 83 dX6_needs_66 rfl (fun c_13 => ?_) (fun c_13 => ?_)
                    · skip
                      refine z_iconst E dX6_needs_83 ?_
                      refine z_istore E dX6_needs_84 (L' := [some (.ref (ad G 16 0)), some (.int (iI k)), some (.int (iI m)), some (.int (iI p)), some (.int (iI 0)), some (.int (iI q))]) (Nat.le_of_ble_eq_true rfl) rfl ?_
                      refine z_iinc E q dX6_needs_86 (L' := [some (.ref (ad G 16 0)), some (.int (iI k)), some (.int (iI m)), some (.int (iI p)), some (.int (iI 0)), some (.int (iI (q + 1)))]) (Nat.le_of_ble_eq_true rfl) rfl rfl ?_
                      refine z_goto E 38 dX6_needs_89 rfl ?_
                      exact ih_38 0 (q + 1) (by omega) (by omega) (by first | exact tk_1a ht (by assumption) | exact tk_1p (by omega) ⟨by assumption, by assumption, by assumption⟩ | exact tk_0s ht (by assumption) (fun z => absurd z.1 (by assumption)) | exact tk_0s ht (by assumption) (fun z => absurd z.2.1 (by assumption)) | exact tk_0s ht (by assumption) (fun z => absurd z.2.2 (by assumption))) (by omega)
                    · skip
                      refine z_aload_n E dX6_needs_69 0 rfl rfl ?_
                      refine z_iload_n E dX6_needs_70 3 rfl rfl ?_
                      refine z_iload E dX6_needs_71 rfl ?_
                      refine z_callV E (ci := 6) (N := 16) (C := RX6) (T := TX6) (n := 2) (st := []) (rfl : vl 16 0 = true) rfl rfl [.int (iI p), .int (iI q)] (kX6_areSame l G P V p q hB (by omega) (by omega) (by omega) (by omega)) gX6_needs_X6_areSame rfl ⟨rfl, rfl⟩ (by decide +kernel) ⟨Nat.le_of_ble_eq_true rfl, Nat.le_of_ble_eq_true rfl⟩ rfl rfl (Nat.le_of_ble_eq_true rfl) rfl dX6_needs_73 (z_dtI ?_)
                      refine z_ifeq_b E 83 dX6_needs_76 rfl (fun c_15 => ?_) (fun c_15 => ?_)
                      · skip
                        refine z_iconst E dX6_needs_83 ?_
                        refine z_istore E dX6_needs_84 (L' := [some (.ref (ad G 16 0)), some (.int (iI k)), some (.int (iI m)), some (.int (iI p)), some (.int (iI 0)), some (.int (iI q))]) (Nat.le_of_ble_eq_true rfl) rfl ?_
                        refine z_iinc E q dX6_needs_86 (L' := [some (.ref (ad G 16 0)), some (.int (iI k)), some (.int (iI m)), some (.int (iI p)), some (.int (iI 0)), some (.int (iI (q + 1)))]) (Nat.le_of_ble_eq_true rfl) rfl rfl ?_
                        refine z_goto E 38 dX6_needs_89 rfl ?_
                        exact ih_38 0 (q + 1) (by omega) (by omega) (by first | exact tk_1a ht (by assumption) | exact tk_1p (by omega) ⟨by assumption, by assumption, by assumption⟩ | exact tk_0s ht (by assumption) (fun z => absurd z.1 (by assumption)) | exact tk_0s ht (by assumption) (fun z => absurd z.2.1 (by assumption)) | exact tk_0s ht (by assumption) (fun z => absurd z.2.2 (by assumption))) (by omega)
                      · skip
                        refine z_iconst E dX6_needs_79 ?_
                        refine z_goto E 84 dX6_needs_80 rfl ?_
                        refine z_istore E dX6_needs_84 (L' := [some (.ref (ad G 16 0)), some (.int (iI k)), some (.int (iI m)), some (.int (iI p)), some (.int (iI 1)), some (.int (iI q))]) (Nat.le_of_ble_eq_true rfl) rfl ?_
                        refine z_iinc E q dX6_needs_86 (L' := [some (.ref (ad G 16 0)), some (.int (iI k)), some (.int (iI m)), some (.int (iI p)), some (.int (iI 1)), some (.int (iI (q + 1)))]) (Nat.le_of_ble_eq_true rfl) rfl rfl ?_
                        refine z_goto E 38 dX6_needs_89 rfl ?_
                        exact ih_38 1 (q + 1) (by omega) (by omega) (by first | exact tk_1a ht (by assumption) | exact tk_1p (by omega) ⟨by assumption, by assumption, by assumption⟩ | exact tk_0s ht (by assumption) (fun z => absurd z.1 (by assumption)) | exact tk_0s ht (by assumption) (fun z => absurd z.2.1 (by assumption)) | exact tk_0s ht (by assumption) (fun z => absurd z.2.2 (by assumption))) (by omega)
          exact lp_38_5 ((p - 0 : Int).toNat + 1) 0 0 (by omega) (by omega) (by first | exact (b2i_t (Or.inl ⟨by assumption, by assumption⟩)).symm | exact (b2i_f (tk_0 (fun z => absurd z.1 (by assumption)))).symm | exact (b2i_f (tk_0 (fun z => absurd z.2 (by omega)))).symm) (Nat.lt_succ_self _)
        · skip
          refine z_aload_n E dX6_needs_20 0 rfl rfl ?_
          refine z_iload_n E dX6_needs_21 3 rfl rfl ?_
          refine z_callV E (ci := 6) (N := 16) (C := RX6) (T := TX6) (n := 1) (st := []) (rfl : vl 16 0 = true) rfl rfl [.int (iI p)] (kX6_found l G P V p hB (by omega) (by omega)) gX6_needs_X6_found rfl ⟨rfl, rfl⟩ (by decide +kernel) ⟨Nat.le_of_ble_eq_true rfl, Nat.le_of_ble_eq_true rfl⟩ rfl rfl (Nat.le_of_ble_eq_true rfl) rfl dX6_needs_22 (z_dtI ?_)
          have h_16a := FDm_c (V 17 0) (V 21 0) p
          refine z_if_lt E 32 dX6_needs_25 rfl (by omega) (fun c_17 => ?_) (fun c_17 => ?_)
          · skip
            refine z_iconst E dX6_needs_32 ?_
            refine z_istore E dX6_needs_33 (L' := [some (.ref (ad G 16 0)), some (.int (iI k)), some (.int (iI m)), some (.int (iI p)), some (.int (iI 0)), none]) (Nat.le_of_ble_eq_true rfl) rfl ?_
            refine z_iconst E dX6_needs_35 ?_
            refine z_istore E dX6_needs_36 (L' := [some (.ref (ad G 16 0)), some (.int (iI k)), some (.int (iI m)), some (.int (iI p)), some (.int (iI 0)), some (.int (iI 0))]) (Nat.le_of_ble_eq_true rfl) rfl ?_
            have lp_38_18 : ∀ (fuel : Nat) (t : Int) (q : Int), (0 ≤ q) → (q ≤ p) → (t = b2i ((V 17 0 5 = 1 ∧ 0 ≤ fO (FDm (V 17 0) (V 21 0) p)) ∨ ∃ j, 0 ≤ j ∧ j < q ∧ V 17 0 5 = 1 ∧ DFm (V 17 0) (V 21 0) k j ∧ SMm (V 21 0) p j)) → (p - q : Int).toNat < fuel → Kz X G P V [some (.ref (ad G 16 0)), some (.int (iI k)), some (.int (iI m)), some (.int (iI p)), some (.int (iI t)), some (.int (iI q))] 38 [] := by
              intro fuel
              induction fuel with
              | zero => intro t q hq0 hq1 ht hf_38; exact absurd hf_38 (Nat.not_lt_zero _)
              | succ fuel ih_38 =>
                intro t q hq0 hq1 ht hf_38
                have htb := b2i_b ((V 17 0 5 = 1 ∧ 0 ≤ fO (FDm (V 17 0) (V 21 0) p)) ∨ ∃ j, 0 ≤ j ∧ j < q ∧ V 17 0 5 = 1 ∧ DFm (V 17 0) (V 21 0) k j ∧ SMm (V 21 0) p j)
                rw [← ht] at htb
                refine z_iload E dX6_needs_38 rfl ?_
                refine z_iload_n E dX6_needs_40 3 rfl rfl ?_
                refine z_icmp_ge E 92 dX6_needs_41 rfl (by omega) (by omega) (fun c_19 => ?_) (fun c_19 => ?_)
                · skip
                  refine z_iload_n E dX6_needs_92 2 rfl rfl ?_
                  refine z_aload_n E dX6_needs_93 0 rfl rfl ?_
                  refine z_iload_n E dX6_needs_94 1 rfl rfl ?_
                  refine z_iload_n E dX6_needs_95 3 rfl rfl ?_
                  refine z_callV E (ci := 6) (N := 16) (C := RX6) (T := TX6) (n := 2) (st := [.int (iI m)]) (rfl : vl 16 0 = true) rfl rfl [.int (iI k), .int (iI p)] (kX6_differs l G P V k p hB (by omega) (by omega) hmL (by omega) (by omega) (by omega) (by omega)) gX6_needs_X6_differs rfl ⟨rfl, rfl⟩ (by decide +kernel) ⟨Nat.le_of_ble_eq_true rfl, Nat.le_of_ble_eq_true rfl⟩ rfl rfl (Nat.le_of_ble_eq_true rfl) rfl dX6_needs_96 (z_dtI ?_)
                  refine z_ifeq_b E 111 dX6_needs_99 rfl (fun c_21 => ?_) (fun c_21 => ?_)
                  · skip
                    refine z_iconst E dX6_needs_111 ?_
                    refine z_iadd E dX6_needs_112 ?_
                    refine z_istore_n E dX6_needs_113 2 rfl (L' := [some (.ref (ad G 16 0)), some (.int (iI k)), some (.int (iI (m + 0))), some (.int (iI p)), some (.int (iI t)), some (.int (iI q))]) (Nat.le_of_ble_eq_true rfl) rfl ?_
                    refine z_iinc E p dX6_needs_114 (L' := [some (.ref (ad G 16 0)), some (.int (iI k)), some (.int (iI (m + 0))), some (.int (iI (p + 1))), some (.int (iI t)), some (.int (iI q))]) (Nat.le_of_ble_eq_true rfl) rfl rfl ?_
                    refine z_goto E 4 dX6_needs_117 rfl ?_
                    refine Kz.drop 4 (L' := [some (.ref (ad G 16 0)), some (.int (iI k)), some (.int (iI (m + 0))), some (.int (iI (p + 1))), none, some (.int (iI q))]) rfl ?_
                    refine Kz.drop 5 (L' := [some (.ref (ad G 16 0)), some (.int (iI k)), some (.int (iI (m + 0))), some (.int (iI (p + 1))), none, none]) rfl ?_
                    exact ih_4 (m + 0) (p + 1) (by omega) (by omega) (by first | exact smb_t hs (by omega) ⟨by assumption, (tk_n ht (by assumption) (by omega))⟩ | exact smb_f hs (by omega) (fun z => absurd z.1 (by assumption)) | exact smb_f hs (by omega) (fun z => z.2 (tk_y ht (by assumption) (by omega)))) (by omega)
                  · skip
                    refine z_iload E dX6_needs_102 rfl ?_
                    refine z_if_ne E 111 dX6_needs_104 rfl (by omega) (fun c_22 => ?_) (fun c_22 => ?_)
                    · skip
                      refine z_iconst E dX6_needs_111 ?_
                      refine z_iadd E dX6_needs_112 ?_
                      refine z_istore_n E dX6_needs_113 2 rfl (L' := [some (.ref (ad G 16 0)), some (.int (iI k)), some (.int (iI (m + 0))), some (.int (iI p)), some (.int (iI t)), some (.int (iI q))]) (Nat.le_of_ble_eq_true rfl) rfl ?_
                      refine z_iinc E p dX6_needs_114 (L' := [some (.ref (ad G 16 0)), some (.int (iI k)), some (.int (iI (m + 0))), some (.int (iI (p + 1))), some (.int (iI t)), some (.int (iI q))]) (Nat.le_of_ble_eq_true rfl) rfl rfl ?_
                      refine z_goto E 4 dX6_needs_117 rfl ?_
                      refine Kz.drop 4 (L' := [some (.ref (ad G 16 0)), some (.int (iI k)), some (.int (iI (m + 0))), some (.int (iI (p + 1))), none, some (.int (iI q))]) rfl ?_
                      refine Kz.drop 5 (L' := [some (.ref (ad G 16 0)), some (.int (iI k)), some (.int (iI (m + 0))), some (.int (iI (p + 1))), none, none]) rfl ?_
                      exact ih_4 (m + 0) (p + 1) (by omega) (by omega) (by first | exact smb_t hs (by omega) ⟨by assumption, (tk_n ht (by assumption) (by omega))⟩ | exact smb_f hs (by omega) (fun z => absurd z.1 (by assumption)) | exact smb_f hs (by omega) (fun z => z.2 (tk_y ht (by assumption) (by omega)))) (by omega)
                    · skip
                      refine z_iconst E dX6_needs_107 ?_
                      refine z_goto E 112 dX6_needs_108 rfl ?_
                      refine z_iadd E dX6_needs_112 ?_
                      refine z_istore_n E dX6_needs_113 2 rfl (L' := [some (.ref (ad G 16 0)), some (.int (iI k)), some (.int (iI (m + 1))), some (.int (iI p)), some (.int (iI t)), some (.int (iI q))]) (Nat.le_of_ble_eq_true rfl) rfl ?_
                      refine z_iinc E p dX6_needs_114 (L' := [some (.ref (ad G 16 0)), some (.int (iI k)), some (.int (iI (m + 1))), some (.int (iI (p + 1))), some (.int (iI t)), some (.int (iI q))]) (Nat.le_of_ble_eq_true rfl) rfl rfl ?_
                      refine z_goto E 4 dX6_needs_117 rfl ?_
                      refine Kz.drop 4 (L' := [some (.ref (ad G 16 0)), some (.int (iI k)), some (.int (iI (m + 1))), some (.int (iI (p + 1))), none, some (.int (iI q))]) rfl ?_
                      refine Kz.drop 5 (L' := [some (.ref (ad G 16 0)), some (.int (iI k)), some (.int (iI (m + 1))), some (.int (iI (p + 1))), none, none]) rfl ?_
                      exact ih_4 (m + 1) (p + 1) (by omega) (by omega) (by first | exact smb_t hs (by omega) ⟨by assumption, (tk_n ht (by assumption) (by omega))⟩ | exact smb_f hs (by omega) (fun z => absurd z.1 (by assumption)) | exact smb_f hs (by omega) (fun z => z.2 (tk_y ht (by assumption) (by omega)))) (by omega)
                · skip
                  refine z_iload E dX6_needs_44 rfl ?_
                  refine z_if_ne E 79 dX6_needs_46 rfl (by omega) (fun c_23 => ?_) (fun c_23 => ?_)
                  · skip
                    refine z_iconst E dX6_needs_79 ?_
                    refine z_goto E 84 dX6_needs_80 rfl ?_
                    refine z_istore E dX6_needs_84 (L' := [some (.ref (ad G 16 0)), some (.int (iI k)), some (.int (iI m)), some (.int (iI p)), some (.int (iI 1)), some (.int (iI q))]) (Nat.le_of_ble_eq_true rfl) rfl ?_
                    refine z_iinc E q dX6_needs_86 (L' := [some (.ref (ad G 16 0)), some (.int (iI k)), some (.int (iI m)), some (.int (iI p)), some (.int (iI 1)), some (.int (iI (q + 1)))]) (Nat.le_of_ble_eq_true rfl) rfl rfl ?_
                    refine z_goto E 38 dX6_needs_89 rfl ?_
                    exact ih_38 1 (q + 1) (by omega) (by omega) (by first | exact tk_1a ht (by assumption) | exact tk_1p (by omega) ⟨by assumption, by assumption, by assumption⟩ | exact tk_0s ht (by assumption) (fun z => absurd z.1 (by assumption)) | exact tk_0s ht (by assumption) (fun z => absurd z.2.1 (by assumption)) | exact tk_0s ht (by assumption) (fun z => absurd z.2.2 (by assumption))) (by omega)
                  · skip
                    refine z_aload_n E dX6_needs_49 0 rfl rfl ?_
                    refine z_get E (ci := 6) (N := 16) (C := RX6) (T := TX6) (rfl : vl 16 0 = true) rfl rfl iX6 0 (by decide) rfl f0 rfl dX6_needs_50 ?_
                    refine z_iconst E dX6_needs_53 ?_
                    refine z_iald E (rfl : vl 17 0 = true) 498 rfl (by omega) (by omega) (by omega) dX6_needs_54 ?_
                    refine z_iconst E dX6_needs_55 ?_
                    refine z_icmp_ne E 83 dX6_needs_56 rfl (by omega) (by omega) (fun c_24 => ?_) (fun c_24 => ?_)
                    · skip
                      refine z_iconst E dX6_needs_83 ?_
                      refine z_istore E dX6_needs_84 (L' := [some (.ref (ad G 16 0)), some (.int (iI k)), some (.int (iI m)), some (.int (iI p)), some (.int (iI 0)), some (.int (iI q))]) (Nat.le_of_ble_eq_true rfl) rfl ?_
                      refine z_iinc E q dX6_needs_86 (L' := [some (.ref (ad G 16 0)), some (.int (iI k)), some (.int (iI m)), some (.int (iI p)), some (.int (iI 0)), some (.int (iI (q + 1)))]) (Nat.le_of_ble_eq_true rfl) rfl rfl ?_
                      refine z_goto E 38 dX6_needs_89 rfl ?_
                      exact ih_38 0 (q + 1) (by omega) (by omega) (by first | exact tk_1a ht (by assumption) | exact tk_1p (by omega) ⟨by assumption, by assumption, by assumption⟩ | exact tk_0s ht (by assumption) (fun z => absurd z.1 (by assumption)) | exact tk_0s ht (by assumption) (fun z => absurd z.2.1 (by assumption)) | exact tk_0s ht (by assumption) (fun z => absurd z.2.2 (by assumption))) (by omega)
                    · skip
                      refine z_aload_n E dX6_needs_59 0 rfl rfl ?_
                      refine z_iload_n E dX6_needs_60 1 rfl rfl ?_
                      refine z_iload E dX6_needs_61 rfl ?_
                      refine z_callV E (ci := 6) (N := 16) (C := RX6) (T := TX6) (n := 2) (st := []) (rfl : vl 16 0 = true) rfl rfl [.int (iI k), .int (iI q)] (kX6_differs l G P V k q hB (by omega) (by omega) hmL (by omega) (by omega) (by omega) (by omega)) gX6_needs_X6_differs rfl ⟨rfl, rfl⟩ (by decide +kernel) ⟨Nat.le_of_ble_eq_true rfl, Nat.le_of_ble_eq_true rfl⟩ rfl rfl (Nat.le_of_ble_eq_true rfl) rfl dX6_needs_63 (z_dtI ?_)
                      refine z_ifeq_b E 83 dX6_needs_66 rfl (fun c_26 => ?_) (fun c_26 => ?_)
                      · skip
                        refine z_iconst E dX6_needs_83 ?_
                        refine z_istore E dX6_needs_84 (L' := [some (.ref (ad G 16 0)), some (.int (iI k)), some (.int (iI m)), some (.int (iI p)), some (.int (iI 0)), some (.int (iI q))]) (Nat.le_of_ble_eq_true rfl) rfl ?_
                        refine z_iinc E q dX6_needs_86 (L' := [some (.ref (ad G 16 0)), some (.int (iI k)), some (.int (iI m)), some (.int (iI p)), some (.int (iI 0)), some (.int (iI (q + 1)))]) (Nat.le_of_ble_eq_true rfl) rfl rfl ?_
                        refine z_goto E 38 dX6_needs_89 rfl ?_
                        exact ih_38 0 (q + 1) (by omega) (by omega) (by first | exact tk_1a ht (by assumption) | exact tk_1p (by omega) ⟨by assumption, by assumption, by assumption⟩ | exact tk_0s ht (by assumption) (fun z => absurd z.1 (by assumption)) | exact tk_0s ht (by assumption) (fun z => absurd z.2.1 (by assumption)) | exact tk_0s ht (by assumption) (fun z => absurd z.2.2 (by assumption))) (by omega)
                      · skip
                        refine z_aload_n E dX6_needs_69 0 rfl rfl ?_
                        refine z_iload_n E dX6_needs_70 3 rfl rfl ?_
                        refine z_iload E dX6_needs_71 rfl ?_
                        refine z_callV E (ci := 6) (N := 16) (C := RX6) (T := TX6) (n := 2) (st := []) (rfl : vl 16 0 = true) rfl rfl [.int (iI p), .int (iI q)] (kX6_areSame l G P V p q hB (by omega) (by omega) (by omega) (by omega)) gX6_needs_X6_areSame rfl ⟨rfl, rfl⟩ (by decide +kernel) ⟨Nat.le_of_ble_eq_true rfl, Nat.le_of_ble_eq_true rfl⟩ rfl rfl (Nat.le_of_ble_eq_true rfl) rfl dX6_needs_73 (z_dtI ?_)
                        refine z_ifeq_b E 83 dX6_needs_76 rfl (fun c_28 => ?_) (fun c_28 => ?_)
                        · skip
                          refine z_iconst E dX6_needs_83 ?_
                          refine z_istore E dX6_needs_84 (L' := [some (.ref (ad G 16 0)), some (.int (iI k)), some (.int (iI m)), some (.int (iI p)), some (.int (iI 0)), some (.int (iI q))]) (Nat.le_of_ble_eq_true rfl) rfl ?_
                          refine z_iinc E q dX6_needs_86 (L' := [some (.ref (ad G 16 0)), some (.int (iI k)), some (.int (iI m)), some (.int (iI p)), some (.int (iI 0)), some (.int (iI (q + 1)))]) (Nat.le_of_ble_eq_true rfl) rfl rfl ?_
                          refine z_goto E 38 dX6_needs_89 rfl ?_
                          exact ih_38 0 (q + 1) (by omega) (by omega) (by first | exact tk_1a ht (by assumption) | exact tk_1p (by omega) ⟨by assumption, by assumption, by assumption⟩ | exact tk_0s ht (by assumption) (fun z => absurd z.1 (by assumption)) | exact tk_0s ht (by assumption) (fun z => absurd z.2.1 (by assumption)) | exact tk_0s ht (by assumption) (fun z => absurd z.2.2 (by assumption))) (by omega)
                        · skip
                          refine z_iconst E dX6_needs_79 ?_
                          refine z_goto E 84 dX6_needs_80 rfl ?_
                          refine z_istore E dX6_needs_84 (L' := [some (.ref (ad G 16 0)), some (.int (iI k)), some (.int (iI m)), some (.int (iI p)), some (.int (iI 1)), some (.int (iI q))]) (Nat.le_of_ble_eq_true rfl) rfl ?_
                          refine z_iinc E q dX6_needs_86 (L' := [some (.ref (ad G 16 0)), some (.int (iI k)), some (.int (iI m)), some (.int (iI p)), some (.int (iI 1)), some (.int (iI (q + 1)))]) (Nat.le_of_ble_eq_true rfl) rfl rfl ?_
                          refine z_goto E 38 dX6_needs_89 rfl ?_
                          exact ih_38 1 (q + 1) (by omega) (by omega) (by first | exact tk_1a ht (by assumption) | exact tk_1p (by omega) ⟨by assumption, by assumption, by assumption⟩ | exact tk_0s ht (by assumption) (fun z => absurd z.1 (by assumption)) | exact tk_0s ht (by assumption) (fun z => absurd z.2.1 (by assumption)) | exact tk_0s ht (by assumption) (fun z => absurd z.2.2 (by assumption))) (by omega)
            exact lp_38_18 ((p - 0 : Int).toNat + 1) 0 0 (by omega) (by omega) (by first | exact (b2i_t (Or.inl ⟨by assumption, by assumption⟩)).symm | exact (b2i_f (tk_0 (fun z => absurd z.1 (by assumption)))).symm | exact (b2i_f (tk_0 (fun z => absurd z.2 (by omega)))).symm) (Nat.lt_succ_self _)
          · skip
            refine z_iconst E dX6_needs_28 ?_
            refine z_goto E 33 dX6_needs_29 rfl ?_
            refine z_istore E dX6_needs_33 (L' := [some (.ref (ad G 16 0)), some (.int (iI k)), some (.int (iI m)), some (.int (iI p)), some (.int (iI 1)), none]) (Nat.le_of_ble_eq_true rfl) rfl ?_
            refine z_iconst E dX6_needs_35 ?_
            refine z_istore E dX6_needs_36 (L' := [some (.ref (ad G 16 0)), some (.int (iI k)), some (.int (iI m)), some (.int (iI p)), some (.int (iI 1)), some (.int (iI 0))]) (Nat.le_of_ble_eq_true rfl) rfl ?_
            have lp_38_29 : ∀ (fuel : Nat) (t : Int) (q : Int), (0 ≤ q) → (q ≤ p) → (t = b2i ((V 17 0 5 = 1 ∧ 0 ≤ fO (FDm (V 17 0) (V 21 0) p)) ∨ ∃ j, 0 ≤ j ∧ j < q ∧ V 17 0 5 = 1 ∧ DFm (V 17 0) (V 21 0) k j ∧ SMm (V 21 0) p j)) → (p - q : Int).toNat < fuel → Kz X G P V [some (.ref (ad G 16 0)), some (.int (iI k)), some (.int (iI m)), some (.int (iI p)), some (.int (iI t)), some (.int (iI q))] 38 [] := by
              intro fuel
              induction fuel with
              | zero => intro t q hq0 hq1 ht hf_38; exact absurd hf_38 (Nat.not_lt_zero _)
              | succ fuel ih_38 =>
                intro t q hq0 hq1 ht hf_38
                have htb := b2i_b ((V 17 0 5 = 1 ∧ 0 ≤ fO (FDm (V 17 0) (V 21 0) p)) ∨ ∃ j, 0 ≤ j ∧ j < q ∧ V 17 0 5 = 1 ∧ DFm (V 17 0) (V 21 0) k j ∧ SMm (V 21 0) p j)
                rw [← ht] at htb
                refine z_iload E dX6_needs_38 rfl ?_
                refine z_iload_n E dX6_needs_40 3 rfl rfl ?_
                refine z_icmp_ge E 92 dX6_needs_41 rfl (by omega) (by omega) (fun c_30 => ?_) (fun c_30 => ?_)
                · skip
                  refine z_iload_n E dX6_needs_92 2 rfl rfl ?_
                  refine z_aload_n E dX6_needs_93 0 rfl rfl ?_
                  refine z_iload_n E dX6_needs_94 1 rfl rfl ?_
                  refine z_iload_n E dX6_needs_95 3 rfl rfl ?_
                  refine z_callV E (ci := 6) (N := 16) (C := RX6) (T := TX6) (n := 2) (st := [.int (iI m)]) (rfl : vl 16 0 = true) rfl rfl [.int (iI k), .int (iI p)] (kX6_differs l G P V k p hB (by omega) (by omega) hmL (by omega) (by omega) (by omega) (by omega)) gX6_needs_X6_differs rfl ⟨rfl, rfl⟩ (by decide +kernel) ⟨Nat.le_of_ble_eq_true rfl, Nat.le_of_ble_eq_true rfl⟩ rfl rfl (Nat.le_of_ble_eq_true rfl) rfl dX6_needs_96 (z_dtI ?_)
                  refine z_ifeq_b E 111 dX6_needs_99 rfl (fun c_32 => ?_) (fun c_32 => ?_)
                  · skip
                    refine z_iconst E dX6_needs_111 ?_
                    refine z_iadd E dX6_needs_112 ?_
                    refine z_istore_n E dX6_needs_113 2 rfl (L' := [some (.ref (ad G 16 0)), some (.int (iI k)), some (.int (iI (m + 0))), some (.int (iI p)), some (.int (iI t)), some (.int (iI q))]) (Nat.le_of_ble_eq_true rfl) rfl ?_
                    refine z_iinc E p dX6_needs_114 (L' := [some (.ref (ad G 16 0)), some (.int (iI k)), some (.int (iI (m + 0))), some (.int (iI (p + 1))), some (.int (iI t)), some (.int (iI q))]) (Nat.le_of_ble_eq_true rfl) rfl rfl ?_
                    refine z_goto E 4 dX6_needs_117 rfl ?_
                    refine Kz.drop 4 (L' := [some (.ref (ad G 16 0)), some (.int (iI k)), some (.int (iI (m + 0))), some (.int (iI (p + 1))), none, some (.int (iI q))]) rfl ?_
                    refine Kz.drop 5 (L' := [some (.ref (ad G 16 0)), some (.int (iI k)), some (.int (iI (m + 0))), some (.int (iI (p + 1))), none, none]) rfl ?_
                    exact ih_4 (m + 0) (p + 1) (by omega) (by omega) (by first | exact smb_t hs (by omega) ⟨by assumption, (tk_n ht (by assumption) (by omega))⟩ | exact smb_f hs (by omega) (fun z => absurd z.1 (by assumption)) | exact smb_f hs (by omega) (fun z => z.2 (tk_y ht (by assumption) (by omega)))) (by omega)
                  · skip
                    refine z_iload E dX6_needs_102 rfl ?_
                    refine z_if_ne E 111 dX6_needs_104 rfl (by omega) (fun c_33 => ?_) (fun c_33 => ?_)
                    · skip
                      refine z_iconst E dX6_needs_111 ?_
                      refine z_iadd E dX6_needs_112 ?_
                      refine z_istore_n E dX6_needs_113 2 rfl (L' := [some (.ref (ad G 16 0)), some (.int (iI k)), some (.int (iI (m + 0))), some (.int (iI p)), some (.int (iI t)), some (.int (iI q))]) (Nat.le_of_ble_eq_true rfl) rfl ?_
                      refine z_iinc E p dX6_needs_114 (L' := [some (.ref (ad G 16 0)), some (.int (iI k)), some (.int (iI (m + 0))), some (.int (iI (p + 1))), some (.int (iI t)), some (.int (iI q))]) (Nat.le_of_ble_eq_true rfl) rfl rfl ?_
                      refine z_goto E 4 dX6_needs_117 rfl ?_
                      refine Kz.drop 4 (L' := [some (.ref (ad G 16 0)), some (.int (iI k)), some (.int (iI (m + 0))), some (.int (iI (p + 1))), none, some (.int (iI q))]) rfl ?_
                      refine Kz.drop 5 (L' := [some (.ref (ad G 16 0)), some (.int (iI k)), some (.int (iI (m + 0))), some (.int (iI (p + 1))), none, none]) rfl ?_
                      exact ih_4 (m + 0) (p + 1) (by omega) (by omega) (by first | exact smb_t hs (by omega) ⟨by assumption, (tk_n ht (by assumption) (by omega))⟩ | exact smb_f hs (by omega) (fun z => absurd z.1 (by assumption)) | exact smb_f hs (by omega) (fun z => z.2 (tk_y ht (by assumption) (by omega)))) (by omega)
                    · skip
                      refine z_iconst E dX6_needs_107 ?_
                      refine z_goto E 112 dX6_needs_108 rfl ?_
                      refine z_iadd E dX6_needs_112 ?_
                      refine z_istore_n E dX6_needs_113 2 rfl (L' := [some (.ref (ad G 16 0)), some (.int (iI k)), some (.int (iI (m + 1))), some (.int (iI p)), some (.int (iI t)), some (.int (iI q))]) (Nat.le_of_ble_eq_true rfl) rfl ?_
                      refine z_iinc E p dX6_needs_114 (L' := [some (.ref (ad G 16 0)), some (.int (iI k)), some (.int (iI (m + 1))), some (.int (iI (p + 1))), some (.int (iI t)), some (.int (iI q))]) (Nat.le_of_ble_eq_true rfl) rfl rfl ?_
                      refine z_goto E 4 dX6_needs_117 rfl ?_
                      refine Kz.drop 4 (L' := [some (.ref (ad G 16 0)), some (.int (iI k)), some (.int (iI (m + 1))), some (.int (iI (p + 1))), none, some (.int (iI q))]) rfl ?_
                      refine Kz.drop 5 (L' := [some (.ref (ad G 16 0)), some (.int (iI k)), some (.int (iI (m + 1))), some (.int (iI (p + 1))), none, none]) rfl ?_
                      exact ih_4 (m + 1) (p + 1) (by omega) (by omega) (by first | exact smb_t hs (by omega) ⟨by assumption, (tk_n ht (by assumption) (by omega))⟩ | exact smb_f hs (by omega) (fun z => absurd z.1 (by assumption)) | exact smb_f hs (by omega) (fun z => z.2 (tk_y ht (by assumption) (by omega)))) (by omega)
                · skip
                  refine z_iload E dX6_needs_44 rfl ?_
                  refine z_if_ne E 79 dX6_needs_46 rfl (by omega) (fun c_34 => ?_) (fun c_34 => ?_)
                  · skip
                    refine z_iconst E dX6_needs_79 ?_
                    refine z_goto E 84 dX6_needs_80 rfl ?_
                    refine z_istore E dX6_needs_84 (L' := [some (.ref (ad G 16 0)), some (.int (iI k)), some (.int (iI m)), some (.int (iI p)), some (.int (iI 1)), some (.int (iI q))]) (Nat.le_of_ble_eq_true rfl) rfl ?_
                    refine z_iinc E q dX6_needs_86 (L' := [some (.ref (ad G 16 0)), some (.int (iI k)), some (.int (iI m)), some (.int (iI p)), some (.int (iI 1)), some (.int (iI (q + 1)))]) (Nat.le_of_ble_eq_true rfl) rfl rfl ?_
                    refine z_goto E 38 dX6_needs_89 rfl ?_
                    exact ih_38 1 (q + 1) (by omega) (by omega) (by first | exact tk_1a ht (by assumption) | exact tk_1p (by omega) ⟨by assumption, by assumption, by assumption⟩ | exact tk_0s ht (by assumption) (fun z => absurd z.1 (by assumption)) | exact tk_0s ht (by assumption) (fun z => absurd z.2.1 (by assumption)) | exact tk_0s ht (by assumption) (fun z => absurd z.2.2 (by assumption))) (by omega)
                  · skip
                    refine z_aload_n E dX6_needs_49 0 rfl rfl ?_
                    refine z_get E (ci := 6) (N := 16) (C := RX6) (T := TX6) (rfl : vl 16 0 = true) rfl rfl iX6 0 (by decide) rfl f0 rfl dX6_needs_50 ?_
                    refine z_iconst E dX6_needs_53 ?_
                    refine z_iald E (rfl : vl 17 0 = true) 498 rfl (by omega) (by omega) (by omega) dX6_needs_54 ?_
                    refine z_iconst E dX6_needs_55 ?_
                    refine z_icmp_ne E 83 dX6_needs_56 rfl (by omega) (by omega) (fun c_35 => ?_) (fun c_35 => ?_)
                    · skip
                      refine z_iconst E dX6_needs_83 ?_
                      refine z_istore E dX6_needs_84 (L' := [some (.ref (ad G 16 0)), some (.int (iI k)), some (.int (iI m)), some (.int (iI p)), some (.int (iI 0)), some (.int (iI q))]) (Nat.le_of_ble_eq_true rfl) rfl ?_
                      refine z_iinc E q dX6_needs_86 (L' := [some (.ref (ad G 16 0)), some (.int (iI k)), some (.int (iI m)), some (.int (iI p)), some (.int (iI 0)), some (.int (iI (q + 1)))]) (Nat.le_of_ble_eq_true rfl) rfl rfl ?_
                      refine z_goto E 38 dX6_needs_89 rfl ?_
                      exact ih_38 0 (q + 1) (by omega) (by omega) (by first | exact tk_1a ht (by assumption) | exact tk_1p (by omega) ⟨by assumption, by assumption, by assumption⟩ | exact tk_0s ht (by assumption) (fun z => absurd z.1 (by assumption)) | exact tk_0s ht (by assumption) (fun z => absurd z.2.1 (by assumption)) | exact tk_0s ht (by assumption) (fun z => absurd z.2.2 (by assumption))) (by omega)
                    · skip
                      refine z_aload_n E dX6_needs_59 0 rfl rfl ?_
                      refine z_iload_n E dX6_needs_60 1 rfl rfl ?_
                      refine z_iload E dX6_needs_61 rfl ?_
                      refine z_callV E (ci := 6) (N := 16) (C := RX6) (T := TX6) (n := 2) (st := []) (rfl : vl 16 0 = true) rfl rfl [.int (iI k), .int (iI q)] (kX6_differs l G P V k q hB (by omega) (by omega) hmL (by omega) (by omega) (by omega) (by omega)) gX6_needs_X6_differs rfl ⟨rfl, rfl⟩ (by decide +kernel) ⟨Nat.le_of_ble_eq_true rfl, Nat.le_of_ble_eq_true rfl⟩ rfl rfl (Nat.le_of_ble_eq_true rfl) rfl dX6_needs_63 (z_dtI ?_)
                      refine z_ifeq_b E 83 dX6_needs_66 rfl (fun c_37 => ?_) (fun c_37 => ?_)
                      · skip
                        refine z_iconst E dX6_needs_83 ?_
                        refine z_istore E dX6_needs_84 (L' := [some (.ref (ad G 16 0)), some (.int (iI k)), some (.int (iI m)), some (.int (iI p)), some (.int (iI 0)), some (.int (iI q))]) (Nat.le_of_ble_eq_true rfl) rfl ?_
                        refine z_iinc E q dX6_needs_86 (L' := [some (.ref (ad G 16 0)), some (.int (iI k)), some (.int (iI m)), some (.int (iI p)), some (.int (iI 0)), some (.int (iI (q + 1)))]) (Nat.le_of_ble_eq_true rfl) rfl rfl ?_
                        refine z_goto E 38 dX6_needs_89 rfl ?_
                        exact ih_38 0 (q + 1) (by omega) (by omega) (by first | exact tk_1a ht (by assumption) | exact tk_1p (by omega) ⟨by assumption, by assumption, by assumption⟩ | exact tk_0s ht (by assumption) (fun z => absurd z.1 (by assumption)) | exact tk_0s ht (by assumption) (fun z => absurd z.2.1 (by assumption)) | exact tk_0s ht (by assumption) (fun z => absurd z.2.2 (by assumption))) (by omega)
                      · skip
                        refine z_aload_n E dX6_needs_69 0 rfl rfl ?_
                        refine z_iload_n E dX6_needs_70 3 rfl rfl ?_
                        refine z_iload E dX6_needs_71 rfl ?_
                        refine z_callV E (ci := 6) (N := 16) (C := RX6) (T := TX6) (n := 2) (st := []) (rfl : vl 16 0 = true) rfl rfl [.int (iI p), .int (iI q)] (kX6_areSame l G P V p q hB (by omega) (by omega) (by omega) (by omega)) gX6_needs_X6_areSame rfl ⟨rfl, rfl⟩ (by decide +kernel) ⟨Nat.le_of_ble_eq_true rfl, Nat.le_of_ble_eq_true rfl⟩ rfl rfl (Nat.le_of_ble_eq_true rfl) rfl dX6_needs_73 (z_dtI ?_)
                        refine z_ifeq_b E 83 dX6_needs_76 rfl (fun c_39 => ?_) (fun c_39 => ?_)
                        · skip
                          refine z_iconst E dX6_needs_83 ?_
                          refine z_istore E dX6_needs_84 (L' := [some (.ref (ad G 16 0)), some (.int (iI k)), some (.int (iI m)), some (.int (iI p)), some (.int (iI 0)), some (.int (iI q))]) (Nat.le_of_ble_eq_true rfl) rfl ?_
                          refine z_iinc E q dX6_needs_86 (L' := [some (.ref (ad G 16 0)), some (.int (iI k)), some (.int (iI m)), some (.int (iI p)), some (.int (iI 0)), some (.int (iI (q + 1)))]) (Nat.le_of_ble_eq_true rfl) rfl rfl ?_
                          refine z_goto E 38 dX6_needs_89 rfl ?_
                          exact ih_38 0 (q + 1) (by omega) (by omega) (by first | exact tk_1a ht (by assumption) | exact tk_1p (by omega) ⟨by assumption, by assumption, by assumption⟩ | exact tk_0s ht (by assumption) (fun z => absurd z.1 (by assumption)) | exact tk_0s ht (by assumption) (fun z => absurd z.2.1 (by assumption)) | exact tk_0s ht (by assumption) (fun z => absurd z.2.2 (by assumption))) (by omega)
                        · skip
                          refine z_iconst E dX6_needs_79 ?_
                          refine z_goto E 84 dX6_needs_80 rfl ?_
                          refine z_istore E dX6_needs_84 (L' := [some (.ref (ad G 16 0)), some (.int (iI k)), some (.int (iI m)), some (.int (iI p)), some (.int (iI 1)), some (.int (iI q))]) (Nat.le_of_ble_eq_true rfl) rfl ?_
                          refine z_iinc E q dX6_needs_86 (L' := [some (.ref (ad G 16 0)), some (.int (iI k)), some (.int (iI m)), some (.int (iI p)), some (.int (iI 1)), some (.int (iI (q + 1)))]) (Nat.le_of_ble_eq_true rfl) rfl rfl ?_
                          refine z_goto E 38 dX6_needs_89 rfl ?_
                          exact ih_38 1 (q + 1) (by omega) (by omega) (by first | exact tk_1a ht (by assumption) | exact tk_1p (by omega) ⟨by assumption, by assumption, by assumption⟩ | exact tk_0s ht (by assumption) (fun z => absurd z.1 (by assumption)) | exact tk_0s ht (by assumption) (fun z => absurd z.2.1 (by assumption)) | exact tk_0s ht (by assumption) (fun z => absurd z.2.2 (by assumption))) (by omega)
            exact lp_38_29 ((p - 0 : Int).toNat + 1) 1 0 (by omega) (by omega) (by first | exact (b2i_t (Or.inl ⟨by assumption, by assumption⟩)).symm | exact (b2i_f (tk_0 (fun z => absurd z.1 (by assumption)))).symm | exact (b2i_f (tk_0 (fun z => absurd z.2 (by omega)))).symm) (Nat.lt_succ_self _)
  exact lp_4_1 ((6 - 0 : Int).toNat + 1) 0 0 (by omega) (by omega) (sm_0 (by omega)).symm (Nat.lt_succ_self _)

set_option maxHeartbeats 4000000 in
set_option maxRecDepth 100000 in
theorem kX6_fits (l : Launch) (G : Gl) (P : Nat → Nat) (V : Vt) (b : Int) (hB : BV V) (hm0 : 0 ≤ V 17 0 0) (hm1 : V 17 0 0 ≤ 16) (hmL : ∀ k p, 0 ≤ k → k < 16 → 0 ≤ p → p < 6 → 0 ≤ mo (V 17 0) k (2 + p) ∧ mo (V 17 0) k (2 + p) < 40) (a1 : 0 ≤ b) (a2 : b < 4) (a3 : 0 ≤ mS (V 17 0) (mh (V 17 0) b)) (a4 : ∀ d, 0 ≤ d → d < 40 → mf (V 17 0) d = 0 ∨ mf (V 17 0) d = 1) : Met l yX6_fits wsX6_fits ({ frames := 4, cells := 0, slots := 0, locals := 93 }) (va_Pc [.ref (ad G 16 0), .int (iI b)] (Sg G P V)) (Qk G mkI (dt (b2i (V 17 0 0 < 16 ∧ sm 40 (fun b => mf (V 17 0) b) + NDm (V 17 0) (V 21 0) (mS (V 17 0) (mh (V 17 0) b)) ≤ 40)) P V)) 0 0 (mem G) := by
  refine z_met (cc := cX6_fits) (nL := 2) (ret := (some .boolean)) (own := RX6) (by decide +kernel) rfl rfl (Nat.le_of_ble_eq_true rfl) (zz_cat rfl) (L := [some (.ref (ad G 16 0)), some (.int (iI b))]) rfl ?_
  intro X E
  have iX6 : ∀ x ∈ wsX60, x ∈ wsX6_fits := by decide +kernel
  have f0 : Cond.fieldLink RX6 7 "SharedStatesModel" "s" "[I" ∈ wsX6_fits := by decide +kernel
  refine z_aload_n E dX6_fits_0 0 rfl rfl ?_
  refine z_get E (ci := 6) (N := 16) (C := RX6) (T := TX6) (rfl : vl 16 0 = true) rfl rfl iX6 0 (by decide) rfl f0 rfl dX6_fits_1 ?_
  refine z_iconst E dX6_fits_4 ?_
  refine z_iald E (rfl : vl 17 0 = true) 498 rfl (by omega) (by omega) (by omega) dX6_fits_5 ?_
  have hr_1 := hB.s 0 (by omega)
  refine z_bipush E dX6_fits_6 rfl ?_
  refine z_icmp_ge E 42 dX6_fits_8 rfl (by omega) (by omega) (fun c_2 => ?_) (fun c_2 => ?_)
  · skip
    refine z_iconst E dX6_fits_42 ?_
    exact z_zret E dX6_fits_43 (by first | decide | omega) (by first | exact ⟨(b2i_t (by omega)).symm, rfl, rfl⟩ | exact ⟨(b2i_f (by omega)).symm, rfl, rfl⟩)
  · skip
    refine z_aload_n E dX6_fits_11 0 rfl rfl ?_
    refine z_callV E (ci := 6) (N := 16) (C := RX6) (T := TX6) (n := 0) (st := []) (rfl : vl 16 0 = true) rfl rfl [] (kX6_blocks l G P V  hB) gX6_fits_X6_blocks rfl ⟨rfl, rfl⟩ (by decide +kernel) ⟨Nat.le_of_ble_eq_true rfl, Nat.le_of_ble_eq_true rfl⟩ rfl rfl (Nat.le_of_ble_eq_true rfl) rfl dX6_fits_12 (z_dtI ?_)
    have h_s := sm_bd (n := 40) (f := fun b => mf (V 17 0) b) 1 (by omega) (fun j j0 j1 => by have := a4 j j0 j1; omega)
    refine z_aload_n E dX6_fits_15 0 rfl rfl ?_
    refine z_aload_n E dX6_fits_16 0 rfl rfl ?_
    refine z_aload_n E dX6_fits_17 0 rfl rfl ?_
    refine z_get E (ci := 6) (N := 16) (C := RX6) (T := TX6) (rfl : vl 16 0 = true) rfl rfl iX6 0 (by decide) rfl f0 rfl dX6_fits_18 ?_
    refine z_bipush E dX6_fits_21 rfl ?_
    refine z_iload_n E dX6_fits_23 1 rfl rfl ?_
    refine z_iadd E dX6_fits_24 ?_
    refine z_iald E (rfl : vl 17 0 = true) 498 rfl (by omega) (by omega) (by omega) dX6_fits_25 ?_
    have hr_4 := hB.s (6 + b) (by omega)
    refine z_callV E (ci := 6) (N := 16) (C := RX6) (T := TX6) (n := 1) (st := [.ref (ad G 16 0), .int (iI (sm 40 (fun b => mf (V 17 0) b)))]) (rfl : vl 16 0 = true) rfl rfl [.int (iI (V 17 0 (6 + b)))] (kX6_slot l G P V (V 17 0 (6 + b)) hB (by omega) (by omega) (by omega)) gX6_fits_X6_slot rfl ⟨rfl, rfl⟩ (by decide +kernel) ⟨Nat.le_of_ble_eq_true rfl, Nat.le_of_ble_eq_true rfl⟩ rfl rfl (Nat.le_of_ble_eq_true rfl) rfl dX6_fits_26 (z_dtI ?_)
    have h_5a := mS_c (V 17 0) (V 17 0 (6 + b))
    have h_q : fO (mS (V 17 0) (V 17 0 (6 + b))) = mS (V 17 0) (mh (V 17 0) b) := by unfold mh at a3 ⊢; omega
    rw [h_q]
    have h_q2 : mS (V 17 0) (mh (V 17 0) b) < V 17 0 0 := by unfold mh at a3 ⊢; omega
    refine z_callV E (ci := 6) (N := 16) (C := RX6) (T := TX6) (n := 1) (st := [.int (iI (sm 40 (fun b => mf (V 17 0) b)))]) (rfl : vl 16 0 = true) rfl rfl [.int (iI (mS (V 17 0) (mh (V 17 0) b)))] (kX6_needs l G P V (mS (V 17 0) (mh (V 17 0) b)) hB (by omega) (by omega) hmL (by omega) (by omega)) gX6_fits_X6_needs rfl ⟨rfl, rfl⟩ (by decide +kernel) ⟨Nat.le_of_ble_eq_true rfl, Nat.le_of_ble_eq_true rfl⟩ rfl rfl (Nat.le_of_ble_eq_true rfl) rfl dX6_fits_29 (z_dtI ?_)
    have h_6a := sm_b2i_bd (n := 6) (p := fun p => DFm (V 17 0) (V 21 0) (mS (V 17 0) (mh (V 17 0) b)) p ∧ ¬ TKm (V 17 0) (V 21 0) (mS (V 17 0) (mh (V 17 0) b)) p) (by omega)
    have h_nd : 0 ≤ NDm (V 17 0) (V 21 0) (mS (V 17 0) (mh (V 17 0) b)) ∧ NDm (V 17 0) (V 21 0) (mS (V 17 0) (mh (V 17 0) b)) ≤ 6 := h_6a
    refine z_iadd E dX6_fits_32 ?_
    refine z_bipush E dX6_fits_33 rfl ?_
    refine z_icmp_gt E 42 dX6_fits_35 rfl (by omega) (by omega) (fun c_7 => ?_) (fun c_7 => ?_)
    · skip
      refine z_iconst E dX6_fits_42 ?_
      exact z_zret E dX6_fits_43 (by first | decide | omega) (by first | exact ⟨(b2i_t (by omega)).symm, rfl, rfl⟩ | exact ⟨(b2i_f (by omega)).symm, rfl, rfl⟩)
    · skip
      refine z_iconst E dX6_fits_38 ?_
      refine z_goto E 43 dX6_fits_39 rfl ?_
      exact z_zret E dX6_fits_43 (by first | decide | omega) (by first | exact ⟨(b2i_t (by omega)).symm, rfl, rfl⟩ | exact ⟨(b2i_f (by omega)).symm, rfl, rfl⟩)

set_option maxHeartbeats 4000000 in
set_option maxRecDepth 100000 in
theorem kX6_makesBlock (l : Launch) (G : Gl) (P : Nat → Nat) (V : Vt) (pl : Int) (hB : BV V) (a1 : 0 ≤ pl) (a2 : pl < 6) (hex : ∃ d, 0 ≤ d ∧ d < 40 ∧ ¬ mf (V 17 0) d = 1) : Met l yX6_makesBlock wsX6_makesBlock ({ frames := 0, cells := 0, slots := 0, locals := 0 }) (va_Pc [.ref (ad G 16 0), .int (iI pl)] (Sg G P V)) (Qk G mkI (fun r P' V' => P' = P ∧ BV V' ∧ 0 ≤ r ∧ r < 40 ∧ ¬ mf (V 17 0) r = 1 ∧ (∀ b, 0 ≤ b → b < r → mf (V 17 0) b = 1) ∧ V' = up V 17 0 (mkM (V 17 0) (V 21 0) r pl))) 0 0 (mem G) := by
  refine z_met (cc := cX6_makesBlock) (nL := 4) (ret := (some .int)) (own := RX6) (by decide +kernel) rfl rfl (Nat.le_of_ble_eq_true rfl) (zz_cat rfl) (L := [some (.ref (ad G 16 0)), some (.int (iI pl)), none, none]) rfl ?_
  intro X E
  have iX6 : ∀ x ∈ wsX60, x ∈ wsX6_makesBlock := by decide +kernel
  have f0 : Cond.fieldLink RX6 7 "SharedStatesModel" "s" "[I" ∈ wsX6_makesBlock := by decide +kernel
  have f1 : Cond.fieldLink RX6 22 "SharedStatesModel" "cells" "[I" ∈ wsX6_makesBlock := by decide +kernel
  refine z_iconst E dX6_makesBlock_0 ?_
  refine z_istore_n E dX6_makesBlock_1 2 rfl (L' := [some (.ref (ad G 16 0)), some (.int (iI pl)), some (.int (iI 0)), none]) (Nat.le_of_ble_eq_true rfl) rfl ?_
  have lp_2_1 : ∀ (fuel : Nat) (b : Int), (0 ≤ b) → (b < 40) → (∀ d, 0 ≤ d → d < b → mf (V 17 0) d = 1) → (40 - b : Int).toNat < fuel → Kz X G P V [some (.ref (ad G 16 0)), some (.int (iI pl)), some (.int (iI b)), none] 2 [] := by
    intro fuel
    induction fuel with
    | zero => intro b hb0 hb1 hla hf_2; exact absurd hf_2 (Nat.not_lt_zero _)
    | succ fuel ih_2 =>
      intro b hb0 hb1 hla hf_2
      refine z_aload_n E dX6_makesBlock_2 0 rfl rfl ?_
      refine z_get E (ci := 6) (N := 16) (C := RX6) (T := TX6) (rfl : vl 16 0 = true) rfl rfl iX6 0 (by decide) rfl f0 rfl dX6_makesBlock_3 ?_
      refine z_sipush E dX6_makesBlock_6 rfl ?_
      refine z_bipush E dX6_makesBlock_9 rfl ?_
      refine z_iload_n E dX6_makesBlock_11 2 rfl rfl ?_
      refine z_imul E dX6_makesBlock_12 ?_
      refine z_iadd E dX6_makesBlock_13 ?_
      refine z_iald E (rfl : vl 17 0 = true) 498 rfl (by omega) (by omega) (by omega) dX6_makesBlock_14 ?_
      have hr_2 := hB.s (138 + (9 * b)) (by omega)
      refine z_iconst E dX6_makesBlock_15 ?_
      refine z_icmp_ne E 25 dX6_makesBlock_16 rfl (by omega) (by omega) (fun c_3 => ?_) (fun c_3 => ?_)
      · skip
        refine z_aload_n E dX6_makesBlock_25 0 rfl rfl ?_
        refine z_get E (ci := 6) (N := 16) (C := RX6) (T := TX6) (rfl : vl 16 0 = true) rfl rfl iX6 0 (by decide) rfl f0 rfl dX6_makesBlock_26 ?_
        refine z_sipush E dX6_makesBlock_29 rfl ?_
        refine z_bipush E dX6_makesBlock_32 rfl ?_
        refine z_iload_n E dX6_makesBlock_34 2 rfl rfl ?_
        refine z_imul E dX6_makesBlock_35 ?_
        refine z_iadd E dX6_makesBlock_36 ?_
        refine z_iconst E dX6_makesBlock_37 ?_
        refine z_iast E (rfl : vl 17 0 = true) 498 (fun _ => rfl) (by omega) (by omega) (by omega) dX6_makesBlock_38 ?_
        obtain ⟨V4, hV4⟩ : ∃ Z : Vt, Z = up V 17 0 (updI (V 17 0) (138 + (9 * b)) 1) := ⟨_, rfl⟩
        rw [← hV4]
        have hB4 : BV V4 := hV4 ▸ BV_up hB (by intro _; omega)
        refine z_iconst E dX6_makesBlock_39 ?_
        refine z_istore_n E dX6_makesBlock_40 3 rfl (L' := [some (.ref (ad G 16 0)), some (.int (iI pl)), some (.int (iI b)), some (.int (iI 0))]) (Nat.le_of_ble_eq_true rfl) rfl ?_
        have lp_41_5 : ∀ (fuel : Nat) (c : Int) (Vl_41 : Vt), BV Vl_41 → (0 ≤ c) → (c ≤ 8) → (Vl_41 = up V 17 0 (cpI (V 21 0) (updI (V 17 0) (138 + 9 * b) 1) (8 * pl) (138 + 9 * b + 1) c)) → (8 - c : Int).toNat < fuel → Kz X G P Vl_41 [some (.ref (ad G 16 0)), some (.int (iI pl)), some (.int (iI b)), some (.int (iI c))] 41 [] := by
          intro fuel
          induction fuel with
          | zero => intro c Vl_41 hBl_41 hc0 hc1 hVl hf_41; exact absurd hf_41 (Nat.not_lt_zero _)
          | succ fuel ih_41 =>
            intro c Vl_41 hBl_41 hc0 hc1 hVl hf_41
            have g21 : Vl_41 21 0 = V 21 0 := by rw [hVl]; rfl
            refine z_iload_n E dX6_makesBlock_41 3 rfl rfl ?_
            refine z_bipush E dX6_makesBlock_42 rfl ?_
            refine z_icmp_ge E 81 dX6_makesBlock_44 rfl (by omega) (by omega) (fun c_6 => ?_) (fun c_6 => ?_)
            · skip
              refine z_aload_n E dX6_makesBlock_81 0 rfl rfl ?_
              refine z_get E (ci := 6) (N := 16) (C := RX6) (T := TX6) (rfl : vl 16 0 = true) rfl rfl iX6 0 (by decide) rfl f0 rfl dX6_makesBlock_82 ?_
              refine z_iconst E dX6_makesBlock_85 ?_
              refine z_dup2 E dX6_makesBlock_86 rfl rfl ?_
              refine z_iald E (rfl : vl 17 0 = true) 498 rfl (by omega) (by omega) (by omega) dX6_makesBlock_87 ?_
              refine z_iconst E dX6_makesBlock_88 ?_
              refine z_iadd E dX6_makesBlock_89 ?_
              refine z_iast E (rfl : vl 17 0 = true) 498 (fun _ => rfl) (by omega) (by omega) (by omega) dX6_makesBlock_90 ?_
              obtain ⟨V8, hV8⟩ : ∃ Z : Vt, Z = up Vl_41 17 0 (updI (Vl_41 17 0) 2 ((Vl_41 17 0 2) + 1)) := ⟨_, rfl⟩
              rw [← hV8]
              have hB8 : BV V8 := hV8 ▸ BV_up hBl_41 (fun hz => absurd (by simp [ctr]) hz)
              refine z_iload_n E dX6_makesBlock_91 2 rfl rfl ?_
              exact z_iret E dX6_makesBlock_92 (⟨rfl, hB8, by omega, by omega, by unfold mf; assumption, hla, by rw [hV8, hVl, show c = 8 by omega, upup, up_s]; unfold mkM; rw [mk_2 hb0]⟩)
            · skip
              refine z_aload_n E dX6_makesBlock_47 0 rfl rfl ?_
              refine z_get E (ci := 6) (N := 16) (C := RX6) (T := TX6) (rfl : vl 16 0 = true) rfl rfl iX6 0 (by decide) rfl f0 rfl dX6_makesBlock_48 ?_
              refine z_sipush E dX6_makesBlock_51 rfl ?_
              refine z_bipush E dX6_makesBlock_54 rfl ?_
              refine z_iload_n E dX6_makesBlock_56 2 rfl rfl ?_
              refine z_imul E dX6_makesBlock_57 ?_
              refine z_iadd E dX6_makesBlock_58 ?_
              refine z_iconst E dX6_makesBlock_59 ?_
              refine z_iadd E dX6_makesBlock_60 ?_
              refine z_iload_n E dX6_makesBlock_61 3 rfl rfl ?_
              refine z_iadd E dX6_makesBlock_62 ?_
              refine z_aload_n E dX6_makesBlock_63 0 rfl rfl ?_
              refine z_get E (ci := 6) (N := 16) (C := RX6) (T := TX6) (rfl : vl 16 0 = true) rfl rfl iX6 7 (by decide) rfl f1 rfl dX6_makesBlock_64 ?_
              refine z_bipush E dX6_makesBlock_67 rfl ?_
              refine z_iload_n E dX6_makesBlock_69 1 rfl rfl ?_
              refine z_imul E dX6_makesBlock_70 ?_
              refine z_iload_n E dX6_makesBlock_71 3 rfl rfl ?_
              refine z_iadd E dX6_makesBlock_72 ?_
              refine z_iald E (rfl : vl 21 0 = true) 48 rfl (by omega) (by omega) (by omega) dX6_makesBlock_73 ?_
              have hr_9 := hBl_41.g 21 0 ((8 * pl) + c) rfl
              refine z_iast E (rfl : vl 17 0 = true) 498 (fun _ => rfl) (by omega) (by omega) (by omega) dX6_makesBlock_74 ?_
              obtain ⟨V10, hV10⟩ : ∃ Z : Vt, Z = up Vl_41 17 0 (updI (Vl_41 17 0) (((138 + (9 * b)) + 1) + c) (Vl_41 21 0 ((8 * pl) + c))) := ⟨_, rfl⟩
              rw [← hV10]
              have hB10 : BV V10 := hV10 ▸ BV_up hBl_41 (by intro _; omega)
              refine z_iinc E c dX6_makesBlock_75 (L' := [some (.ref (ad G 16 0)), some (.int (iI pl)), some (.int (iI b)), some (.int (iI (c + 1)))]) (Nat.le_of_ble_eq_true rfl) rfl rfl ?_
              refine z_goto E 41 dX6_makesBlock_78 rfl ?_
              exact ih_41 (c + 1) V10 hB10 (by omega) (by omega) (by rw [hV10, g21, hVl, up_s, cpI_s hc0]; exact upup _ _ _ _ _) (by omega)
        exact lp_41_5 ((8 - 0 : Int).toNat + 1) 0 V4 hB4 (by omega) (by omega) (by rw [cpI_0]; exact hV4) (Nat.lt_succ_self _)
      · skip
        refine z_iinc E b dX6_makesBlock_19 (L' := [some (.ref (ad G 16 0)), some (.int (iI pl)), some (.int (iI (b + 1))), none]) (Nat.le_of_ble_eq_true rfl) rfl rfl ?_
        refine z_goto E 2 dX6_makesBlock_22 rfl ?_
        have hb40 : b + 1 < 40 := by
          obtain ⟨d, d0, d1, d2⟩ := hex
          rcases Int.lt_or_le d (b + 1) with q | q
          · exact absurd (all_s hla (by assumption) d d0 q) d2
          · omega
        exact ih_2 (b + 1) (by omega) (by omega) (all_s hla (by assumption)) (by omega)
  exact lp_2_1 ((40 - 0 : Int).toNat + 1) 0 (by omega) (by omega) all_0 (Nat.lt_succ_self _)
