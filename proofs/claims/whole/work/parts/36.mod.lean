set_option maxHeartbeats 4000000 in
set_option maxRecDepth 100000 in
theorem kX6_copies (l : Launch) (G : Gl) (P : Nat → Nat) (V : Vt) (ρ n : Nat) (σ m : Nat) (hB : BV V) (hρ : ρ = 17 ∧ σ = 19 ∨ ρ = 19 ∧ σ = 17 ∨ ρ = 17 ∧ σ = 23 ∨ ρ = 23 ∧ σ = 17) (hc : ∀ j, 0 ≤ j → j < 498 → ¬ ctr σ j → inR (V ρ 0 j)) : Met l yX6_copies wsX6_copies ({ frames := 0, cells := 0, slots := 0, locals := 0 }) (va_Pc [.ref (ad G ρ 0), .ref (ad G σ 0)] (Sg G P V)) (Qk G mkV (fun r P' V' => P' = P ∧ BV V' ∧ V' = up V σ 0 (cpI (V ρ 0) (V σ 0) 0 0 498))) 0 0 (mem G) := by
  refine z_met (cc := cX6_copies) (nL := 3) (ret := none) (own := RX6) (by decide +kernel) rfl rfl (Nat.le_of_ble_eq_true rfl) (zz_cat rfl) (L := [some (.ref (ad G ρ 0)), some (.ref (ad G σ 0)), none]) rfl ?_
  intro X E
  have vρ : vl ρ 0 = true := by rcases hρ with ⟨rfl, rfl⟩ | ⟨rfl, rfl⟩ | ⟨rfl, rfl⟩ | ⟨rfl, rfl⟩ <;> rfl
  have vσ : vl σ 0 = true := by rcases hρ with ⟨rfl, rfl⟩ | ⟨rfl, rfl⟩ | ⟨rfl, rfl⟩ | ⟨rfl, rfl⟩ <;> rfl
  have eρ : ∀ f : Int → Int, cE G P f ρ 0 = aE G 498 f := by rcases hρ with ⟨rfl, rfl⟩ | ⟨rfl, rfl⟩ | ⟨rfl, rfl⟩ | ⟨rfl, rfl⟩ <;> exact fun _ => rfl
  have eσ : ∀ f : Int → Int, cE G P f σ 0 = aE G 498 f := by rcases hρ with ⟨rfl, rfl⟩ | ⟨rfl, rfl⟩ | ⟨rfl, rfl⟩ | ⟨rfl, rfl⟩ <;> exact fun _ => rfl
  have zqne : ¬ (ρ = σ ∧ (0 : Nat) = 0) := by omega
  refine z_iconst E dX6_copies_0 ?_
  refine z_istore_n E dX6_copies_1 2 rfl (L' := [some (.ref (ad G ρ 0)), some (.ref (ad G σ 0)), some (.int (iI 0))]) (Nat.le_of_ble_eq_true rfl) rfl ?_
  have lp_2_1 : ∀ (fuel : Nat) (k : Int) (Vl_2 : Vt), BV Vl_2 → (0 ≤ k) → (k ≤ 498) → (Vl_2 = up V σ 0 (cpI (V ρ 0) (V σ 0) 0 0 k)) → (498 - k : Int).toNat < fuel → Kz X G P Vl_2 [some (.ref (ad G ρ 0)), some (.ref (ad G σ 0)), some (.int (iI k))] 2 [] := by
    intro fuel
    induction fuel with
    | zero => intro k Vl_2 hBl_2 hk0 hk1 hVl hf_2; exact absurd hf_2 (Nat.not_lt_zero _)
    | succ fuel ih_2 =>
      intro k Vl_2 hBl_2 hk0 hk1 hVl hf_2
      have zqr : Vl_2 ρ 0 = V ρ 0 := by rw [hVl, up_o zqne]
      refine z_iload_n E dX6_copies_2 2 rfl rfl ?_
      refine z_sipush E dX6_copies_3 rfl ?_
      refine z_icmp_ge E 21 dX6_copies_6 rfl (by omega) (by omega) (fun c_2 => ?_) (fun c_2 => ?_)
      · skip
        exact z_vret E dX6_copies_21 (⟨rfl, hBl_2, by rw [hVl, show k = 498 by omega]⟩)
      · skip
        refine z_aload_n E dX6_copies_9 1 rfl rfl ?_
        refine z_iload_n E dX6_copies_10 2 rfl rfl ?_
        refine z_aload_n E dX6_copies_11 0 rfl rfl ?_
        refine z_iload_n E dX6_copies_12 2 rfl rfl ?_
        refine z_iald E vρ 498 (eρ _) (by omega) (by omega) (by omega) dX6_copies_13 ?_
        refine z_iast E vσ 498 (fun _ => (eσ _)) (by omega) (by omega) (by omega) dX6_copies_14 ?_
        obtain ⟨V4, hV4⟩ : ∃ Z : Vt, Z = up Vl_2 σ 0 (updI (Vl_2 σ 0) k (Vl_2 ρ 0 k)) := ⟨_, rfl⟩
        rw [← hV4]
        have hB4 : BV V4 := hV4 ▸ BV_up hBl_2 (fun hz => by rw [zqr]; exact hc k (by omega) (by omega) hz)
        refine z_iinc E k dX6_copies_15 (L' := [some (.ref (ad G ρ 0)), some (.ref (ad G σ 0)), some (.int (iI (k + 1)))]) (Nat.le_of_ble_eq_true rfl) rfl rfl ?_
        refine z_goto E 2 dX6_copies_18 rfl ?_
        exact ih_2 (k + 1) V4 hB4 (by omega) (by omega) (by rw [hV4, zqr, hVl, up_s, cp_s hk0]; exact upup _ _ _ _ _) (by omega)
  exact lp_2_1 ((498 - 0 : Int).toNat + 1) 0 V hB (by omega) (by omega) (by rw [cpI_0]; exact up_self.symm) (Nat.lt_succ_self _)

set_option maxHeartbeats 4000000 in
set_option maxRecDepth 100000 in
theorem kX6_sweeps (l : Launch) (G : Gl) (P : Nat → Nat) (V : Vt) (hB : BV V) (hm0 : 0 ≤ V 17 0 0) (hm1 : V 17 0 0 ≤ 16) (hmL : ∀ k p, 0 ≤ k → k < 16 → 0 ≤ p → p < 6 → 0 ≤ mo (V 17 0) k (2 + p) ∧ mo (V 17 0) k (2 + p) < 40) : Met l yX6_sweeps wsX6_sweeps ({ frames := 2, cells := 0, slots := 0, locals := 46 }) (va_Pc [.ref (ad G 16 0)] (Sg G P V)) (Qk G mkI (fun r P' V' => P' = P ∧ BV V' ∧ r = sm 40 (fun b => b2i (mf (V 17 0) b = 1 ∧ pwM (V 17 0) b = 0)) ∧ V' = up V 17 0 (swS (V 17 0) 40))) 0 0 (mem G) := by
  refine z_met (cc := cX6_sweeps) (nL := 3) (ret := (some .int)) (own := RX6) (by decide +kernel) rfl rfl (Nat.le_of_ble_eq_true rfl) (zz_cat rfl) (L := [some (.ref (ad G 16 0)), none, none]) rfl ?_
  intro X E
  have iX6 : ∀ x ∈ wsX60, x ∈ wsX6_sweeps := by decide +kernel
  have f0 : Cond.fieldLink RX6 7 "SharedStatesModel" "s" "[I" ∈ wsX6_sweeps := by decide +kernel
  refine z_iconst E dX6_sweeps_0 ?_
  refine z_istore_n E dX6_sweeps_1 1 rfl (L' := [some (.ref (ad G 16 0)), some (.int (iI 0)), none]) (Nat.le_of_ble_eq_true rfl) rfl ?_
  refine z_iconst E dX6_sweeps_2 ?_
  refine z_istore_n E dX6_sweeps_3 2 rfl (L' := [some (.ref (ad G 16 0)), some (.int (iI 0)), some (.int (iI 0))]) (Nat.le_of_ble_eq_true rfl) rfl ?_
  have lp_4_1 : ∀ (fuel : Nat) (m : Int) (k : Int) (Vl_4 : Vt), BV Vl_4 → (0 ≤ k) → (k ≤ 40) → (m = sm k (fun b => b2i (mf (V 17 0) b = 1 ∧ pwM (V 17 0) b = 0))) → (Vl_4 = up V 17 0 (swS (V 17 0) k)) → (40 - k : Int).toNat < fuel → Kz X G P Vl_4 [some (.ref (ad G 16 0)), some (.int (iI m)), some (.int (iI k))] 4 [] := by
    intro fuel
    induction fuel with
    | zero => intro m k Vl_4 hBl_4 hk0 hk1 hs hVl hf_4; exact absurd hf_4 (Nat.not_lt_zero _)
    | succ fuel ih_4 =>
      intro m k Vl_4 hBl_4 hk0 hk1 hs hVl hf_4
      have zq17 : Vl_4 17 0 = swS (V 17 0) k := by rw [hVl, up_s]
      have zqo : ∀ j, 0 ≤ j → j < 138 → Vl_4 17 0 j = V 17 0 j := fun j h0 h1 => by rw [zq17, swS_o (by omega) (by omega)]
      have zq0 := zqo 0 (by omega) (by omega)
      have zqm0 : 0 ≤ Vl_4 17 0 0 := by omega
      have zqm1 : Vl_4 17 0 0 ≤ 16 := by omega
      have zqL : ∀ k p, 0 ≤ k → k < 16 → 0 ≤ p → p < 6 → 0 ≤ mo (Vl_4 17 0) k (2 + p) ∧ mo (Vl_4 17 0) k (2 + p) < 40 := fun k p h0 h1 h2 h3 => by
        have := hmL k p h0 h1 h2 h3
        unfold mo at this ⊢
        rw [zqo _ (by omega) (by omega)]; exact this
      have zqf : Vl_4 17 0 (138 + 9 * k) = mf (V 17 0) k := by rw [zq17, swS_k] <;> rfl
      have zqp : pwM (Vl_4 17 0) k = pwM (V 17 0) k := pwM_congr zqo zqm0 zqm1 k
      refine z_iload_n E dX6_sweeps_4 2 rfl rfl ?_
      refine z_bipush E dX6_sweeps_5 rfl ?_
      refine z_icmp_ge E 58 dX6_sweeps_7 rfl (by omega) (by omega) (fun c_2 => ?_) (fun c_2 => ?_)
      · skip
        refine z_iload_n E dX6_sweeps_58 1 rfl rfl ?_
        exact z_iret E dX6_sweeps_59 (⟨rfl, hBl_4, by rw [hs, show k = 40 by omega], by rw [hVl, show k = 40 by omega]⟩)
      · skip
        refine z_aload_n E dX6_sweeps_10 0 rfl rfl ?_
        refine z_get E (ci := 6) (N := 16) (C := RX6) (T := TX6) (rfl : vl 16 0 = true) rfl rfl iX6 0 (by decide) rfl f0 rfl dX6_sweeps_11 ?_
        refine z_sipush E dX6_sweeps_14 rfl ?_
        refine z_bipush E dX6_sweeps_17 rfl ?_
        refine z_iload_n E dX6_sweeps_19 2 rfl rfl ?_
        refine z_imul E dX6_sweeps_20 ?_
        refine z_iadd E dX6_sweeps_21 ?_
        refine z_iald E (rfl : vl 17 0 = true) 498 rfl (by omega) (by omega) (by omega) dX6_sweeps_22 ?_
        have hr_3 := hBl_4.s (138 + (9 * k)) (by omega)
        refine z_iconst E dX6_sweeps_23 ?_
        refine z_icmp_ne E 52 dX6_sweeps_24 rfl (by omega) (by omega) (fun c_4 => ?_) (fun c_4 => ?_)
        · skip
          refine z_iinc E k dX6_sweeps_52 (L' := [some (.ref (ad G 16 0)), some (.int (iI m)), some (.int (iI (k + 1)))]) (Nat.le_of_ble_eq_true rfl) rfl rfl ?_
          refine z_goto E 4 dX6_sweeps_55 rfl ?_
          exact ih_4 m (k + 1) Vl_4 hBl_4 (by omega) (by omega) (by first | exact smb_t hs (by omega) ⟨by omega, by omega⟩ | exact smb_f0 hs (by omega) (fun z => absurd z.1 (by omega)) | exact smb_f0 hs (by omega) (fun z => absurd z.2 (by omega))) (by first | (rw [hVl, up_s, swS_t hk0 (by omega) (by omega)]; exact upup _ _ _ _ _) | (rw [← swS_f (fun z => absurd z.1 (by omega))]; exact hVl) | (rw [← swS_f (fun z => absurd z.2 (by omega))]; exact hVl)) (by omega)
        · skip
          refine z_aload_n E dX6_sweeps_27 0 rfl rfl ?_
          refine z_iload_n E dX6_sweeps_28 2 rfl rfl ?_
          refine z_callV E (ci := 6) (N := 16) (C := RX6) (T := TX6) (n := 1) (st := []) (rfl : vl 16 0 = true) rfl rfl [.int (iI k)] (kX6_placesWith l G P Vl_4 k hBl_4 (by omega) (by omega) zqL (by omega)) gX6_sweeps_X6_placesWith rfl ⟨rfl, rfl⟩ (by decide +kernel) ⟨Nat.le_of_ble_eq_true rfl, Nat.le_of_ble_eq_true rfl⟩ rfl rfl (Nat.le_of_ble_eq_true rfl) rfl dX6_sweeps_29 (z_dtI ?_)
          have h_5a := pwM_bd (Vl_4 17 0) k (by omega) (by omega)
          refine z_if_ne E 52 dX6_sweeps_32 rfl (by omega) (fun c_6 => ?_) (fun c_6 => ?_)
          · skip
            refine z_iinc E k dX6_sweeps_52 (L' := [some (.ref (ad G 16 0)), some (.int (iI m)), some (.int (iI (k + 1)))]) (Nat.le_of_ble_eq_true rfl) rfl rfl ?_
            refine z_goto E 4 dX6_sweeps_55 rfl ?_
            exact ih_4 m (k + 1) Vl_4 hBl_4 (by omega) (by omega) (by first | exact smb_t hs (by omega) ⟨by omega, by omega⟩ | exact smb_f0 hs (by omega) (fun z => absurd z.1 (by omega)) | exact smb_f0 hs (by omega) (fun z => absurd z.2 (by omega))) (by first | (rw [hVl, up_s, swS_t hk0 (by omega) (by omega)]; exact upup _ _ _ _ _) | (rw [← swS_f (fun z => absurd z.1 (by omega))]; exact hVl) | (rw [← swS_f (fun z => absurd z.2 (by omega))]; exact hVl)) (by omega)
          · skip
            refine z_aload_n E dX6_sweeps_35 0 rfl rfl ?_
            refine z_get E (ci := 6) (N := 16) (C := RX6) (T := TX6) (rfl : vl 16 0 = true) rfl rfl iX6 0 (by decide) rfl f0 rfl dX6_sweeps_36 ?_
            refine z_sipush E dX6_sweeps_39 rfl ?_
            refine z_bipush E dX6_sweeps_42 rfl ?_
            refine z_iload_n E dX6_sweeps_44 2 rfl rfl ?_
            refine z_imul E dX6_sweeps_45 ?_
            refine z_iadd E dX6_sweeps_46 ?_
            refine z_iconst E dX6_sweeps_47 ?_
            refine z_iast E (rfl : vl 17 0 = true) 498 (fun _ => rfl) (by omega) (by omega) (by omega) dX6_sweeps_48 ?_
            obtain ⟨V7, hV7⟩ : ∃ Z : Vt, Z = up Vl_4 17 0 (updI (Vl_4 17 0) (138 + (9 * k)) 0) := ⟨_, rfl⟩
            rw [← hV7]
            have hB7 : BV V7 := hV7 ▸ BV_up hBl_4 (by intro _; omega)
            refine z_iinc E m dX6_sweeps_49 (L' := [some (.ref (ad G 16 0)), some (.int (iI (m + 1))), some (.int (iI k))]) (Nat.le_of_ble_eq_true rfl) rfl rfl ?_
            refine z_iinc E k dX6_sweeps_52 (L' := [some (.ref (ad G 16 0)), some (.int (iI (m + 1))), some (.int (iI (k + 1)))]) (Nat.le_of_ble_eq_true rfl) rfl rfl ?_
            refine z_goto E 4 dX6_sweeps_55 rfl ?_
            exact ih_4 (m + 1) (k + 1) V7 hB7 (by omega) (by omega) (by first | exact smb_t hs (by omega) ⟨by omega, by omega⟩ | exact smb_f0 hs (by omega) (fun z => absurd z.1 (by omega)) | exact smb_f0 hs (by omega) (fun z => absurd z.2 (by omega))) (by first | (rw [hV7, hVl, up_s, swS_t hk0 (by omega) (by omega)]; exact upup _ _ _ _ _) | (rw [← swS_f (fun z => absurd z.1 (by omega))]; exact hVl) | (rw [← swS_f (fun z => absurd z.2 (by omega))]; exact hVl)) (by omega)
  exact lp_4_1 ((40 - 0 : Int).toNat + 1) 0 0 V hB (by omega) (by omega) (sm_0 (by omega)).symm (by rw [swS_0]; exact up_self.symm) (Nat.lt_succ_self _)

set_option maxHeartbeats 4000000 in
set_option maxRecDepth 100000 in
theorem kX6_forgets (l : Launch) (G : Gl) (P : Nat → Nat) (V : Vt) (x : Int) (hB : BV V) (hm0 : 0 ≤ V 17 0 0) (hm1 : V 17 0 0 ≤ 16) (hmL : ∀ k p, 0 ≤ k → k < 16 → 0 ≤ p → p < 6 → 0 ≤ mo (V 17 0) k (2 + p) ∧ mo (V 17 0) k (2 + p) < 40) (a1 : inR x) (a2 : 0 ≤ mS (V 17 0) x) : Met l yX6_forgets wsX6_forgets ({ frames := 3, cells := 0, slots := 0, locals := 68 }) (va_Pc [.ref (ad G 16 0), .int (iI x)] (Sg G P V)) (Qk G mkI (fun r P' V' => P' = P ∧ BV V' ∧ r = sm 40 (fun b => b2i (mf (fgM (V 17 0) x (mo (V 17 0) (mS (V 17 0) x) 1) (mS (V 17 0) x) (V 17 0 0)) b = 1 ∧ pwM (fgM (V 17 0) x (mo (V 17 0) (mS (V 17 0) x) 1) (mS (V 17 0) x) (V 17 0 0)) b = 0)) ∧ V' = up V 17 0 (swS (fgM (V 17 0) x (mo (V 17 0) (mS (V 17 0) x) 1) (mS (V 17 0) x) (V 17 0 0)) 40))) 0 0 (mem G) := by
  refine z_met (cc := cX6_forgets) (nL := 5) (ret := (some .int)) (own := RX6) (by decide +kernel) rfl rfl (Nat.le_of_ble_eq_true rfl) (zz_cat rfl) (L := [some (.ref (ad G 16 0)), some (.int (iI x)), none, none, none]) rfl ?_
  intro X E
  have iX6 : ∀ x ∈ wsX60, x ∈ wsX6_forgets := by decide +kernel
  have f0 : Cond.fieldLink RX6 7 "SharedStatesModel" "s" "[I" ∈ wsX6_forgets := by decide +kernel
  refine z_aload_n E dX6_forgets_0 0 rfl rfl ?_
  refine z_iload_n E dX6_forgets_1 1 rfl rfl ?_
  refine z_callV E (ci := 6) (N := 16) (C := RX6) (T := TX6) (n := 1) (st := []) (rfl : vl 16 0 = true) rfl rfl [.int (iI x)] (kX6_slot l G P V x hB (by omega) (by omega) (by omega)) gX6_forgets_X6_slot rfl ⟨rfl, rfl⟩ (by decide +kernel) ⟨Nat.le_of_ble_eq_true rfl, Nat.le_of_ble_eq_true rfl⟩ rfl rfl (Nat.le_of_ble_eq_true rfl) rfl dX6_forgets_2 (z_dtI ?_)
  have h_1a := mS_c (V 17 0) x
  rw [show fO (mS (V 17 0) x) = mS (V 17 0) x by omega]
  refine z_istore_n E dX6_forgets_5 2 rfl (L' := [some (.ref (ad G 16 0)), some (.int (iI x)), some (.int (iI (mS (V 17 0) x))), none, none]) (Nat.le_of_ble_eq_true rfl) rfl ?_
  refine z_aload_n E dX6_forgets_6 0 rfl rfl ?_
  refine z_iload_n E dX6_forgets_7 2 rfl rfl ?_
  refine z_iconst E dX6_forgets_8 ?_
  refine z_callV E (ci := 6) (N := 16) (C := RX6) (T := TX6) (n := 2) (st := []) (rfl : vl 16 0 = true) rfl rfl [.int (iI (mS (V 17 0) x)), .int (iI 1)] (kX6_of l G P V (mS (V 17 0) x) 1 hB (by omega) (by omega) (by omega) (by omega)) gX6_forgets_X6_of rfl ⟨rfl, rfl⟩ (by decide +kernel) ⟨Nat.le_of_ble_eq_true rfl, Nat.le_of_ble_eq_true rfl⟩ rfl rfl (Nat.le_of_ble_eq_true rfl) rfl dX6_forgets_9 (z_dtI ?_)
  have h_2a := mo_R hB (mS (V 17 0) x) 1 (by omega) (by omega)
  refine z_istore_n E dX6_forgets_12 3 rfl (L' := [some (.ref (ad G 16 0)), some (.int (iI x)), some (.int (iI (mS (V 17 0) x))), some (.int (iI (mo (V 17 0) (mS (V 17 0) x) 1))), none]) (Nat.le_of_ble_eq_true rfl) rfl ?_
  refine z_iconst E dX6_forgets_13 ?_
  refine z_istore E dX6_forgets_14 (L' := [some (.ref (ad G 16 0)), some (.int (iI x)), some (.int (iI (mS (V 17 0) x))), some (.int (iI (mo (V 17 0) (mS (V 17 0) x) 1))), some (.int (iI 0))]) (Nat.le_of_ble_eq_true rfl) rfl ?_
  have lp_16_3 : ∀ (fuel : Nat) (k : Int) (Vl_16 : Vt), BV Vl_16 → (0 ≤ k) → (k ≤ V 17 0 0) → (Vl_16 = up V 17 0 (fgP (V 17 0) x (mo (V 17 0) (mS (V 17 0) x) 1) k)) → (V 17 0 0 - k : Int).toNat < fuel → Kz X G P Vl_16 [some (.ref (ad G 16 0)), some (.int (iI x)), some (.int (iI (mS (V 17 0) x))), some (.int (iI (mo (V 17 0) (mS (V 17 0) x) 1))), some (.int (iI k))] 16 [] := by
    intro fuel
    induction fuel with
    | zero => intro k Vl_16 hBl_16 hk0 hk1 hVl hf_16; exact absurd hf_16 (Nat.not_lt_zero _)
    | succ fuel ih_16 =>
      intro k Vl_16 hBl_16 hk0 hk1 hVl hf_16
      have zqP : Vl_16 17 0 = fgP (V 17 0) x (mo (V 17 0) (mS (V 17 0) x) 1) k := by rw [hVl, up_s]
      have zq0 : Vl_16 17 0 0 = V 17 0 0 := by rw [zqP, fgP_n (by omega)]
      have zqo : mo (Vl_16 17 0) k 1 = mo (V 17 0) k 1 := by unfold mo; rw [zqP]; exact fgP_k (by omega)
      refine z_iload E dX6_forgets_16 rfl ?_
      refine z_aload_n E dX6_forgets_18 0 rfl rfl ?_
      refine z_get E (ci := 6) (N := 16) (C := RX6) (T := TX6) (rfl : vl 16 0 = true) rfl rfl iX6 0 (by decide) rfl f0 rfl dX6_forgets_19 ?_
      refine z_iconst E dX6_forgets_22 ?_
      refine z_iald E (rfl : vl 17 0 = true) 498 rfl (by omega) (by omega) (by omega) dX6_forgets_23 ?_
      have hr_4 := hBl_16.s 0 (by omega)
      refine z_icmp_ge E 70 dX6_forgets_24 rfl (by omega) (by omega) (fun c_5 => ?_) (fun c_5 => ?_)
      · skip
        refine z_aload_n E dX6_forgets_70 0 rfl rfl ?_
        refine z_get E (ci := 6) (N := 16) (C := RX6) (T := TX6) (rfl : vl 16 0 = true) rfl rfl iX6 0 (by decide) rfl f0 rfl dX6_forgets_71 ?_
        refine z_iconst E dX6_forgets_74 ?_
        refine z_dup2 E dX6_forgets_75 rfl rfl ?_
        refine z_iald E (rfl : vl 17 0 = true) 498 rfl (by omega) (by omega) (by omega) dX6_forgets_76 ?_
        refine z_iconst E dX6_forgets_77 ?_
        refine z_isub E dX6_forgets_78 ?_
        refine z_iast E (rfl : vl 17 0 = true) 498 (fun _ => rfl) (by omega) (by omega) (by omega) dX6_forgets_79 ?_
        obtain ⟨V6, hV6⟩ : ∃ Z : Vt, Z = up Vl_16 17 0 (updI (Vl_16 17 0) 0 ((Vl_16 17 0 0) - 1)) := ⟨_, rfl⟩
        rw [← hV6]
        have hB6 : BV V6 := hV6 ▸ BV_up hBl_16 (by intro _; omega)
        have zqk : k = V 17 0 0 := by omega
        have zqu : V6 17 0 = (updI (fgP (V 17 0) x (mo (V 17 0) (mS (V 17 0) x) 1) (V 17 0 0)) 0 (V 17 0 0 - 1)) := by rw [hV6, up_s, zq0, zqP, zqk]
        have zqw : V6 = up V 17 0 (V6 17 0) := by
          rw [hV6, up_s, hVl]; exact upup _ _ _ _ _
        refine z_bipush E dX6_forgets_80 rfl ?_
        refine z_bipush E dX6_forgets_82 rfl ?_
        refine z_iload_n E dX6_forgets_84 2 rfl rfl ?_
        refine z_imul E dX6_forgets_85 ?_
        refine z_iadd E dX6_forgets_86 ?_
        refine z_istore E dX6_forgets_87 (L' := [some (.ref (ad G 16 0)), some (.int (iI x)), some (.int (iI (mS (V 17 0) x))), some (.int (iI (mo (V 17 0) (mS (V 17 0) x) 1))), some (.int (iI (10 + (8 * (mS (V 17 0) x)))))]) (Nat.le_of_ble_eq_true rfl) rfl ?_
        have lp_89_7 : ∀ (fuel : Nat) (i : Int) (Vl_89 : Vt), BV Vl_89 → (10 + 8 * (mS (V 17 0) x) ≤ i) → (i ≤ 10 + 8 * (V 17 0 0 - 1)) → (Vl_89 = up V 17 0 (cpI (updI (fgP (V 17 0) x (mo (V 17 0) (mS (V 17 0) x) 1) (V 17 0 0)) 0 (V 17 0 0 - 1)) (updI (fgP (V 17 0) x (mo (V 17 0) (mS (V 17 0) x) 1) (V 17 0 0)) 0 (V 17 0 0 - 1)) (10 + 8 * (mS (V 17 0) x) + 8) (10 + 8 * (mS (V 17 0) x)) (i - (10 + 8 * (mS (V 17 0) x))))) → (10 + 8 * (V 17 0 0 - 1) - i : Int).toNat < fuel → Kz X G P Vl_89 [some (.ref (ad G 16 0)), some (.int (iI x)), some (.int (iI (mS (V 17 0) x))), some (.int (iI (mo (V 17 0) (mS (V 17 0) x) 1))), some (.int (iI i))] 89 [] := by
          intro fuel
          induction fuel with
          | zero => intro i Vl_89 hBl_89 hi0 hi1 hVm hf_89; exact absurd hf_89 (Nat.not_lt_zero _)
          | succ fuel ih_89 =>
            intro i Vl_89 hBl_89 hi0 hi1 hVm hf_89
            have zqv : Vl_89 17 0 = cpI (updI (fgP (V 17 0) x (mo (V 17 0) (mS (V 17 0) x) 1) (V 17 0 0)) 0 (V 17 0 0 - 1)) (updI (fgP (V 17 0) x (mo (V 17 0) (mS (V 17 0) x) 1) (V 17 0 0)) 0 (V 17 0 0 - 1)) (10 + 8 * (mS (V 17 0) x) + 8) (10 + 8 * (mS (V 17 0) x)) (i - (10 + 8 * (mS (V 17 0) x))) := by rw [hVm, up_s]
            have zq0b : Vl_89 17 0 0 = V 17 0 0 - 1 := by rw [zqv]; unfold cpI; rw [if_neg (by omega)]; exact if_pos rfl
            refine z_iload E dX6_forgets_89 rfl ?_
            refine z_bipush E dX6_forgets_91 rfl ?_
            refine z_bipush E dX6_forgets_93 rfl ?_
            refine z_aload_n E dX6_forgets_95 0 rfl rfl ?_
            refine z_get E (ci := 6) (N := 16) (C := RX6) (T := TX6) (rfl : vl 16 0 = true) rfl rfl iX6 0 (by decide) rfl f0 rfl dX6_forgets_96 ?_
            refine z_iconst E dX6_forgets_99 ?_
            refine z_iald E (rfl : vl 17 0 = true) 498 rfl (by omega) (by omega) (by omega) dX6_forgets_100 ?_
            have hr_8 := hBl_89.s 0 (by omega)
            refine z_imul E dX6_forgets_101 ?_
            refine z_iadd E dX6_forgets_102 ?_
            refine z_icmp_ge E 129 dX6_forgets_103 rfl (by omega) (by omega) (fun c_9 => ?_) (fun c_9 => ?_)
            · skip
              have zqM : Vl_89 17 0 = (fgM (V 17 0) x (mo (V 17 0) (mS (V 17 0) x) 1) (mS (V 17 0) x) (V 17 0 0)) := by rw [zqv, show i - (10 + 8 * (mS (V 17 0) x)) = 8 * (V 17 0 0 - 1) - 8 * (mS (V 17 0) x) by omega] <;> rfl
              have zqL : ∀ k p, 0 ≤ k → k < 16 → 0 ≤ p → p < 6 → 0 ≤ mo (Vl_89 17 0) k (2 + p) ∧ mo (Vl_89 17 0) k (2 + p) < 40 := by rw [zqM]; exact fgM_L hmL (by omega) hm1
              refine z_aload_n E dX6_forgets_129 0 rfl rfl ?_
              refine z_callV E (ci := 6) (N := 16) (C := RX6) (T := TX6) (n := 0) (st := []) (rfl : vl 16 0 = true) rfl rfl [] (kX6_sweeps l G P Vl_89  hBl_89 (by omega) (by omega) zqL) gX6_forgets_X6_sweeps rfl ⟨rfl, rfl⟩ (by decide +kernel) ⟨Nat.le_of_ble_eq_true rfl, Nat.le_of_ble_eq_true rfl⟩ rfl rfl (Nat.le_of_ble_eq_true rfl) rfl dX6_forgets_130 (z_exI (fun r_10 P_10 V_10 h_10 => ?_))
              obtain ⟨hP_10, hB_10, h_10⟩ := h_10
              rw [hP_10]
              obtain ⟨zqr, zqs⟩ := h_10
              rw [zqM] at zqr zqs
              exact z_iret E dX6_forgets_133 (⟨rfl, hB_10, zqr, by rw [zqs, hVm]; exact upup _ _ _ _ _⟩)
            · skip
              refine z_aload_n E dX6_forgets_106 0 rfl rfl ?_
              refine z_get E (ci := 6) (N := 16) (C := RX6) (T := TX6) (rfl : vl 16 0 = true) rfl rfl iX6 0 (by decide) rfl f0 rfl dX6_forgets_107 ?_
              refine z_iload E dX6_forgets_110 rfl ?_
              refine z_aload_n E dX6_forgets_112 0 rfl rfl ?_
              refine z_get E (ci := 6) (N := 16) (C := RX6) (T := TX6) (rfl : vl 16 0 = true) rfl rfl iX6 0 (by decide) rfl f0 rfl dX6_forgets_113 ?_
              refine z_iload E dX6_forgets_116 rfl ?_
              refine z_bipush E dX6_forgets_118 rfl ?_
              refine z_iadd E dX6_forgets_120 ?_
              refine z_iald E (rfl : vl 17 0 = true) 498 rfl (by omega) (by omega) (by omega) dX6_forgets_121 ?_
              have hr_11 := hBl_89.s (i + 8) (by omega)
              refine z_iast E (rfl : vl 17 0 = true) 498 (fun _ => rfl) (by omega) (by omega) (by omega) dX6_forgets_122 ?_
              obtain ⟨V12, hV12⟩ : ∃ Z : Vt, Z = up Vl_89 17 0 (updI (Vl_89 17 0) i (Vl_89 17 0 (i + 8))) := ⟨_, rfl⟩
              rw [← hV12]
              have hB12 : BV V12 := hV12 ▸ BV_up hBl_89 (by intro _; omega)
              refine z_iinc E i dX6_forgets_123 (L' := [some (.ref (ad G 16 0)), some (.int (iI x)), some (.int (iI (mS (V 17 0) x))), some (.int (iI (mo (V 17 0) (mS (V 17 0) x) 1))), some (.int (iI (i + 1)))]) (Nat.le_of_ble_eq_true rfl) rfl rfl ?_
              refine z_goto E 89 dX6_forgets_126 rfl ?_
              exact ih_89 (i + 1) V12 hB12 (by omega) (by omega) (by rw [hV12, hVm, up_s, fg_s hi0]; exact upup _ _ _ _ _) (by omega)
        exact lp_89_7 ((10 + 8 * (V 17 0 0 - 1) - (10 + (8 * (mS (V 17 0) x))) : Int).toNat + 1) (10 + (8 * (mS (V 17 0) x))) V6 hB6 (by omega) (by omega) (by rw [Int.sub_self, cpI_0, ← zqu]; exact zqw) (Nat.lt_succ_self _)
      · skip
        refine z_aload_n E dX6_forgets_27 0 rfl rfl ?_
        refine z_get E (ci := 6) (N := 16) (C := RX6) (T := TX6) (rfl : vl 16 0 = true) rfl rfl iX6 0 (by decide) rfl f0 rfl dX6_forgets_28 ?_
        refine z_bipush E dX6_forgets_31 rfl ?_
        refine z_bipush E dX6_forgets_33 rfl ?_
        refine z_iload E dX6_forgets_35 rfl ?_
        refine z_imul E dX6_forgets_37 ?_
        refine z_iadd E dX6_forgets_38 ?_
        refine z_iconst E dX6_forgets_39 ?_
        refine z_iadd E dX6_forgets_40 ?_
        refine z_aload_n E dX6_forgets_41 0 rfl rfl ?_
        refine z_iload E dX6_forgets_42 rfl ?_
        refine z_iconst E dX6_forgets_44 ?_
        refine z_callV E (ci := 6) (N := 16) (C := RX6) (T := TX6) (n := 2) (st := [.int (iI ((10 + (8 * k)) + 1)), .ref (ad G 17 0)]) (rfl : vl 16 0 = true) rfl rfl [.int (iI k), .int (iI 1)] (kX6_of l G P Vl_16 k 1 hBl_16 (by omega) (by omega) (by omega) (by omega)) gX6_forgets_X6_of rfl ⟨rfl, rfl⟩ (by decide +kernel) ⟨Nat.le_of_ble_eq_true rfl, Nat.le_of_ble_eq_true rfl⟩ rfl rfl (Nat.le_of_ble_eq_true rfl) rfl dX6_forgets_45 (z_dtI ?_)
        have h_13a := mo_R hBl_16 k 1 (by omega) (by omega)
        rw [zqo]
        refine z_iload_n E dX6_forgets_48 1 rfl rfl ?_
        refine z_icmp_ne E 56 dX6_forgets_49 rfl (by omega) (by omega) (fun c_14 => ?_) (fun c_14 => ?_)
        · skip
          refine z_aload_n E dX6_forgets_56 0 rfl rfl ?_
          refine z_iload E dX6_forgets_57 rfl ?_
          refine z_iconst E dX6_forgets_59 ?_
          refine z_callV E (ci := 6) (N := 16) (C := RX6) (T := TX6) (n := 2) (st := [.int (iI ((10 + (8 * k)) + 1)), .ref (ad G 17 0)]) (rfl : vl 16 0 = true) rfl rfl [.int (iI k), .int (iI 1)] (kX6_of l G P Vl_16 k 1 hBl_16 (by omega) (by omega) (by omega) (by omega)) gX6_forgets_X6_of rfl ⟨rfl, rfl⟩ (by decide +kernel) ⟨Nat.le_of_ble_eq_true rfl, Nat.le_of_ble_eq_true rfl⟩ rfl rfl (Nat.le_of_ble_eq_true rfl) rfl dX6_forgets_60 (z_dtI ?_)
          have h_15a := mo_R hBl_16 k 1 (by omega) (by omega)
          rw [zqo] at h_15a ⊢
          refine z_iast E (rfl : vl 17 0 = true) 498 (fun _ => rfl) (by omega) (by omega) (by omega) dX6_forgets_63 ?_
          obtain ⟨V16, hV16⟩ : ∃ Z : Vt, Z = up Vl_16 17 0 (updI (Vl_16 17 0) ((10 + (8 * k)) + 1) (mo (V 17 0) k 1)) := ⟨_, rfl⟩
          rw [← hV16]
          have hB16 : BV V16 := hV16 ▸ BV_up hBl_16 (by intro _; omega)
          refine z_iinc E k dX6_forgets_64 (L' := [some (.ref (ad G 16 0)), some (.int (iI x)), some (.int (iI (mS (V 17 0) x))), some (.int (iI (mo (V 17 0) (mS (V 17 0) x) 1))), some (.int (iI (k + 1)))]) (Nat.le_of_ble_eq_true rfl) rfl rfl ?_
          refine z_goto E 16 dX6_forgets_67 rfl ?_
          exact ih_16 (k + 1) V16 hB16 (by omega) (by omega) (by first | (rw [hV16, hVl, up_s, fgP_t hk0 (by assumption)]; exact upup _ _ _ _ _) | (rw [hV16, hVl, up_s, fgP_f hk0 (by assumption)]; exact upup _ _ _ _ _)) (by omega)
        · skip
          refine z_iload_n E dX6_forgets_52 3 rfl rfl ?_
          refine z_goto E 63 dX6_forgets_53 rfl ?_
          refine z_iast E (rfl : vl 17 0 = true) 498 (fun _ => rfl) (by omega) (by omega) (by omega) dX6_forgets_63 ?_
          obtain ⟨V17, hV17⟩ : ∃ Z : Vt, Z = up Vl_16 17 0 (updI (Vl_16 17 0) ((10 + (8 * k)) + 1) (mo (V 17 0) (mS (V 17 0) x) 1)) := ⟨_, rfl⟩
          rw [← hV17]
          have hB17 : BV V17 := hV17 ▸ BV_up hBl_16 (by intro _; omega)
          refine z_iinc E k dX6_forgets_64 (L' := [some (.ref (ad G 16 0)), some (.int (iI x)), some (.int (iI (mS (V 17 0) x))), some (.int (iI (mo (V 17 0) (mS (V 17 0) x) 1))), some (.int (iI (k + 1)))]) (Nat.le_of_ble_eq_true rfl) rfl rfl ?_
          refine z_goto E 16 dX6_forgets_67 rfl ?_
          exact ih_16 (k + 1) V17 hB17 (by omega) (by omega) (by first | (rw [hV17, hVl, up_s, fgP_t hk0 (by assumption)]; exact upup _ _ _ _ _) | (rw [hV17, hVl, up_s, fgP_f hk0 (by assumption)]; exact upup _ _ _ _ _)) (by omega)
  exact lp_16_3 ((V 17 0 0 - 0 : Int).toNat + 1) 0 V hB (by omega) (by omega) (by rw [fgP_0]; exact up_self.symm) (Nat.lt_succ_self _)

set_option maxHeartbeats 4000000 in
set_option maxRecDepth 100000 in
theorem kX6_forget (l : Launch) (G : Gl) (P : Nat → Nat) (V : Vt) (x : Int) (hB : BV V) (hm0 : 0 ≤ V 17 0 0) (hm1 : V 17 0 0 ≤ 16) (hmL : ∀ k p, 0 ≤ k → k < 16 → 0 ≤ p → p < 6 → 0 ≤ mo (V 17 0) k (2 + p) ∧ mo (V 17 0) k (2 + p) < 40) (hq : 0 ≤ V 16 0 3 ∧ V 16 0 3 ≤ 4) (hq4 : inR (V 16 0 4)) (r1 : inR x) : Met l yX6_forget wsX6_forget ({ frames := 4, cells := 0, slots := 0, locals := 92 }) (va_Pc [.ref (ad G 16 0), .int (iI x)] (Sg G P V)) (Qk G mkI (fun r P' V' => P' = P ∧ BV V' ∧ ((¬ 0 ≤ fO (mS (V 17 0) x) ∧ r = -1000001 ∧ V' = V) ∨ (0 ≤ fO (mS (V 17 0) x) ∧ ¬ (0 < x ∧ ∀ d, 0 ≤ d → d < 4 → ¬ mh (V 17 0) d = x) ∧ r = -1000002 ∧ V' = V) ∨ (0 ≤ fO (mS (V 17 0) x) ∧ (0 < x ∧ ∀ d, 0 ≤ d → d < 4 → ¬ mh (V 17 0) d = x) ∧ r = sm 40 (fun b => b2i (mf (fgM (V 17 0) x (mo (V 17 0) (mS (V 17 0) x) 1) (mS (V 17 0) x) (V 17 0 0)) b = 1 ∧ pwM (fgM (V 17 0) x (mo (V 17 0) (mS (V 17 0) x) 1) (mS (V 17 0) x) (V 17 0 0)) b = 0)) ∧ V' = up (chV V) 17 0 (swS (fgM (V 17 0) x (mo (V 17 0) (mS (V 17 0) x) 1) (mS (V 17 0) x) (V 17 0 0)) 40))))) 0 0 (mem G) := by
  refine z_met (cc := cX6_forget) (nL := 2) (ret := (some .int)) (own := RX6) (by decide +kernel) rfl rfl (Nat.le_of_ble_eq_true rfl) (zz_cat rfl) (L := [some (.ref (ad G 16 0)), some (.int (iI x))]) rfl ?_
  intro X E
  have f0 : Cond.constant RX6 134 (-1000002) ∈ wsX6_forget := by decide +kernel
  have f1 : Cond.constant RX6 111 (-1000001) ∈ wsX6_forget := by decide +kernel
  refine z_aload_n E dX6_forget_0 0 rfl rfl ?_
  refine z_iload_n E dX6_forget_1 1 rfl rfl ?_
  refine z_callV E (ci := 6) (N := 16) (C := RX6) (T := TX6) (n := 1) (st := []) (rfl : vl 16 0 = true) rfl rfl [.int (iI x)] (kX6_isState l G P V x hB (by omega) (by omega) (by omega)) gX6_forget_X6_isState rfl ⟨rfl, rfl⟩ (by decide +kernel) ⟨Nat.le_of_ble_eq_true rfl, Nat.le_of_ble_eq_true rfl⟩ rfl rfl (Nat.le_of_ble_eq_true rfl) rfl dX6_forget_2 (z_dtI ?_)
  have h_1a := mS_c (V 17 0) x
  have zqms := mS_c (V 17 0) x
  refine z_ifne_b E 11 dX6_forget_5 rfl (fun c_2 => ?_) (fun c_2 => ?_)
  · skip
    refine z_aload_n E dX6_forget_11 0 rfl rfl ?_
    refine z_iload_n E dX6_forget_12 1 rfl rfl ?_
    refine z_callV E (ci := 6) (N := 16) (C := RX6) (T := TX6) (n := 1) (st := []) (rfl : vl 16 0 = true) rfl rfl [.int (iI x)] (kX6_canForget l G P V x hB (by omega)) gX6_forget_X6_canForget rfl ⟨rfl, rfl⟩ (by decide +kernel) ⟨Nat.le_of_ble_eq_true rfl, Nat.le_of_ble_eq_true rfl⟩ rfl rfl (Nat.le_of_ble_eq_true rfl) rfl dX6_forget_13 (z_dtI ?_)
    refine z_ifne_b E 22 dX6_forget_16 rfl (fun c_4 => ?_) (fun c_4 => ?_)
    · skip
      refine z_aload_n E dX6_forget_22 0 rfl rfl ?_
      refine z_callV E (ci := 6) (N := 16) (C := RX6) (T := TX6) (n := 0) (st := []) (rfl : vl 16 0 = true) rfl rfl [] (kX6_changes l G P V  hB (by omega) (by omega)) gX6_forget_X6_changes rfl ⟨rfl, rfl⟩ (by decide +kernel) ⟨Nat.le_of_ble_eq_true rfl, Nat.le_of_ble_eq_true rfl⟩ rfl rfl (Nat.le_of_ble_eq_true rfl) rfl dX6_forget_23 (z_exV (fun P_5 V_5 h_5 => ?_))
      obtain ⟨hP_5, hB_5, h_5⟩ := h_5
      rw [hP_5]
      have zqc := h_5
      have zq17 : V_5 17 0 = V 17 0 := by rw [zqc, ch_o (by decide) (by decide)]
      refine z_aload_n E dX6_forget_26 0 rfl rfl ?_
      refine z_iload_n E dX6_forget_27 1 rfl rfl ?_
      refine z_callV E (ci := 6) (N := 16) (C := RX6) (T := TX6) (n := 1) (st := []) (rfl : vl 16 0 = true) rfl rfl [.int (iI x)] (kX6_forgets l G P V_5 x hB_5 (by rw [zq17]; exact hm0) (by rw [zq17]; exact hm1) (by rw [zq17]; exact hmL) (by omega) (by rw [zq17]; omega)) gX6_forget_X6_forgets rfl ⟨rfl, rfl⟩ (by decide +kernel) ⟨Nat.le_of_ble_eq_true rfl, Nat.le_of_ble_eq_true rfl⟩ rfl rfl (Nat.le_of_ble_eq_true rfl) rfl dX6_forget_28 (z_exI (fun r_6 P_6 V_6 h_6 => ?_))
      obtain ⟨hP_6, hB_6, h_6⟩ := h_6
      rw [hP_6]
      obtain ⟨zqr, zqs⟩ := h_6
      rw [zq17] at zqr zqs
      exact z_iret E dX6_forget_31 (⟨rfl, hB_6, Or.inr (Or.inr ⟨by assumption, by assumption, zqr, by rw [zqs, zqc]⟩)⟩)
    · skip
      refine z_ldc E (-1000002) f0 rfl dX6_forget_19 ?_
      exact z_iret E dX6_forget_21 (⟨rfl, hB, Or.inr (Or.inl ⟨by assumption, by assumption, rfl, rfl⟩)⟩)
  · skip
    refine z_ldc E (-1000001) f1 rfl dX6_forget_8 ?_
    exact z_iret E dX6_forget_10 (⟨rfl, hB, Or.inl ⟨by assumption, rfl, rfl⟩⟩)

set_option maxHeartbeats 4000000 in
set_option maxRecDepth 100000 in
theorem kX6_freed (l : Launch) (G : Gl) (P : Nat → Nat) (V : Vt) (x : Int) (hB : BV V) (hm0 : 0 ≤ V 17 0 0) (hm1 : V 17 0 0 ≤ 16) (hmL : ∀ k p, 0 ≤ k → k < 16 → 0 ≤ p → p < 6 → 0 ≤ mo (V 17 0) k (2 + p) ∧ mo (V 17 0) k (2 + p) < 40) (a1 : inR x) (a2 : 0 ≤ mS (V 17 0) x) : Met l yX6_freed wsX6_freed ({ frames := 4, cells := 0, slots := 0, locals := 92 }) (va_Pc [.ref (ad G 16 0), .int (iI x)] (Sg G P V)) (Qk G mkI (fun r P' V' => P' = P ∧ BV V' ∧ r = sm 40 (fun b => b2i (mf (fgM (V 17 0) x (mo (V 17 0) (mS (V 17 0) x) 1) (mS (V 17 0) x) (V 17 0 0)) b = 1 ∧ pwM (fgM (V 17 0) x (mo (V 17 0) (mS (V 17 0) x) 1) (mS (V 17 0) x) (V 17 0 0)) b = 0)) ∧ V' = up V 19 0 (cpI (V 17 0) (V 19 0) 0 0 498))) 0 0 (mem G) := by
  refine z_met (cc := cX6_freed) (nL := 3) (ret := (some .int)) (own := RX6) (by decide +kernel) rfl rfl (Nat.le_of_ble_eq_true rfl) (zz_cat rfl) (L := [some (.ref (ad G 16 0)), some (.int (iI x)), none]) rfl ?_
  intro X E
  have iX6 : ∀ x ∈ wsX60, x ∈ wsX6_freed := by decide +kernel
  have f0 : Cond.fieldLink RX6 7 "SharedStatesModel" "s" "[I" ∈ wsX6_freed := by decide +kernel
  have f1 : Cond.fieldLink RX6 16 "SharedStatesModel" "held" "[I" ∈ wsX6_freed := by decide +kernel
  refine z_aload_n E dX6_freed_0 0 rfl rfl ?_
  refine z_get E (ci := 6) (N := 16) (C := RX6) (T := TX6) (rfl : vl 16 0 = true) rfl rfl iX6 0 (by decide) rfl f0 rfl dX6_freed_1 ?_
  refine z_aload_n E dX6_freed_4 0 rfl rfl ?_
  refine z_get E (ci := 6) (N := 16) (C := RX6) (T := TX6) (rfl : vl 16 0 = true) rfl rfl iX6 2 (by decide) rfl f1 rfl dX6_freed_5 ?_
  refine z_callS E (n := 2) (st := []) [.ref (ad G 17 0), .ref (ad G 19 0)] (kX6_copies l G P V 17 498 19 498 hB (by omega) (fun j h0 h1 h2 => absurd (by simp [ctr]) h2)) gX6_freed_X6_copies rfl ⟨rfl, rfl⟩ (by decide +kernel) ⟨Nat.le_of_ble_eq_true rfl, Nat.le_of_ble_eq_true rfl⟩ rfl rfl (Nat.le_of_ble_eq_true rfl) rfl dX6_freed_8 (z_exV (fun P_1 V_1 h_1 => ?_))
  obtain ⟨hP_1, hB_1, h_1⟩ := h_1
  rw [hP_1]
  have zqc := h_1
  have zq17 : V_1 17 0 = V 17 0 := by rw [zqc] <;> rfl
  refine z_aload_n E dX6_freed_11 0 rfl rfl ?_
  refine z_iload_n E dX6_freed_12 1 rfl rfl ?_
  refine z_callV E (ci := 6) (N := 16) (C := RX6) (T := TX6) (n := 1) (st := []) (rfl : vl 16 0 = true) rfl rfl [.int (iI x)] (kX6_forgets l G P V_1 x hB_1 (by rw [zq17]; exact hm0) (by rw [zq17]; exact hm1) (by rw [zq17]; exact hmL) (by omega) (by rw [zq17]; omega)) gX6_freed_X6_forgets rfl ⟨rfl, rfl⟩ (by decide +kernel) ⟨Nat.le_of_ble_eq_true rfl, Nat.le_of_ble_eq_true rfl⟩ rfl rfl (Nat.le_of_ble_eq_true rfl) rfl dX6_freed_13 (z_exI (fun r_2 P_2 V_2 h_2 => ?_))
  obtain ⟨hP_2, hB_2, h_2⟩ := h_2
  rw [hP_2]
  obtain ⟨zqr, zqs⟩ := h_2
  rw [zq17] at zqr zqs
  have zq19 : V_2 19 0 = cpI (V 17 0) (V 19 0) 0 0 498 := by rw [zqs, zqc] <;> rfl
  have zqn := mS_c (V 17 0) x
  refine z_istore_n E dX6_freed_16 2 rfl (L' := [some (.ref (ad G 16 0)), some (.int (iI x)), some (.int (iI r_2))]) (Nat.le_of_ble_eq_true rfl) rfl ?_
  refine z_aload_n E dX6_freed_17 0 rfl rfl ?_
  refine z_get E (ci := 6) (N := 16) (C := RX6) (T := TX6) (rfl : vl 16 0 = true) rfl rfl iX6 2 (by decide) rfl f1 rfl dX6_freed_18 ?_
  refine z_aload_n E dX6_freed_21 0 rfl rfl ?_
  refine z_get E (ci := 6) (N := 16) (C := RX6) (T := TX6) (rfl : vl 16 0 = true) rfl rfl iX6 0 (by decide) rfl f0 rfl dX6_freed_22 ?_
  refine z_callS E (n := 2) (st := []) [.ref (ad G 19 0), .ref (ad G 17 0)] (kX6_copies l G P V_2 19 498 17 498 hB_2 (by omega) (fun j h0 h1 h2 => by rw [zq19, cp_i h0 h1]; exact hB.s j (fun z => h2 (by simp [ctr]; omega)))) gX6_freed_X6_copies rfl ⟨rfl, rfl⟩ (by decide +kernel) ⟨Nat.le_of_ble_eq_true rfl, Nat.le_of_ble_eq_true rfl⟩ rfl rfl (Nat.le_of_ble_eq_true rfl) rfl dX6_freed_25 (z_exV (fun P_3 V_3 h_3 => ?_))
  obtain ⟨hP_3, hB_3, h_3⟩ := h_3
  rw [hP_3]
  have zqe := h_3
  refine z_iload_n E dX6_freed_28 2 rfl rfl ?_
  exact z_iret E dX6_freed_29 (⟨rfl, hB_3, zqr, by rw [zqe, zq19, zqs, up_s, fr_r a2 (by omega) hm1, zqc]; exact up_bk⟩)
