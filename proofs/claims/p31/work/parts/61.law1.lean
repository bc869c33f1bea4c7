set_option maxHeartbeats 4000000 in
set_option maxRecDepth 100000 in
theorem kL_low (l : Launch) (G : Gl) (P : Nat → Nat) (V : Vt) (v : Int) (m0 : Int) (h0 : 0 < m0) (h1 : m0 ≤ 2147483647) : Met l yL_low wsL_low ({ frames := 0, cells := 0, slots := 0, locals := 0 }) (va_Pc [.int (iI v), .int (iI m0)] (Sg G P V)) (Qk G mkI (fun r P' V' => P' = P ∧ V' = V ∧ 0 ≤ r ∧ r < m0)) 0 0 (mem G) := by
  refine z_met (cc := cL_low) (nL := 2) (ret := (some .int)) (own := RL) (by decide +kernel) rfl rfl (Nat.le_of_ble_eq_true rfl) (L := [some (.int (iI v)), some (.int (iI m0))]) rfl ?_
  intro X E Er0
  have f0 : Cond.constant RL 8 (2147483647) ∈ wsL_low := by decide +kernel
  refine z_iload_n E dL_low_0 0 rfl rfl ?_
  refine z_ldc E 2147483647 f0 rfl dL_low_1 ?_
  refine z_iandN E dL_low_3 (fun y_1 hy0_1 hy1_1 => ?_)
  refine z_iload_n E dL_low_4 1 rfl rfl ?_
  refine z_irem E dL_low_5 (by omega) (by omega) (by omega) (by omega) ?_
  exact z_iret E Er0 dL_low_6 (⟨rfl, rfl, Int.emod_nonneg _ (by omega), Int.emod_lt_of_pos _ h0⟩)

set_option maxHeartbeats 4000000 in
set_option maxRecDepth 100000 in
theorem kL_find (l : Launch) (G : Gl) (P : Nat → Nat) (V : Vt) (state : Int) (hB : BV V) (hg : 0 ≤ V 16 0 0 ∧ V 16 0 0 ≤ 16) (a1 : inR state) : Met l yL_find wsL_find ({ frames := 0, cells := 0, slots := 0, locals := 0 }) (va_Pc [.ref (ad G 16 0), .ref (ad G 18 0), .int (iI state)] (Sg G P V)) (Qk G mkI (dt (fnd (V 16 0 0) (fun k => V 18 0 k = state)) P V)) 0 0 (mem G) := by
  refine z_met (cc := cL_find) (nL := 4) (ret := (some .int)) (own := RL) (by decide +kernel) rfl rfl (Nat.le_of_ble_eq_true rfl) (L := [some (.ref (ad G 16 0)), some (.ref (ad G 18 0)), some (.int (iI state)), none]) rfl ?_
  intro X E Er0
  refine z_iconst E dL_find_0 ?_
  refine z_istore_n E dL_find_1 3 rfl (L' := [some (.ref (ad G 16 0)), some (.ref (ad G 18 0)), some (.int (iI state)), some (.int (iI 0))]) (Nat.le_of_ble_eq_true rfl) rfl ?_
  have lp_2_1 : ∀ (fuel : Nat) (k : Int), (0 ≤ k) → (k ≤ V 16 0 0) → (∀ j, 0 ≤ j → j < k → ¬ V 18 0 j = state) → (V 16 0 0 - k : Int).toNat < fuel → Kz X G P V 0 0 [some (.ref (ad G 16 0)), some (.ref (ad G 18 0)), some (.int (iI state)), some (.int (iI k))] 2 [] := by
    intro fuel
    induction fuel with
    | zero => intro k hk0 hk1 hla hf_2; exact absurd hf_2 (Nat.not_lt_zero _)
    | succ fuel ih_2 =>
      intro k hk0 hk1 hla hf_2
      refine z_iload_n E dL_find_2 3 rfl rfl ?_
      refine z_aload_n E dL_find_3 0 rfl rfl ?_
      refine z_iconst E dL_find_4 ?_
      refine z_iald E (rfl : vl G 16 0 = true) 6 rfl (by omega) (by omega) (by omega) dL_find_5 ?_
      refine z_icmp_ge E 22 dL_find_6 rfl (by omega) (by omega) (fun c_2 => ?_) (fun c_2 => ?_)
      · skip
        refine z_iload_n E dL_find_22 3 rfl rfl ?_
        refine z_aload_n E dL_find_23 0 rfl rfl ?_
        refine z_iconst E dL_find_24 ?_
        refine z_iald E (rfl : vl G 16 0 = true) 6 rfl (by omega) (by omega) (by omega) dL_find_25 ?_
        refine z_icmp_ge E 33 dL_find_26 rfl (by omega) (by omega) (fun c_3 => ?_) (fun c_3 => ?_)
        · skip
          refine z_iconst E dL_find_33 ?_
          exact z_iret E Er0 dL_find_34 (by first | (exfalso; omega) | exact ⟨(fnd_y (by omega) (by omega) (by assumption) hla).symm, rfl, rfl⟩ | exact ⟨(fnd_n (fun j h0 h1 => hla j h0 (by omega))).symm, rfl, rfl⟩)
        · skip
          refine z_iload_n E dL_find_29 3 rfl rfl ?_
          refine z_goto E 34 dL_find_30 rfl ?_
          exact z_iret E Er0 dL_find_34 (by first | (exfalso; omega) | exact ⟨(fnd_y (by omega) (by omega) (by assumption) hla).symm, rfl, rfl⟩ | exact ⟨(fnd_n (fun j h0 h1 => hla j h0 (by omega))).symm, rfl, rfl⟩)
      · skip
        refine z_aload_n E dL_find_9 1 rfl rfl ?_
        refine z_iload_n E dL_find_10 3 rfl rfl ?_
        refine z_iald E (rfl : vl G 18 0 = true) 16 rfl (by omega) (by omega) (by omega) dL_find_11 ?_
        have hr_4 := hB.g 18 0 k rfl
        refine z_iload_n E dL_find_12 2 rfl rfl ?_
        refine z_icmp_eq E 22 dL_find_13 rfl (by omega) (by omega) (fun c_5 => ?_) (fun c_5 => ?_)
        · skip
          refine z_iload_n E dL_find_22 3 rfl rfl ?_
          refine z_aload_n E dL_find_23 0 rfl rfl ?_
          refine z_iconst E dL_find_24 ?_
          refine z_iald E (rfl : vl G 16 0 = true) 6 rfl (by omega) (by omega) (by omega) dL_find_25 ?_
          refine z_icmp_ge E 33 dL_find_26 rfl (by omega) (by omega) (fun c_6 => ?_) (fun c_6 => ?_)
          · skip
            refine z_iconst E dL_find_33 ?_
            exact z_iret E Er0 dL_find_34 (by first | (exfalso; omega) | exact ⟨(fnd_y (by omega) (by omega) (by assumption) hla).symm, rfl, rfl⟩ | exact ⟨(fnd_n (fun j h0 h1 => hla j h0 (by omega))).symm, rfl, rfl⟩)
          · skip
            refine z_iload_n E dL_find_29 3 rfl rfl ?_
            refine z_goto E 34 dL_find_30 rfl ?_
            exact z_iret E Er0 dL_find_34 (by first | (exfalso; omega) | exact ⟨(fnd_y (by omega) (by omega) (by assumption) hla).symm, rfl, rfl⟩ | exact ⟨(fnd_n (fun j h0 h1 => hla j h0 (by omega))).symm, rfl, rfl⟩)
        · skip
          refine z_iinc E k dL_find_16 (L' := [some (.ref (ad G 16 0)), some (.ref (ad G 18 0)), some (.int (iI state)), some (.int (iI (k + 1)))]) (Nat.le_of_ble_eq_true rfl) rfl rfl ?_
          refine z_goto E 2 dL_find_19 rfl ?_
          exact ih_2 (k + 1) (by omega) (by omega) (all_s hla (by assumption)) (by omega)
  exact lp_2_1 ((V 16 0 0 - 0 : Int).toNat + 1) 0 (by omega) (by omega) all_0 (Nat.lt_succ_self _)

set_option maxHeartbeats 4000000 in
set_option maxRecDepth 100000 in
theorem kL_block (l : Launch) (G : Gl) (P : Nat → Nat) (V : Vt) (k : Int) (place : Int) (hk : 0 ≤ k ∧ k < 16) (hp : 0 ≤ place ∧ place < 6) (hr : 0 ≤ V 20 0 k ∧ V 20 0 k < 68719476736) : Met l yL_block wsL_block ({ frames := 0, cells := 0, slots := 0, locals := 0 }) (va_Pc [.ref (ad G 20 0), .int (iI k), .int (iI place)] (Sg G P V)) (Qk G mkI (dt (rD (V 20 0 k) place) P V)) 0 0 (mem G) := by
  refine z_met (cc := cL_block) (nL := 3) (ret := (some .int)) (own := RL) (by decide +kernel) rfl rfl (Nat.le_of_ble_eq_true rfl) (L := [some (.ref (ad G 20 0)), some (.int (iI k)), some (.int (iI place))]) rfl ?_
  intro X E Er0
  have f0 : Cond.constantLong RL 9 (63) ∈ wsL_block := by decide +kernel
  refine z_aload_n E dL_block_0 0 rfl rfl ?_
  refine z_iload_n E dL_block_1 1 rfl rfl ?_
  refine z_lald E (rfl : vl G 20 0 = true) 16 rfl (by omega) (by omega) (by omega) dL_block_2 ?_
  refine z_bipush E dL_block_3 rfl ?_
  refine z_iload_n E dL_block_5 2 rfl rfl ?_
  refine z_imul E dL_block_6 ?_
  refine z_lshr E (by omega) (by omega) (by omega) (by omega) dL_block_7 ?_
  refine z_ldc2 E 63 f0 rfl dL_block_8 ?_
  refine z_land E 64 6 (by decide) (by decide) (by decide) (dv0 hr.1) dL_block_11 ?_
  refine z_l2i E (mdR (by decide) (by decide)) dL_block_12 ?_
  exact z_iret E Er0 dL_block_13 (⟨rfl, rfl, rfl⟩)

set_option maxHeartbeats 4000000 in
set_option maxRecDepth 100000 in
theorem kL_inBlock (l : Launch) (G : Gl) (P : Nat → Nat) (V : Vt) (block : Int) (c : Int) (hb : 0 ≤ block ∧ block < 40) (hc : 0 ≤ c ∧ c < 8) (ha : 0 ≤ V 21 0 block ∧ V 21 0 block < 1152921504606846976) (hbb : 0 ≤ V 22 0 block ∧ V 22 0 block < 1048576) : Met l yL_inBlock wsL_inBlock ({ frames := 0, cells := 0, slots := 0, locals := 0 }) (va_Pc [.ref (ad G 21 0), .ref (ad G 22 0), .int (iI block), .int (iI c)] (Sg G P V)) (Qk G mkI (dt (cB (V 21 0 block) (V 22 0 block) c) P V)) 0 0 (mem G) := by
  refine z_met (cc := cL_inBlock) (nL := 4) (ret := (some .int)) (own := RL) (by decide +kernel) rfl rfl (Nat.le_of_ble_eq_true rfl) (L := [some (.ref (ad G 21 0)), some (.ref (ad G 22 0)), some (.int (iI block)), some (.int (iI c))]) rfl ?_
  intro X E Er0
  have f0 : Cond.constantLong RL 11 (1023) ∈ wsL_inBlock := by decide +kernel
  refine z_iload_n E dL_inBlock_0 3 rfl rfl ?_
  refine z_bipush E dL_inBlock_1 rfl ?_
  refine z_icmp_ge E 21 dL_inBlock_3 rfl (by omega) (by omega) (fun c_1 => ?_) (fun c_1 => ?_)
  · skip
    refine z_aload_n E dL_inBlock_21 1 rfl rfl ?_
    refine z_iload_n E dL_inBlock_22 2 rfl rfl ?_
    refine z_lald E (rfl : vl G 22 0 = true) 40 rfl (by omega) (by omega) (by omega) dL_inBlock_23 ?_
    refine z_bipush E dL_inBlock_24 rfl ?_
    refine z_iload_n E dL_inBlock_26 3 rfl rfl ?_
    refine z_bipush E dL_inBlock_27 rfl ?_
    refine z_isub E dL_inBlock_29 ?_
    refine z_imul E dL_inBlock_30 ?_
    refine z_lshr E (by omega) (by omega) (by omega) (by omega) dL_inBlock_31 ?_
    refine z_ldc2 E 1023 f0 rfl dL_inBlock_32 ?_
    refine z_land E 1024 10 (by decide) (by decide) (by decide) (dv0 hbb.1) dL_inBlock_35 ?_
    refine z_l2i E (mdR (by decide) (by decide)) dL_inBlock_36 ?_
    exact z_iret E Er0 dL_inBlock_37 (by first | (exfalso; omega) | exact ⟨cB_t (by omega), rfl, rfl⟩ | exact ⟨cB_f (by omega), rfl, rfl⟩)
  · skip
    refine z_aload_n E dL_inBlock_6 0 rfl rfl ?_
    refine z_iload_n E dL_inBlock_7 2 rfl rfl ?_
    refine z_lald E (rfl : vl G 21 0 = true) 40 rfl (by omega) (by omega) (by omega) dL_inBlock_8 ?_
    refine z_bipush E dL_inBlock_9 rfl ?_
    refine z_iload_n E dL_inBlock_11 3 rfl rfl ?_
    refine z_imul E dL_inBlock_12 ?_
    refine z_lshr E (by omega) (by omega) (by omega) (by omega) dL_inBlock_13 ?_
    refine z_ldc2 E 1023 f0 rfl dL_inBlock_14 ?_
    refine z_land E 1024 10 (by decide) (by decide) (by decide) (dv0 ha.1) dL_inBlock_17 ?_
    refine z_goto E 36 dL_inBlock_18 rfl ?_
    refine z_l2i E (mdR (by decide) (by decide)) dL_inBlock_36 ?_
    exact z_iret E Er0 dL_inBlock_37 (by first | (exfalso; omega) | exact ⟨cB_t (by omega), rfl, rfl⟩ | exact ⟨cB_f (by omega), rfl, rfl⟩)

set_option maxHeartbeats 4000000 in
set_option maxRecDepth 100000 in
theorem kL_read (l : Launch) (G : Gl) (P : Nat → Nat) (V : Vt) (k : Int) (cell : Int) (hk : 0 ≤ k ∧ k < 16) (hc : 0 ≤ cell ∧ cell < 48) (hvr : LVr (V 20 0)) (hva : LVa (V 21 0)) (hvb : LVb (V 22 0)) (hvb0 : 0 ≤ V 22 0 (rD (V 20 0 k) (cell / 8))) : Met l yL_read wsL_read ({ frames := 1, cells := 0, slots := 0, locals := 23 }) (va_Pc [.ref (ad G 20 0), .ref (ad G 21 0), .ref (ad G 22 0), .int (iI k), .int (iI cell)] (Sg G P V)) (Qk G mkI (dt (cB (V 21 0 (rD (V 20 0 k) (cell / 8))) (V 22 0 (rD (V 20 0 k) (cell / 8))) (cell % 8)) P V)) 0 0 (mem G) := by
  refine z_met (cc := cL_read) (nL := 5) (ret := (some .int)) (own := RL) (by decide +kernel) rfl rfl (Nat.le_of_ble_eq_true rfl) (L := [some (.ref (ad G 20 0)), some (.ref (ad G 21 0)), some (.ref (ad G 22 0)), some (.int (iI k)), some (.int (iI cell))]) rfl ?_
  intro X E Er0
  refine z_aload_n E dL_read_0 1 rfl rfl ?_
  refine z_aload_n E dL_read_1 2 rfl rfl ?_
  refine z_aload_n E dL_read_2 0 rfl rfl ?_
  refine z_iload_n E dL_read_3 3 rfl rfl ?_
  refine z_iload E dL_read_4 rfl ?_
  refine z_bipush E dL_read_6 rfl ?_
  refine z_idiv E dL_read_8 (by omega) (by omega) (by decide) (by decide) ?_
  refine z_callS E (n := 3) (st := [.ref (ad G 22 0), .ref (ad G 21 0)]) [.ref (ad G 20 0), .int (iI k), .int (iI (cell / 8))] (kL_block l G P V k (cell / 8) (by omega) (by omega) (hvr _).1) gL_read_L_block rfl ⟨rfl, rfl⟩ (by decide +kernel) ⟨Nat.le_of_ble_eq_true rfl, Nat.le_of_ble_eq_true rfl⟩ rfl rfl (Nat.le_of_ble_eq_true rfl) rfl dL_read_9 (z_dtI ?_)
  refine z_iload E dL_read_12 rfl ?_
  refine z_bipush E dL_read_14 rfl ?_
  refine z_irem E dL_read_16 (by omega) (by omega) (by decide) (by decide) ?_
  refine z_callS E (n := 4) (st := []) [.ref (ad G 21 0), .ref (ad G 22 0), .int (iI (rD (V 20 0 k) (cell / 8))), .int (iI (cell % 8))] (kL_inBlock l G P V (rD (V 20 0 k) (cell / 8)) (cell % 8) ⟨rD_bd.1, (hvr _).2 _ (by omega) (by omega)⟩ (by omega) (hva _) ⟨hvb0, (hvb _).2⟩) gL_read_L_inBlock rfl ⟨rfl, rfl⟩ (by decide +kernel) ⟨Nat.le_of_ble_eq_true rfl, Nat.le_of_ble_eq_true rfl⟩ rfl rfl (Nat.le_of_ble_eq_true rfl) rfl dL_read_17 (z_dtI ?_)
  exact z_iret E Er0 dL_read_20 (⟨rfl, rfl, rfl⟩)

set_option maxHeartbeats 4000000 in
set_option maxRecDepth 100000 in
theorem kL_blocks (l : Launch) (G : Gl) (P : Nat → Nat) (V : Vt) (hvb : LVb (V 22 0)) : Met l yL_blocks wsL_blocks ({ frames := 0, cells := 0, slots := 0, locals := 0 }) (va_Pc [.ref (ad G 22 0)] (Sg G P V)) (Qk G mkI (dt (sm 40 (fun k => b2i (0 ≤ V 22 0 k))) P V)) 0 0 (mem G) := by
  refine z_met (cc := cL_blocks) (nL := 3) (ret := (some .int)) (own := RL) (by decide +kernel) rfl rfl (Nat.le_of_ble_eq_true rfl) (L := [some (.ref (ad G 22 0)), none, none]) rfl ?_
  intro X E Er0
  refine z_iconst E dL_blocks_0 ?_
  refine z_istore_n E dL_blocks_1 1 rfl (L' := [some (.ref (ad G 22 0)), some (.int (iI 0)), none]) (Nat.le_of_ble_eq_true rfl) rfl ?_
  refine z_iconst E dL_blocks_2 ?_
  refine z_istore_n E dL_blocks_3 2 rfl (L' := [some (.ref (ad G 22 0)), some (.int (iI 0)), some (.int (iI 0))]) (Nat.le_of_ble_eq_true rfl) rfl ?_
  have lp_4_1 : ∀ (fuel : Nat) (m : Int) (k : Int), (0 ≤ k) → (k ≤ 40) → (m = sm k (fun k => b2i (0 ≤ V 22 0 k))) → (40 - k : Int).toNat < fuel → Kz X G P V 0 0 [some (.ref (ad G 22 0)), some (.int (iI m)), some (.int (iI k))] 4 [] := by
    intro fuel
    induction fuel with
    | zero => intro m k hk0 hk1 hs hf_4; exact absurd hf_4 (Nat.not_lt_zero _)
    | succ fuel ih_4 =>
      intro m k hk0 hk1 hs hf_4
      refine z_iload_n E dL_blocks_4 2 rfl rfl ?_
      refine z_bipush E dL_blocks_5 rfl ?_
      refine z_icmp_ge E 32 dL_blocks_7 rfl (by omega) (by omega) (fun c_2 => ?_) (fun c_2 => ?_)
      · skip
        refine z_iload_n E dL_blocks_32 1 rfl rfl ?_
        exact z_iret E Er0 dL_blocks_33 (⟨by rw [hs, show k = 40 by omega], rfl, rfl⟩)
      · skip
        refine z_iload_n E dL_blocks_10 1 rfl rfl ?_
        refine z_aload_n E dL_blocks_11 0 rfl rfl ?_
        refine z_iload_n E dL_blocks_12 2 rfl rfl ?_
        refine z_lald E (rfl : vl G 22 0 = true) 40 rfl (by omega) (by omega) (by omega) dL_blocks_13 ?_
        have hr_3 := hvb k
        refine z_lconst E 0 rfl dL_blocks_14 ?_
        refine z_lcmp E (by omega) (by omega) dL_blocks_15 ?_
        refine z_ifge_c E 23 dL_blocks_16 rfl (fun c_4 => ?_) (fun c_4 => ?_)
        · skip
          refine z_iconst E dL_blocks_23 ?_
          refine z_iadd E dL_blocks_24 ?_
          refine z_istore_n E dL_blocks_25 1 rfl (L' := [some (.ref (ad G 22 0)), some (.int (iI (m + 1))), some (.int (iI k))]) (Nat.le_of_ble_eq_true rfl) rfl ?_
          refine z_iinc E k dL_blocks_26 (L' := [some (.ref (ad G 22 0)), some (.int (iI (m + 1))), some (.int (iI (k + 1)))]) (Nat.le_of_ble_eq_true rfl) rfl rfl ?_
          refine z_goto E 4 dL_blocks_29 rfl ?_
          exact ih_4 (m + 1) (k + 1) (by omega) (by omega) (by first | exact smb_t hs (by omega) (by first | assumption | omega) | exact smb_f hs (by omega) (by first | assumption | omega) | exact smb_f0 hs (by omega) (by first | assumption | omega)) (by omega)
        · skip
          refine z_iconst E dL_blocks_19 ?_
          refine z_goto E 24 dL_blocks_20 rfl ?_
          refine z_iadd E dL_blocks_24 ?_
          refine z_istore_n E dL_blocks_25 1 rfl (L' := [some (.ref (ad G 22 0)), some (.int (iI (m + 0))), some (.int (iI k))]) (Nat.le_of_ble_eq_true rfl) rfl ?_
          refine z_iinc E k dL_blocks_26 (L' := [some (.ref (ad G 22 0)), some (.int (iI (m + 0))), some (.int (iI (k + 1)))]) (Nat.le_of_ble_eq_true rfl) rfl rfl ?_
          refine z_goto E 4 dL_blocks_29 rfl ?_
          exact ih_4 (m + 0) (k + 1) (by omega) (by omega) (by first | exact smb_t hs (by omega) (by first | assumption | omega) | exact smb_f hs (by omega) (by first | assumption | omega) | exact smb_f0 hs (by omega) (by first | assumption | omega)) (by omega)
  exact lp_4_1 ((40 - 0 : Int).toNat + 1) 0 0 (by omega) (by omega) (sm_0 (by omega)).symm (Nat.lt_succ_self _)

set_option maxHeartbeats 4000000 in
set_option maxRecDepth 100000 in
theorem kL_uses (l : Launch) (G : Gl) (P : Nat → Nat) (V : Vt) (block : Int) (st : Int) (hg : 0 ≤ V 16 0 0 ∧ V 16 0 0 ≤ 16) (hvr : LVr (V 20 0)) (hst : st = 0 ∨ st = 1) (a1 : inR block) : Met l yL_uses wsL_uses ({ frames := 1, cells := 0, slots := 0, locals := 22 }) (va_Pc [.ref (ad G 16 0), .ref (ad G 20 0), .int (iI block), .int (iI st)] (Sg G P V)) (Qk G mkI (dt (lU (V 16 0 0) (V 20 0) st block) P V)) 0 0 (mem G) := by
  refine z_met (cc := cL_uses) (nL := 8) (ret := (some .int)) (own := RL) (by decide +kernel) rfl rfl (Nat.le_of_ble_eq_true rfl) (L := [some (.ref (ad G 16 0)), some (.ref (ad G 20 0)), some (.int (iI block)), some (.int (iI st)), none, none, none, none]) rfl ?_
  intro X E Er0
  refine z_iconst E dL_uses_0 ?_
  refine z_istore E dL_uses_1 (L' := [some (.ref (ad G 16 0)), some (.ref (ad G 20 0)), some (.int (iI block)), some (.int (iI st)), some (.int (iI 0)), none, none, none]) (Nat.le_of_ble_eq_true rfl) rfl ?_
  refine z_iconst E dL_uses_3 ?_
  refine z_istore E dL_uses_4 (L' := [some (.ref (ad G 16 0)), some (.ref (ad G 20 0)), some (.int (iI block)), some (.int (iI st)), some (.int (iI 0)), some (.int (iI 0)), none, none]) (Nat.le_of_ble_eq_true rfl) rfl ?_
  have lp_6_1 : ∀ (fuel : Nat) (m : Int) (k : Int), (0 ≤ k) → (k ≤ V 16 0 0) → (m = sm k (fun k => usK st (sm 6 (fun p => b2i (rD (V 20 0 k) p = block))))) → (V 16 0 0 - k : Int).toNat < fuel → Kz X G P V 0 0 [some (.ref (ad G 16 0)), some (.ref (ad G 20 0)), some (.int (iI block)), some (.int (iI st)), some (.int (iI m)), some (.int (iI k)), none, none] 6 [] := by
    intro fuel
    induction fuel with
    | zero => intro m k hk0 hk1 hs hf_6; exact absurd hf_6 (Nat.not_lt_zero _)
    | succ fuel ih_6 =>
      intro m k hk0 hk1 hs hf_6
      refine z_iload E dL_uses_6 rfl ?_
      refine z_aload_n E dL_uses_8 0 rfl rfl ?_
      refine z_iconst E dL_uses_9 ?_
      refine z_iald E (rfl : vl G 16 0 = true) 6 rfl (by omega) (by omega) (by omega) dL_uses_10 ?_
      refine z_icmp_ge E 82 dL_uses_11 rfl (by omega) (by omega) (fun c_2 => ?_) (fun c_2 => ?_)
      · skip
        refine z_iload E dL_uses_82 rfl ?_
        exact z_iret E Er0 dL_uses_84 (⟨by rw [hs, show k = V 16 0 0 by omega]; rfl, rfl, rfl⟩)
      · skip
        refine z_iconst E dL_uses_14 ?_
        refine z_istore E dL_uses_15 (L' := [some (.ref (ad G 16 0)), some (.ref (ad G 20 0)), some (.int (iI block)), some (.int (iI st)), some (.int (iI m)), some (.int (iI k)), some (.int (iI 0)), none]) (Nat.le_of_ble_eq_true rfl) rfl ?_
        refine z_iconst E dL_uses_17 ?_
        refine z_istore E dL_uses_18 (L' := [some (.ref (ad G 16 0)), some (.ref (ad G 20 0)), some (.int (iI block)), some (.int (iI st)), some (.int (iI m)), some (.int (iI k)), some (.int (iI 0)), some (.int (iI 0))]) (Nat.le_of_ble_eq_true rfl) rfl ?_
        have lp_20_3 : ∀ (fuel : Nat) (hh : Int) (q : Int), (0 ≤ q) → (q ≤ 6) → (hh = sm q (fun p => b2i (rD (V 20 0 k) p = block))) → (0 ≤ hh) → (hh ≤ q) → (6 - q : Int).toNat < fuel → Kz X G P V 0 0 [some (.ref (ad G 16 0)), some (.ref (ad G 20 0)), some (.int (iI block)), some (.int (iI st)), some (.int (iI m)), some (.int (iI k)), some (.int (iI hh)), some (.int (iI q))] 20 [] := by
          intro fuel
          induction fuel with
          | zero => intro hh q hq0 hq1 hi hi0 hi1 hf_20; exact absurd hf_20 (Nat.not_lt_zero _)
          | succ fuel ih_20 =>
            intro hh q hq0 hq1 hi hi0 hi1 hf_20
            refine z_iload E dL_uses_20 rfl ?_
            refine z_bipush E dL_uses_22 rfl ?_
            refine z_icmp_ge E 55 dL_uses_24 rfl (by omega) (by omega) (fun c_4 => ?_) (fun c_4 => ?_)
            · skip
              refine z_iload E dL_uses_55 rfl ?_
              refine z_iload_n E dL_uses_57 3 rfl rfl ?_
              refine z_if_eq E 71 dL_uses_58 rfl (by omega) (fun c_5 => ?_) (fun c_5 => ?_)
              · skip
                refine z_iload E dL_uses_71 rfl ?_
                refine z_iadd E dL_uses_73 ?_
                refine z_istore E dL_uses_74 (L' := [some (.ref (ad G 16 0)), some (.ref (ad G 20 0)), some (.int (iI block)), some (.int (iI st)), some (.int (iI (m + hh))), some (.int (iI k)), some (.int (iI hh)), some (.int (iI q))]) (Nat.le_of_ble_eq_true rfl) rfl ?_
                refine z_iinc E k dL_uses_76 (L' := [some (.ref (ad G 16 0)), some (.ref (ad G 20 0)), some (.int (iI block)), some (.int (iI st)), some (.int (iI (m + hh))), some (.int (iI (k + 1))), some (.int (iI hh)), some (.int (iI q))]) (Nat.le_of_ble_eq_true rfl) rfl rfl ?_
                refine z_goto E 6 dL_uses_79 rfl ?_
                refine Kz.drop 6 (L' := [some (.ref (ad G 16 0)), some (.ref (ad G 20 0)), some (.int (iI block)), some (.int (iI st)), some (.int (iI (m + hh))), some (.int (iI (k + 1))), none, some (.int (iI q))]) rfl ?_
                refine Kz.drop 7 (L' := [some (.ref (ad G 16 0)), some (.ref (ad G 20 0)), some (.int (iI block)), some (.int (iI st)), some (.int (iI (m + hh))), some (.int (iI (k + 1))), none, none]) rfl ?_
                exact ih_6 (m + hh) (k + 1) (by omega) (by omega) (us_s hs hi (by omega) hk0 (by unfold usK; first | (rw [if_pos (by omega)] <;> omega) | (rw [if_neg (by omega)] <;> omega))) (by omega)
              · skip
                refine z_iload E dL_uses_61 rfl ?_
                refine z_iconst E dL_uses_63 ?_
                refine z_icmp_le E 71 dL_uses_64 rfl (by omega) (by omega) (fun c_6 => ?_) (fun c_6 => ?_)
                · skip
                  refine z_iload E dL_uses_71 rfl ?_
                  refine z_iadd E dL_uses_73 ?_
                  refine z_istore E dL_uses_74 (L' := [some (.ref (ad G 16 0)), some (.ref (ad G 20 0)), some (.int (iI block)), some (.int (iI st)), some (.int (iI (m + hh))), some (.int (iI k)), some (.int (iI hh)), some (.int (iI q))]) (Nat.le_of_ble_eq_true rfl) rfl ?_
                  refine z_iinc E k dL_uses_76 (L' := [some (.ref (ad G 16 0)), some (.ref (ad G 20 0)), some (.int (iI block)), some (.int (iI st)), some (.int (iI (m + hh))), some (.int (iI (k + 1))), some (.int (iI hh)), some (.int (iI q))]) (Nat.le_of_ble_eq_true rfl) rfl rfl ?_
                  refine z_goto E 6 dL_uses_79 rfl ?_
                  refine Kz.drop 6 (L' := [some (.ref (ad G 16 0)), some (.ref (ad G 20 0)), some (.int (iI block)), some (.int (iI st)), some (.int (iI (m + hh))), some (.int (iI (k + 1))), none, some (.int (iI q))]) rfl ?_
                  refine Kz.drop 7 (L' := [some (.ref (ad G 16 0)), some (.ref (ad G 20 0)), some (.int (iI block)), some (.int (iI st)), some (.int (iI (m + hh))), some (.int (iI (k + 1))), none, none]) rfl ?_
                  exact ih_6 (m + hh) (k + 1) (by omega) (by omega) (us_s hs hi (by omega) hk0 (by unfold usK; first | (rw [if_pos (by omega)] <;> omega) | (rw [if_neg (by omega)] <;> omega))) (by omega)
                · skip
                  refine z_iconst E dL_uses_67 ?_
                  refine z_goto E 73 dL_uses_68 rfl ?_
                  refine z_iadd E dL_uses_73 ?_
                  refine z_istore E dL_uses_74 (L' := [some (.ref (ad G 16 0)), some (.ref (ad G 20 0)), some (.int (iI block)), some (.int (iI st)), some (.int (iI (m + 1))), some (.int (iI k)), some (.int (iI hh)), some (.int (iI q))]) (Nat.le_of_ble_eq_true rfl) rfl ?_
                  refine z_iinc E k dL_uses_76 (L' := [some (.ref (ad G 16 0)), some (.ref (ad G 20 0)), some (.int (iI block)), some (.int (iI st)), some (.int (iI (m + 1))), some (.int (iI (k + 1))), some (.int (iI hh)), some (.int (iI q))]) (Nat.le_of_ble_eq_true rfl) rfl rfl ?_
                  refine z_goto E 6 dL_uses_79 rfl ?_
                  refine Kz.drop 6 (L' := [some (.ref (ad G 16 0)), some (.ref (ad G 20 0)), some (.int (iI block)), some (.int (iI st)), some (.int (iI (m + 1))), some (.int (iI (k + 1))), none, some (.int (iI q))]) rfl ?_
                  refine Kz.drop 7 (L' := [some (.ref (ad G 16 0)), some (.ref (ad G 20 0)), some (.int (iI block)), some (.int (iI st)), some (.int (iI (m + 1))), some (.int (iI (k + 1))), none, none]) rfl ?_
                  exact ih_6 (m + 1) (k + 1) (by omega) (by omega) (us_s hs hi (by omega) hk0 (by unfold usK; first | (rw [if_pos (by omega)] <;> omega) | (rw [if_neg (by omega)] <;> omega))) (by omega)
            · skip
              refine z_iload E dL_uses_27 rfl ?_
              refine z_aload_n E dL_uses_29 1 rfl rfl ?_
              refine z_iload E dL_uses_30 rfl ?_
              refine z_iload E dL_uses_32 rfl ?_
              refine z_callS E (n := 3) (st := [.int (iI hh)]) [.ref (ad G 20 0), .int (iI k), .int (iI q)] (kL_block l G P V k q (by omega) (by omega) (hvr _).1) gL_uses_L_block rfl ⟨rfl, rfl⟩ (by decide +kernel) ⟨Nat.le_of_ble_eq_true rfl, Nat.le_of_ble_eq_true rfl⟩ rfl rfl (Nat.le_of_ble_eq_true rfl) rfl dL_uses_34 (z_dtI ?_)
              have hbd_7 := rD_bd (x := V 20 0 k) (p := q)
              refine z_iload_n E dL_uses_37 2 rfl rfl ?_
              refine z_icmp_ne E 45 dL_uses_38 rfl (by omega) (by omega) (fun c_8 => ?_) (fun c_8 => ?_)
              · skip
                refine z_iconst E dL_uses_45 ?_
                refine z_iadd E dL_uses_46 ?_
                refine z_istore E dL_uses_47 (L' := [some (.ref (ad G 16 0)), some (.ref (ad G 20 0)), some (.int (iI block)), some (.int (iI st)), some (.int (iI m)), some (.int (iI k)), some (.int (iI (hh + 0))), some (.int (iI q))]) (Nat.le_of_ble_eq_true rfl) rfl ?_
                refine z_iinc E q dL_uses_49 (L' := [some (.ref (ad G 16 0)), some (.ref (ad G 20 0)), some (.int (iI block)), some (.int (iI st)), some (.int (iI m)), some (.int (iI k)), some (.int (iI (hh + 0))), some (.int (iI (q + 1)))]) (Nat.le_of_ble_eq_true rfl) rfl rfl ?_
                refine z_goto E 20 dL_uses_52 rfl ?_
                exact ih_20 (hh + 0) (q + 1) (by omega) (by omega) (by first | exact smb_t hi (by omega) (by first | assumption | omega) | exact smb_f hi (by omega) (by first | assumption | omega) | exact smb_f0 hi (by omega) (by first | assumption | omega)) (by omega) (by omega) (by omega)
              · skip
                refine z_iconst E dL_uses_41 ?_
                refine z_goto E 46 dL_uses_42 rfl ?_
                refine z_iadd E dL_uses_46 ?_
                refine z_istore E dL_uses_47 (L' := [some (.ref (ad G 16 0)), some (.ref (ad G 20 0)), some (.int (iI block)), some (.int (iI st)), some (.int (iI m)), some (.int (iI k)), some (.int (iI (hh + 1))), some (.int (iI q))]) (Nat.le_of_ble_eq_true rfl) rfl ?_
                refine z_iinc E q dL_uses_49 (L' := [some (.ref (ad G 16 0)), some (.ref (ad G 20 0)), some (.int (iI block)), some (.int (iI st)), some (.int (iI m)), some (.int (iI k)), some (.int (iI (hh + 1))), some (.int (iI (q + 1)))]) (Nat.le_of_ble_eq_true rfl) rfl rfl ?_
                refine z_goto E 20 dL_uses_52 rfl ?_
                exact ih_20 (hh + 1) (q + 1) (by omega) (by omega) (by first | exact smb_t hi (by omega) (by first | assumption | omega) | exact smb_f hi (by omega) (by first | assumption | omega) | exact smb_f0 hi (by omega) (by first | assumption | omega)) (by omega) (by omega) (by omega)
        exact lp_20_3 ((6 - 0 : Int).toNat + 1) 0 0 (by omega) (by omega) (sm_0 (by omega)).symm (by omega) (by omega) (Nat.lt_succ_self _)
  exact lp_6_1 ((V 16 0 0 - 0 : Int).toNat + 1) 0 0 (by omega) (by omega) (sm_0 (by omega)).symm (Nat.lt_succ_self _)

set_option maxHeartbeats 4000000 in
set_option maxRecDepth 100000 in
theorem kL_sweep (l : Launch) (G : Gl) (P : Nat → Nat) (V : Vt) (hB : BV V) (hg : 0 ≤ V 16 0 0 ∧ V 16 0 0 ≤ 16) (hvr : LVr (V 20 0)) (hvb : LVb (V 22 0)) : Met l yL_sweep wsL_sweep ({ frames := 2, cells := 0, slots := 0, locals := 49 }) (va_Pc [.ref (ad G 16 0), .ref (ad G 20 0), .ref (ad G 22 0)] (Sg G P V)) (Qk G mkI (fun r P' V' => P' = P ∧ BV V' ∧ r = sm 40 (fun j => b2i (0 ≤ V 22 0 j ∧ lU (V 16 0 0) (V 20 0) 0 j = 0)) ∧ V' = up V 22 0 (swB (V 16 0 0) (V 20 0) (V 22 0) 40))) 0 0 (mem G) := by
  refine z_met (cc := cL_sweep) (nL := 5) (ret := (some .int)) (own := RL) (by decide +kernel) rfl rfl (Nat.le_of_ble_eq_true rfl) (L := [some (.ref (ad G 16 0)), some (.ref (ad G 20 0)), some (.ref (ad G 22 0)), none, none]) rfl ?_
  intro X E Er0
  have f0 : Cond.constantLong RL 27 (-1) ∈ wsL_sweep := by decide +kernel
  refine z_iconst E dL_sweep_0 ?_
  refine z_istore_n E dL_sweep_1 3 rfl (L' := [some (.ref (ad G 16 0)), some (.ref (ad G 20 0)), some (.ref (ad G 22 0)), some (.int (iI 0)), none]) (Nat.le_of_ble_eq_true rfl) rfl ?_
  refine z_iconst E dL_sweep_2 ?_
  refine z_istore E dL_sweep_3 (L' := [some (.ref (ad G 16 0)), some (.ref (ad G 20 0)), some (.ref (ad G 22 0)), some (.int (iI 0)), some (.int (iI 0))]) (Nat.le_of_ble_eq_true rfl) rfl ?_
  have lp_5_1 : ∀ (fuel : Nat) (m : Int) (k : Int) (Vl_5 : Vt), BV Vl_5 → (0 ≤ k) → (k ≤ 40) → (m = sm k (fun j => b2i (0 ≤ V 22 0 j ∧ lU (V 16 0 0) (V 20 0) 0 j = 0))) → (Vl_5 = up V 22 0 (swB (V 16 0 0) (V 20 0) (V 22 0) k)) → (40 - k : Int).toNat < fuel → Kz X G P Vl_5 0 0 [some (.ref (ad G 16 0)), some (.ref (ad G 20 0)), some (.ref (ad G 22 0)), some (.int (iI m)), some (.int (iI k))] 5 [] := by
    intro fuel
    induction fuel with
    | zero => intro m k Vl_5 hBl_5 hk0 hk1 hs hVl hf_5; exact absurd hf_5 (Nat.not_lt_zero _)
    | succ fuel ih_5 =>
      intro m k Vl_5 hBl_5 hk0 hk1 hs hVl hf_5
      have g16 : Vl_5 16 0 = V 16 0 := by rw [hVl]; rfl
      have g20 : Vl_5 20 0 = V 20 0 := by rw [hVl]; rfl
      have g22 : Vl_5 22 0 k = V 22 0 k := by rw [hVl, up_s]; exact swB_k
      have hvbl : LVb (Vl_5 22 0) := by rw [hVl, up_s]; exact swB_b hvb
      refine z_iload E dL_sweep_5 rfl ?_
      refine z_bipush E dL_sweep_7 rfl ?_
      refine z_icmp_ge E 48 dL_sweep_9 rfl (by omega) (by omega) (fun c_2 => ?_) (fun c_2 => ?_)
      · skip
        refine z_iload_n E dL_sweep_48 3 rfl rfl ?_
        exact z_iret E Er0 dL_sweep_49 (⟨rfl, hBl_5, by rw [hs, show k = 40 by omega], by rw [hVl, show k = 40 by omega]⟩)
      · skip
        refine z_aload_n E dL_sweep_12 2 rfl rfl ?_
        refine z_iload E dL_sweep_13 rfl ?_
        refine z_lald E (rfl : vl G 22 0 = true) 40 rfl (by omega) (by omega) (by omega) dL_sweep_15 ?_
        have hr_3 := hvbl k
        refine z_lconst E 0 rfl dL_sweep_16 ?_
        refine z_lcmp E (by omega) (by omega) dL_sweep_17 ?_
        refine z_iflt_c E 42 dL_sweep_18 rfl (fun c_4 => ?_) (fun c_4 => ?_)
        · skip
          refine z_iinc E k dL_sweep_42 (L' := [some (.ref (ad G 16 0)), some (.ref (ad G 20 0)), some (.ref (ad G 22 0)), some (.int (iI m)), some (.int (iI (k + 1)))]) (Nat.le_of_ble_eq_true rfl) rfl rfl ?_
          refine z_goto E 5 dL_sweep_45 rfl ?_
          exact ih_5 m (k + 1) Vl_5 hBl_5 (by omega) (by omega) (by first | exact smb_t hs (by omega) (by omega) | exact smb_f0 hs (by omega) (by omega)) (by first | (rw [hVl, up_s, swB_t hk0 (by omega) (by omega), upup]) | (rw [hVl, swB_f (by omega)])) (by omega)
        · skip
          refine z_aload_n E dL_sweep_21 0 rfl rfl ?_
          refine z_aload_n E dL_sweep_22 1 rfl rfl ?_
          refine z_iload E dL_sweep_23 rfl ?_
          refine z_iconst E dL_sweep_25 ?_
          refine z_callS E (n := 4) (st := []) [.ref (ad G 16 0), .ref (ad G 20 0), .int (iI k), .int (iI 0)] (kL_uses l G P Vl_5 k 0 (g16 ▸ hg) (g20 ▸ hvr) (by omega) (by omega)) gL_sweep_L_uses rfl ⟨rfl, rfl⟩ (by decide +kernel) ⟨Nat.le_of_ble_eq_true rfl, Nat.le_of_ble_eq_true rfl⟩ rfl rfl (Nat.le_of_ble_eq_true rfl) rfl dL_sweep_26 (z_dtI ?_)
          rw [g16, g20]
          have hu_5 := lU_bd (R := V 20 0) (st := 0) (b := k) hg.1 hg.2
          refine z_if_ne E 42 dL_sweep_29 rfl (by omega) (fun c_6 => ?_) (fun c_6 => ?_)
          · skip
            refine z_iinc E k dL_sweep_42 (L' := [some (.ref (ad G 16 0)), some (.ref (ad G 20 0)), some (.ref (ad G 22 0)), some (.int (iI m)), some (.int (iI (k + 1)))]) (Nat.le_of_ble_eq_true rfl) rfl rfl ?_
            refine z_goto E 5 dL_sweep_45 rfl ?_
            exact ih_5 m (k + 1) Vl_5 hBl_5 (by omega) (by omega) (by first | exact smb_t hs (by omega) (by omega) | exact smb_f0 hs (by omega) (by omega)) (by first | (rw [hVl, up_s, swB_t hk0 (by omega) (by omega), upup]) | (rw [hVl, swB_f (by omega)])) (by omega)
          · skip
            refine z_aload_n E dL_sweep_32 2 rfl rfl ?_
            refine z_iload E dL_sweep_33 rfl ?_
            refine z_ldc2 E (-1) f0 rfl dL_sweep_35 ?_
            refine z_last E (rfl : vl G 22 0 = true) 40 (fun _ => rfl) (by omega) (by omega) (by omega) dL_sweep_38 ?_
            obtain ⟨V7, hV7⟩ : ∃ Z : Vt, Z = up Vl_5 22 0 (updI (Vl_5 22 0) k (-1)) := ⟨_, rfl⟩
            rw [← hV7]
            have hB7 : BV V7 := hV7 ▸ BV_up hBl_5 (fun hz => absurd (by simp [ctr]) hz)
            refine z_iinc E m dL_sweep_39 (L' := [some (.ref (ad G 16 0)), some (.ref (ad G 20 0)), some (.ref (ad G 22 0)), some (.int (iI (m + 1))), some (.int (iI k))]) (Nat.le_of_ble_eq_true rfl) rfl rfl ?_
            refine z_iinc E k dL_sweep_42 (L' := [some (.ref (ad G 16 0)), some (.ref (ad G 20 0)), some (.ref (ad G 22 0)), some (.int (iI (m + 1))), some (.int (iI (k + 1)))]) (Nat.le_of_ble_eq_true rfl) rfl rfl ?_
            refine z_goto E 5 dL_sweep_45 rfl ?_
            exact ih_5 (m + 1) (k + 1) V7 hB7 (by omega) (by omega) (by first | exact smb_t hs (by omega) (by omega) | exact smb_f0 hs (by omega) (by omega)) (by first | (rw [hV7, hVl, up_s, swB_t hk0 (by omega) (by omega), upup]) | (rw [hVl, swB_f (by omega)])) (by omega)
  exact lp_5_1 ((40 - 0 : Int).toNat + 1) 0 0 V hB (by omega) (by omega) (sm_0 (by omega)).symm (by rw [swB_0]; exact up_self.symm) (Nat.lt_succ_self _)

set_option maxHeartbeats 4000000 in
set_option maxRecDepth 100000 in
theorem kL_like (l : Launch) (G : Gl) (P : Nat → Nat) (V : Vt) (low : Int) (high : Int) (bt : Int) (hva : LVa (V 21 0)) (hvb : LVb (V 22 0)) (h1 : inL low) (h2 : inL high) (h3 : inR bt) : Met l yL_like wsL_like ({ frames := 0, cells := 0, slots := 0, locals := 0 }) (va_Pc [.ref (ad G 21 0), .ref (ad G 22 0), .long (iL low), .long (iL high), .int (iI bt)] (Sg G P V)) (Qk G mkI (dt (lkF (V 21 0) (V 22 0) low high bt) P V)) 0 0 (mem G) := by
  refine z_met (cc := cL_like) (nL := 8) (ret := (some .int)) (own := RL) (by decide +kernel) rfl rfl (Nat.le_of_ble_eq_true rfl) (L := [some (.ref (ad G 21 0)), some (.ref (ad G 22 0)), some (.long (iL low)), none, some (.long (iL high)), none, some (.int (iI bt)), none]) rfl ?_
  intro X E Er0
  refine z_iconst E dL_like_0 ?_
  refine z_istore E dL_like_1 (L' := [some (.ref (ad G 21 0)), some (.ref (ad G 22 0)), some (.long (iL low)), none, some (.long (iL high)), none, some (.int (iI bt)), some (.int (iI 0))]) (Nat.le_of_ble_eq_true rfl) rfl ?_
  have lp_3_1 : ∀ (fuel : Nat) (k : Int), (0 ≤ k) → (k ≤ 40) → (∀ j, 0 ≤ j → j < k → ¬ (0 ≤ V 22 0 j ∧ V 21 0 j = low ∧ V 22 0 j = high ∧ j ≠ bt)) → (40 - k : Int).toNat < fuel → Kz X G P V 0 0 [some (.ref (ad G 21 0)), some (.ref (ad G 22 0)), some (.long (iL low)), none, some (.long (iL high)), none, some (.int (iI bt)), some (.int (iI k))] 3 [] := by
    intro fuel
    induction fuel with
    | zero => intro k hk0 hk1 hla hf_3; exact absurd hf_3 (Nat.not_lt_zero _)
    | succ fuel ih_3 =>
      intro k hk0 hk1 hla hf_3
      refine z_iload E dL_like_3 rfl ?_
      refine z_bipush E dL_like_5 rfl ?_
      refine z_icmp_ge E 51 dL_like_7 rfl (by omega) (by omega) (fun c_2 => ?_) (fun c_2 => ?_)
      · skip
        refine z_iload E dL_like_51 rfl ?_
        refine z_bipush E dL_like_53 rfl ?_
        refine z_icmp_ge E 63 dL_like_55 rfl (by omega) (by omega) (fun c_3 => ?_) (fun c_3 => ?_)
        · skip
          refine z_iconst E dL_like_63 ?_
          exact z_iret E Er0 dL_like_64 (by first | (exfalso; omega) | exact ⟨(lkF_y (by omega) (by omega) (by omega) (by omega) (by omega) (by omega) hla).symm, rfl, rfl⟩ | exact ⟨(fnd_n (fun j h0 h1 => hla j h0 (by omega))).symm, rfl, rfl⟩)
        · skip
          refine z_iload E dL_like_58 rfl ?_
          refine z_goto E 64 dL_like_60 rfl ?_
          exact z_iret E Er0 dL_like_64 (by first | (exfalso; omega) | exact ⟨(lkF_y (by omega) (by omega) (by omega) (by omega) (by omega) (by omega) hla).symm, rfl, rfl⟩ | exact ⟨(fnd_n (fun j h0 h1 => hla j h0 (by omega))).symm, rfl, rfl⟩)
      · skip
        refine z_aload_n E dL_like_10 1 rfl rfl ?_
        refine z_iload E dL_like_11 rfl ?_
        refine z_lald E (rfl : vl G 22 0 = true) 40 rfl (by omega) (by omega) (by omega) dL_like_13 ?_
        have hr_4 := hvb k
        refine z_lconst E 0 rfl dL_like_14 ?_
        refine z_lcmp E (by omega) (by omega) dL_like_15 ?_
        refine z_iflt_c E 45 dL_like_16 rfl (fun c_5 => ?_) (fun c_5 => ?_)
        · skip
          refine z_iinc E k dL_like_45 (L' := [some (.ref (ad G 21 0)), some (.ref (ad G 22 0)), some (.long (iL low)), none, some (.long (iL high)), none, some (.int (iI bt)), some (.int (iI (k + 1)))]) (Nat.le_of_ble_eq_true rfl) rfl rfl ?_
          refine z_goto E 3 dL_like_48 rfl ?_
          exact ih_3 (k + 1) (by omega) (by omega) (all_s hla (by omega)) (by omega)
        · skip
          refine z_aload_n E dL_like_19 0 rfl rfl ?_
          refine z_iload E dL_like_20 rfl ?_
          refine z_lald E (rfl : vl G 21 0 = true) 40 rfl (by omega) (by omega) (by omega) dL_like_22 ?_
          have hr_6 := hva k
          refine z_lload_n E dL_like_23 2 rfl rfl ?_
          refine z_lcmp E (by omega) (by omega) dL_like_24 ?_
          refine z_ifne_c E 45 dL_like_25 rfl (fun c_7 => ?_) (fun c_7 => ?_)
          · skip
            refine z_iinc E k dL_like_45 (L' := [some (.ref (ad G 21 0)), some (.ref (ad G 22 0)), some (.long (iL low)), none, some (.long (iL high)), none, some (.int (iI bt)), some (.int (iI (k + 1)))]) (Nat.le_of_ble_eq_true rfl) rfl rfl ?_
            refine z_goto E 3 dL_like_48 rfl ?_
            exact ih_3 (k + 1) (by omega) (by omega) (all_s hla (by omega)) (by omega)
          · skip
            refine z_aload_n E dL_like_28 1 rfl rfl ?_
            refine z_iload E dL_like_29 rfl ?_
            refine z_lald E (rfl : vl G 22 0 = true) 40 rfl (by omega) (by omega) (by omega) dL_like_31 ?_
            have hr_8 := hvb k
            refine z_lload E dL_like_32 rfl ?_
            refine z_lcmp E (by omega) (by omega) dL_like_34 ?_
            refine z_ifne_c E 45 dL_like_35 rfl (fun c_9 => ?_) (fun c_9 => ?_)
            · skip
              refine z_iinc E k dL_like_45 (L' := [some (.ref (ad G 21 0)), some (.ref (ad G 22 0)), some (.long (iL low)), none, some (.long (iL high)), none, some (.int (iI bt)), some (.int (iI (k + 1)))]) (Nat.le_of_ble_eq_true rfl) rfl rfl ?_
              refine z_goto E 3 dL_like_48 rfl ?_
              exact ih_3 (k + 1) (by omega) (by omega) (all_s hla (by omega)) (by omega)
            · skip
              refine z_iload E dL_like_38 rfl ?_
              refine z_iload E dL_like_40 rfl ?_
              refine z_icmp_ne E 51 dL_like_42 rfl (by omega) (by omega) (fun c_10 => ?_) (fun c_10 => ?_)
              · skip
                refine z_iload E dL_like_51 rfl ?_
                refine z_bipush E dL_like_53 rfl ?_
                refine z_icmp_ge E 63 dL_like_55 rfl (by omega) (by omega) (fun c_11 => ?_) (fun c_11 => ?_)
                · skip
                  refine z_iconst E dL_like_63 ?_
                  exact z_iret E Er0 dL_like_64 (by first | (exfalso; omega) | exact ⟨(lkF_y (by omega) (by omega) (by omega) (by omega) (by omega) (by omega) hla).symm, rfl, rfl⟩ | exact ⟨(fnd_n (fun j h0 h1 => hla j h0 (by omega))).symm, rfl, rfl⟩)
                · skip
                  refine z_iload E dL_like_58 rfl ?_
                  refine z_goto E 64 dL_like_60 rfl ?_
                  exact z_iret E Er0 dL_like_64 (by first | (exfalso; omega) | exact ⟨(lkF_y (by omega) (by omega) (by omega) (by omega) (by omega) (by omega) hla).symm, rfl, rfl⟩ | exact ⟨(fnd_n (fun j h0 h1 => hla j h0 (by omega))).symm, rfl, rfl⟩)
              · skip
                refine z_iinc E k dL_like_45 (L' := [some (.ref (ad G 21 0)), some (.ref (ad G 22 0)), some (.long (iL low)), none, some (.long (iL high)), none, some (.int (iI bt)), some (.int (iI (k + 1)))]) (Nat.le_of_ble_eq_true rfl) rfl rfl ?_
                refine z_goto E 3 dL_like_48 rfl ?_
                exact ih_3 (k + 1) (by omega) (by omega) (all_s hla (by omega)) (by omega)
  exact lp_3_1 ((40 - 0 : Int).toNat + 1) 0 (by omega) (by omega) all_0 (Nat.lt_succ_self _)

set_option maxHeartbeats 4000000 in
set_option maxRecDepth 100000 in
theorem kL_stands (l : Launch) (G : Gl) (P : Nat → Nat) (V : Vt) (state : Int) (hB : BV V) (a1 : inR state) : Met l yL_stands wsL_stands ({ frames := 0, cells := 0, slots := 0, locals := 0 }) (va_Pc [.ref (ad G 17 0), .int (iI state)] (Sg G P V)) (Qk G mkI (dt (b2i (V 17 0 0 = state ∨ V 17 0 1 = state ∨ V 17 0 2 = state ∨ V 17 0 3 = state)) P V)) 0 0 (mem G) := by
  refine z_met (cc := cL_stands) (nL := 2) (ret := (some .boolean)) (own := RL) (by decide +kernel) rfl rfl (Nat.le_of_ble_eq_true rfl) (L := [some (.ref (ad G 17 0)), some (.int (iI state))]) rfl ?_
  intro X E Er0
  refine z_aload_n E dL_stands_0 0 rfl rfl ?_
  refine z_iconst E dL_stands_1 ?_
  refine z_iald E (rfl : vl G 17 0 = true) 4 rfl (by omega) (by omega) (by omega) dL_stands_2 ?_
  have hr_1 := hB.g 17 0 0 rfl
  refine z_iload_n E dL_stands_3 1 rfl rfl ?_
  refine z_icmp_eq E 28 dL_stands_4 rfl (by omega) (by omega) (fun c_2 => ?_) (fun c_2 => ?_)
  · skip
    refine z_iconst E dL_stands_28 ?_
    refine z_goto E 33 dL_stands_29 rfl ?_
    exact z_zret E Er0 dL_stands_33 (by first | decide | omega) (by first | exact ⟨(b2i_t (by omega)).symm, rfl, rfl⟩ | exact ⟨(b2i_f (by omega)).symm, rfl, rfl⟩ | exact ⟨rfl, rfl, rfl⟩ | (exfalso; omega))
  · skip
    refine z_aload_n E dL_stands_7 0 rfl rfl ?_
    refine z_iconst E dL_stands_8 ?_
    refine z_iald E (rfl : vl G 17 0 = true) 4 rfl (by omega) (by omega) (by omega) dL_stands_9 ?_
    have hr_3 := hB.g 17 0 1 rfl
    refine z_iload_n E dL_stands_10 1 rfl rfl ?_
    refine z_icmp_eq E 28 dL_stands_11 rfl (by omega) (by omega) (fun c_4 => ?_) (fun c_4 => ?_)
    · skip
      refine z_iconst E dL_stands_28 ?_
      refine z_goto E 33 dL_stands_29 rfl ?_
      exact z_zret E Er0 dL_stands_33 (by first | decide | omega) (by first | exact ⟨(b2i_t (by omega)).symm, rfl, rfl⟩ | exact ⟨(b2i_f (by omega)).symm, rfl, rfl⟩ | exact ⟨rfl, rfl, rfl⟩ | (exfalso; omega))
    · skip
      refine z_aload_n E dL_stands_14 0 rfl rfl ?_
      refine z_iconst E dL_stands_15 ?_
      refine z_iald E (rfl : vl G 17 0 = true) 4 rfl (by omega) (by omega) (by omega) dL_stands_16 ?_
      have hr_5 := hB.g 17 0 2 rfl
      refine z_iload_n E dL_stands_17 1 rfl rfl ?_
      refine z_icmp_eq E 28 dL_stands_18 rfl (by omega) (by omega) (fun c_6 => ?_) (fun c_6 => ?_)
      · skip
        refine z_iconst E dL_stands_28 ?_
        refine z_goto E 33 dL_stands_29 rfl ?_
        exact z_zret E Er0 dL_stands_33 (by first | decide | omega) (by first | exact ⟨(b2i_t (by omega)).symm, rfl, rfl⟩ | exact ⟨(b2i_f (by omega)).symm, rfl, rfl⟩ | exact ⟨rfl, rfl, rfl⟩ | (exfalso; omega))
      · skip
        refine z_aload_n E dL_stands_21 0 rfl rfl ?_
        refine z_iconst E dL_stands_22 ?_
        refine z_iald E (rfl : vl G 17 0 = true) 4 rfl (by omega) (by omega) (by omega) dL_stands_23 ?_
        have hr_7 := hB.g 17 0 3 rfl
        refine z_iload_n E dL_stands_24 1 rfl rfl ?_
        refine z_icmp_ne E 32 dL_stands_25 rfl (by omega) (by omega) (fun c_8 => ?_) (fun c_8 => ?_)
        · skip
          refine z_iconst E dL_stands_32 ?_
          exact z_zret E Er0 dL_stands_33 (by first | decide | omega) (by first | exact ⟨(b2i_t (by omega)).symm, rfl, rfl⟩ | exact ⟨(b2i_f (by omega)).symm, rfl, rfl⟩ | exact ⟨rfl, rfl, rfl⟩ | (exfalso; omega))
        · skip
          refine z_iconst E dL_stands_28 ?_
          refine z_goto E 33 dL_stands_29 rfl ?_
          exact z_zret E Er0 dL_stands_33 (by first | decide | omega) (by first | exact ⟨(b2i_t (by omega)).symm, rfl, rfl⟩ | exact ⟨(b2i_f (by omega)).symm, rfl, rfl⟩ | exact ⟨rfl, rfl, rfl⟩ | (exfalso; omega))
