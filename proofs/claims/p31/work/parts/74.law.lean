/-! ===== the law's walk behind its makings ===== -/
section LAW
variable {X : Cx} {l0 : Launch} {G : Gl} {b N : Nat} {xs : Nat → Int32}
def Ed (X : Cx) (G : Gl) : Prop := ∀ (P : Nat → Nat) (V : Vt) (uc us : Nat) (L : List (Option Value)), uc ≤ 600000 → us ≤ 7302249 → Kz X G P V uc us L 267 [.int (iI 1)]
theorem law_end (E : Ev X l0 G room_1 cL_law 12 wsL_law RL) (hE : Ed X G) {P : Nat → Nat} {V : Vt} {s : Int → Int} {uc us : Nat} {t k : Int} (hC : LC P V s) (hu : uc ≤ 600000) (hw : us ≤ 7302249) : Kz X G P V uc us [some (.ref b), some (.ref (ad G 10 0)), some (.ref (ad G 16 0)), some (.ref (ad G 17 0)), some (.ref (ad G 18 0)), some (.ref (ad G 19 0)), some (.ref (ad G 20 0)), some (.ref (ad G 21 0)), some (.ref (ad G 22 0)), some (.int (iI 1)), some (.int (iI t)), some (.int (iI k))] 224 [] := by
  have hB := hC.B
  have f84 : Cond.constant RL 84 (-1000001) ∈ wsL_law := wsL_law_r1_of _ (List.mem_of_getElem? (i := 6) rfl)
  refine z_iload E dL_law_224 rfl ?_
  refine z_if_eq E 266 dL_law_226 rfl (by decide) (fun c => absurd c (by decide)) (fun _ => ?_)
  refine z_aload_n E dL_law_229 1 rfl rfl ?_
  refine z_bipush E dL_law_230 rfl ?_
  refine z_callV E (ci := 5) (N := 4) (C := RX5) (T := TX5) (n := 1) (st := []) (rfl : vl G 10 0 = true) rfl rfl [.int (iI 11)] (kX5_count l0 G P V 11 hC.w0 hB hC.n0 hC.n1 hC.L (by decide)) gL_law_X5_count rfl ⟨rfl, rfl⟩ (by decide +kernel) ⟨Nat.le_of_ble_eq_true rfl, Nat.le_of_ble_eq_true rfl⟩ rfl rfl (Nat.le_of_ble_eq_true rfl) rfl dL_law_232 (z_dtI ?_) (hN := ⟨by show uc ≤ 600000; exact hu, by show us ≤ 7302249; exact hw⟩)
  refine z_ldc E (-1000001) f84 rfl dL_law_235 ?_
  refine z_icne_e E (cq_no (V := V) (w := P 0) (x := 11) (Or.inl rfl)) dL_law_237 266 rfl ?_
  refine z_aload_n E dL_law_240 1 rfl rfl ?_
  refine z_bipush E dL_law_241 rfl ?_
  refine z_callV E (ci := 5) (N := 4) (C := RX5) (T := TX5) (n := 1) (st := []) (rfl : vl G 10 0 = true) rfl rfl [.int (iI 19)] (kX5_count l0 G P V 19 hC.w0 hB hC.n0 hC.n1 hC.L (by decide)) gL_law_X5_count rfl ⟨rfl, rfl⟩ (by decide +kernel) ⟨Nat.le_of_ble_eq_true rfl, Nat.le_of_ble_eq_true rfl⟩ rfl rfl (Nat.le_of_ble_eq_true rfl) rfl dL_law_243 (z_dtI ?_) (hN := ⟨by show uc ≤ 600000; exact hu, by show us ≤ 7302249; exact hw⟩)
  refine z_ldc E (-1000001) f84 rfl dL_law_246 ?_
  refine z_icne_e E (cq_no (V := V) (w := P 0) (x := 19) (Or.inr (Or.inl rfl))) dL_law_248 266 rfl ?_
  refine z_aload_n E dL_law_251 1 rfl rfl ?_
  refine z_bipush E dL_law_252 rfl ?_
  refine z_callV E (ci := 5) (N := 4) (C := RX5) (T := TX5) (n := 1) (st := []) (rfl : vl G 10 0 = true) rfl rfl [.int (iI 21)] (kX5_count l0 G P V 21 hC.w0 hB hC.n0 hC.n1 hC.L (by decide)) gL_law_X5_count rfl ⟨rfl, rfl⟩ (by decide +kernel) ⟨Nat.le_of_ble_eq_true rfl, Nat.le_of_ble_eq_true rfl⟩ rfl rfl (Nat.le_of_ble_eq_true rfl) rfl dL_law_254 (z_dtI ?_) (hN := ⟨by show uc ≤ 600000; exact hu, by show us ≤ 7302249; exact hw⟩)
  refine z_ldc E (-1000001) f84 rfl dL_law_257 ?_
  refine z_icne_e E (cq_no (V := V) (w := P 0) (x := 21) (Or.inr (Or.inr rfl))) dL_law_259 266 rfl ?_
  refine z_iconst E dL_law_262 ?_
  refine z_goto E 267 dL_law_263 rfl ?_
  exact hE P V uc us _ hu hw
theorem law_loop (E : Ev X l0 G room_1 cL_law 12 wsL_law RL) (hEa : Ea X) (hX : Xs X b N xs) (hN : N ≤ 260) (hG0 : fv G = false) (hE : Ed X G) {t : Int} (ht : t ≤ 66) : ∀ (fuel : Nat) (P : Nat → Nat) (V : Vt) (s : Int → Int) (uc us : Nat) (k : Int), LC P V s → LN V s → HBr s → s 1 ≤ 1 + k → 0 ≤ k → k ≤ t → (uc : Int) ≤ 73 + k → (us : Int) ≤ 3551 + 48 * k → (t - k).toNat < fuel → Kz X G P V uc us [some (.ref b), some (.ref (ad G 10 0)), some (.ref (ad G 16 0)), some (.ref (ad G 17 0)), some (.ref (ad G 18 0)), some (.ref (ad G 19 0)), some (.ref (ad G 20 0)), some (.ref (ad G 21 0)), some (.ref (ad G 22 0)), some (.int (iI 1)), some (.int (iI t)), some (.int (iI k))] 146 [] := by
  intro fuel
  induction fuel with
  | zero => intro P V s uc us k _ _ _ _ _ _ _ _ hf; exact absurd hf (Nat.not_lt_zero _)
  | succ fuel ih =>
    intro P V s uc us k hC hL hH hs k0 kt hu hw hf
    refine z_iload E dL_law_146 rfl ?_
    refine z_iload E dL_law_148 rfl ?_
    refine z_icmp_ge E 224 dL_law_150 rfl (by omega) (by omega) (fun _ => law_end E hE hC (by omega) (by omega)) (fun ck => ?_)
    refine z_iload E dL_law_153 rfl ?_
    refine z_if_eq E 224 dL_law_155 rfl (by decide) (fun c => absurd c (by decide)) (fun _ => ?_)
    refine z_aload_n E dL_law_158 1 rfl rfl ?_
    refine z_aload_n E dL_law_159 2 rfl rfl ?_
    refine z_aload_n E dL_law_160 3 rfl rfl ?_
    refine z_aload E dL_law_161 rfl ?_
    refine z_aload E dL_law_163 rfl ?_
    refine z_aload E dL_law_165 rfl ?_
    refine z_aload E dL_law_167 rfl ?_
    refine z_aload E dL_law_169 rfl ?_
    refine z_aload_n E dL_law_171 0 rfl rfl ?_
    refine z_iconst E dL_law_172 ?_
    refine z_iload E dL_law_173 rfl ?_
    refine z_iadd E dL_law_175 ?_
    refine z_cell E hX hN (by omega) (by omega) gL_law_L_cell ⟨Nat.le_of_ble_eq_true rfl, Nat.le_of_ble_eq_true rfl⟩ rfl (Nat.le_of_ble_eq_true rfl) dL_law_176 ⟨by show uc ≤ 600000; omega, by show us ≤ 7302249; omega⟩ (fun r hr => ?_)
    refine z_sipush E dL_law_179 rfl ?_
    refine z_iload E dL_law_182 rfl ?_
    refine z_imul E dL_law_184 ?_
    refine z_ixorN E dL_law_185 (fun z hz => ?_)
    refine z_callSA E hEa (c1 := 1) (s1 := 48) (n := 9) (st := []) [.ref (ad G 10 0), .ref (ad G 16 0), .ref (ad G 17 0), .ref (ad G 18 0), .ref (ad G 19 0), .ref (ad G 20 0), .ref (ad G 21 0), .ref (ad G 22 0), .int (iI z)] (kL_acts l0 G P V z s hC hL hH (by omega) hG0) gL_law_L_acts rfl ⟨rfl, rfl⟩ (by decide +kernel) ⟨Nat.le_of_ble_eq_true rfl, Nat.le_of_ble_eq_true rfl⟩ rfl rfl (Nat.le_of_ble_eq_true rfl) rfl dL_law_186 ⟨by show uc + 1 ≤ 600000; omega, by show us + 48 ≤ 7302249; omega⟩ (z_exI (fun r1 P1 V1 h1 => ?_))
    obtain ⟨hr1, s1, hC1, hL1, hH1, hs1⟩ := h1
    rw [hr1]
    refine z_if_eq E 215 dL_law_189 rfl (by decide) (fun c => absurd c (by decide)) (fun _ => ?_)
    refine z_aload_n E dL_law_192 1 rfl rfl ?_
    refine z_aload_n E dL_law_193 2 rfl rfl ?_
    refine z_aload_n E dL_law_194 3 rfl rfl ?_
    refine z_aload E dL_law_195 rfl ?_
    refine z_aload E dL_law_197 rfl ?_
    refine z_aload E dL_law_199 rfl ?_
    refine z_aload E dL_law_201 rfl ?_
    refine z_aload E dL_law_203 rfl ?_
    refine z_callS E (n := 8) (st := []) [.ref (ad G 10 0), .ref (ad G 16 0), .ref (ad G 17 0), .ref (ad G 18 0), .ref (ad G 19 0), .ref (ad G 20 0), .ref (ad G 21 0), .ref (ad G 22 0)] (kL_isSo l0 G P1 V1 s1 hC1 hL1) gL_law_L_isSo rfl ⟨rfl, rfl⟩ (by decide +kernel) ⟨Nat.le_of_ble_eq_true rfl, Nat.le_of_ble_eq_true rfl⟩ rfl rfl (Nat.le_of_ble_eq_true rfl) rfl dL_law_205 (z_exI (fun r2 P2 V2 h2 => ?_)) (hN := ⟨by show uc + 1 ≤ 600000; omega, by show us + 48 ≤ 7302249; omega⟩)
    obtain ⟨hr2, hP2, hV2⟩ := h2
    rw [hr2, hP2, hV2]
    refine z_if_eq E 215 dL_law_208 rfl (by decide) (fun c => absurd c (by decide)) (fun _ => ?_)
    refine z_iconst E dL_law_211 ?_
    refine z_goto E 216 dL_law_212 rfl ?_
    refine z_istore E dL_law_216 (L' := [some (.ref b), some (.ref (ad G 10 0)), some (.ref (ad G 16 0)), some (.ref (ad G 17 0)), some (.ref (ad G 18 0)), some (.ref (ad G 19 0)), some (.ref (ad G 20 0)), some (.ref (ad G 21 0)), some (.ref (ad G 22 0)), some (.int (iI 1)), some (.int (iI t)), some (.int (iI k))]) (Nat.le_of_ble_eq_true rfl) rfl ?_
    refine z_iinc E k dL_law_218 (L' := [some (.ref b), some (.ref (ad G 10 0)), some (.ref (ad G 16 0)), some (.ref (ad G 17 0)), some (.ref (ad G 18 0)), some (.ref (ad G 19 0)), some (.ref (ad G 20 0)), some (.ref (ad G 21 0)), some (.ref (ad G 22 0)), some (.int (iI 1)), some (.int (iI t)), some (.int (iI (k + 1)))]) (Nat.le_of_ble_eq_true rfl) rfl rfl ?_
    refine z_goto E 146 dL_law_221 rfl ?_
    exact ih P1 V1 s1 (uc + 1) (us + 48) (k + 1) hC1 hL1 hH1 (by omega) (by omega) (by omega) (by omega) (by omega) (by omega)
theorem law_fill (E : Ev X l0 G room_1 cL_law 12 wsL_law RL) {P : Nat → Nat} (kk : ∀ V : Vt, IF0 V 40 → Kz X G P V 73 3551 [some (.ref b), some (.ref (ad G 10 0)), some (.ref (ad G 16 0)), some (.ref (ad G 17 0)), some (.ref (ad G 18 0)), some (.ref (ad G 19 0)), some (.ref (ad G 20 0)), some (.ref (ad G 21 0)), some (.ref (ad G 22 0)), some (.int (iI 40)), none, none] 110 []) : ∀ (fuel : Nat) (i : Int) (V : Vt), IF0 V i → 1 ≤ i → i ≤ 40 → (40 - i).toNat < fuel → Kz X G P V 73 3551 [some (.ref b), some (.ref (ad G 10 0)), some (.ref (ad G 16 0)), some (.ref (ad G 17 0)), some (.ref (ad G 18 0)), some (.ref (ad G 19 0)), some (.ref (ad G 20 0)), some (.ref (ad G 21 0)), some (.ref (ad G 22 0)), some (.int (iI i)), none, none] 71 [] := by
  have f27 : Cond.constantLong RL 27 (-1) ∈ wsL_law := wsL_law_r1_of _ (List.mem_of_getElem? (i := 5) rfl)
  intro fuel
  induction fuel with
  | zero => intro i V _ _ _ hf; exact absurd hf (Nat.not_lt_zero _)
  | succ fuel ih =>
    intro i V hI i0 i1 hf
    refine z_iload E dL_law_71 rfl ?_
    refine z_bipush E dL_law_73 rfl ?_
    refine z_icmp_ge E 110 dL_law_75 rfl (by omega) (by omega) (fun ck => ?_) (fun ck => ?_)
    · have e : i = 40 := by omega
      subst e
      exact kk V hI
    · refine z_aload E dL_law_78 rfl ?_
      refine z_iload E dL_law_80 rfl ?_
      refine z_ldc2 E (-1) f27 rfl dL_law_82 ?_
      refine z_last E (rfl : vl G 22 0 = true) 40 (fun _ => rfl) (by omega) (by omega) (by omega) dL_law_85 ?_
      refine z_aload_n E dL_law_86 3 rfl rfl ?_
      refine z_iload E dL_law_87 rfl ?_
      refine z_iconst E dL_law_89 ?_
      refine z_irem E dL_law_90 (by omega) (by omega) (by omega) (by omega) ?_
      refine z_iload E dL_law_91 rfl ?_
      refine z_iconst E dL_law_93 ?_
      refine z_irem E dL_law_94 (by omega) (by omega) (by omega) (by omega) ?_
      refine z_if_ne E 102 dL_law_95 rfl (by omega) (fun c => ?_) (fun c => ?_)
      · refine z_iconst E dL_law_102 ?_
        refine z_iast E (rfl : vl G 17 0 = true) 4 (fun _ => rfl) (by omega) (by omega) (by omega) dL_law_103 ?_
        refine z_iinc E i dL_law_104 (L' := [some (.ref b), some (.ref (ad G 10 0)), some (.ref (ad G 16 0)), some (.ref (ad G 17 0)), some (.ref (ad G 18 0)), some (.ref (ad G 19 0)), some (.ref (ad G 20 0)), some (.ref (ad G 21 0)), some (.ref (ad G 22 0)), some (.int (iI (i + 1))), none, none]) (Nat.le_of_ble_eq_true rfl) rfl rfl ?_
        refine z_goto E 71 dL_law_107 rfl ?_
        exact ih (i + 1) _ (IF0_s hI i0 (by omega) (Or.inr ⟨c, rfl⟩)) (by omega) (by omega) (by omega)
      · refine z_iconst E dL_law_98 ?_
        refine z_goto E 103 dL_law_99 rfl ?_
        refine z_iast E (rfl : vl G 17 0 = true) 4 (fun _ => rfl) (by omega) (by omega) (by omega) dL_law_103 ?_
        refine z_iinc E i dL_law_104 (L' := [some (.ref b), some (.ref (ad G 10 0)), some (.ref (ad G 16 0)), some (.ref (ad G 17 0)), some (.ref (ad G 18 0)), some (.ref (ad G 19 0)), some (.ref (ad G 20 0)), some (.ref (ad G 21 0)), some (.ref (ad G 22 0)), some (.int (iI (i + 1))), none, none]) (Nat.le_of_ble_eq_true rfl) rfl rfl ?_
        refine z_goto E 71 dL_law_107 rfl ?_
        exact ih (i + 1) _ (IF0_s hI i0 (by omega) (Or.inl ⟨c, rfl⟩)) (by omega) (by omega) (by omega)
theorem law_walk (E : Ev X l0 G room_1 cL_law 12 wsL_law RL) (hEa : Ea X) (hX : Xs X b N xs) (hN : N ≤ 260) (hG0 : fv G = false) (hE : Ed X G) : Kz X G (fun j => j) V0 73 3551 [some (.ref b), some (.ref (ad G 10 0)), some (.ref (ad G 16 0)), some (.ref (ad G 17 0)), some (.ref (ad G 18 0)), some (.ref (ad G 19 0)), some (.ref (ad G 20 0)), some (.ref (ad G 21 0)), some (.ref (ad G 22 0)), none, none, none] 47 [] := by
  refine z_aload_n E dL_law_47 2 rfl rfl ?_
  refine z_iconst E dL_law_48 ?_
  refine z_iconst E dL_law_49 ?_
  refine z_iast E (rfl : vl G 16 0 = true) 6 (fun _ => rfl) (by decide) (by decide) (by decide) dL_law_50 ?_
  refine z_aload_n E dL_law_51 2 rfl rfl ?_
  refine z_iconst E dL_law_52 ?_
  refine z_iconst E dL_law_53 ?_
  refine z_iast E (rfl : vl G 16 0 = true) 6 (fun _ => rfl) (by decide) (by decide) (by decide) dL_law_54 ?_
  refine z_aload_n E dL_law_55 2 rfl rfl ?_
  refine z_iconst E dL_law_56 ?_
  refine z_iconst E dL_law_57 ?_
  refine z_iast E (rfl : vl G 16 0 = true) 6 (fun _ => rfl) (by decide) (by decide) (by decide) dL_law_58 ?_
  refine z_aload_n E dL_law_59 2 rfl rfl ?_
  refine z_iconst E dL_law_60 ?_
  refine z_iconst E dL_law_61 ?_
  refine z_iast E (rfl : vl G 16 0 = true) 6 (fun _ => rfl) (by decide) (by decide) (by decide) dL_law_62 ?_
  refine z_aload E dL_law_63 rfl ?_
  refine z_iconst E dL_law_65 ?_
  refine z_iconst E dL_law_66 ?_
  refine z_iast E (rfl : vl G 19 0 = true) 16 (fun _ => rfl) (by decide) (by decide) (by decide) dL_law_67 ?_
  refine z_iconst E dL_law_68 ?_
  refine z_istore E dL_law_69 (L' := [some (.ref b), some (.ref (ad G 10 0)), some (.ref (ad G 16 0)), some (.ref (ad G 17 0)), some (.ref (ad G 18 0)), some (.ref (ad G 19 0)), some (.ref (ad G 20 0)), some (.ref (ad G 21 0)), some (.ref (ad G 22 0)), some (.int (iI 1)), none, none]) (Nat.le_of_ble_eq_true rfl) rfl ?_
  refine law_fill E (fun V hI => ?_) 40 1 _ IF0_g (by decide) (by decide) (by decide)
  have hC := IF0_LC hI
  have hL := IF0_LN hI (by decide)
  refine z_aload_n E dL_law_110 1 rfl rfl ?_
  refine z_aload_n E dL_law_111 2 rfl rfl ?_
  refine z_aload_n E dL_law_112 3 rfl rfl ?_
  refine z_aload E dL_law_113 rfl ?_
  refine z_aload E dL_law_115 rfl ?_
  refine z_aload E dL_law_117 rfl ?_
  refine z_aload E dL_law_119 rfl ?_
  refine z_aload E dL_law_121 rfl ?_
  refine z_callS E (n := 8) (st := []) [.ref (ad G 10 0), .ref (ad G 16 0), .ref (ad G 17 0), .ref (ad G 18 0), .ref (ad G 19 0), .ref (ad G 20 0), .ref (ad G 21 0), .ref (ad G 22 0)] (kL_isSo l0 G (fun j => j) V s0I hC hL) gL_law_L_isSo rfl ⟨rfl, rfl⟩ (by decide +kernel) ⟨Nat.le_of_ble_eq_true rfl, Nat.le_of_ble_eq_true rfl⟩ rfl rfl (Nat.le_of_ble_eq_true rfl) rfl dL_law_123 (z_exI (fun r2 P2 V2 h2 => ?_)) (hN := ⟨Nat.le_of_ble_eq_true rfl, Nat.le_of_ble_eq_true rfl⟩)
  obtain ⟨hr2, hP2, hV2⟩ := h2
  rw [hr2, hP2, hV2]
  refine z_istore E dL_law_126 (L' := [some (.ref b), some (.ref (ad G 10 0)), some (.ref (ad G 16 0)), some (.ref (ad G 17 0)), some (.ref (ad G 18 0)), some (.ref (ad G 19 0)), some (.ref (ad G 20 0)), some (.ref (ad G 21 0)), some (.ref (ad G 22 0)), some (.int (iI 1)), none, none]) (Nat.le_of_ble_eq_true rfl) rfl ?_
  refine z_bipush E dL_law_128 rfl ?_
  refine z_aload_n E dL_law_130 0 rfl rfl ?_
  refine z_iconst E dL_law_131 ?_
  refine z_cell E hX hN (by decide) (by decide) gL_law_L_cell ⟨Nat.le_of_ble_eq_true rfl, Nat.le_of_ble_eq_true rfl⟩ rfl (Nat.le_of_ble_eq_true rfl) dL_law_132 ⟨Nat.le_of_ble_eq_true rfl, Nat.le_of_ble_eq_true rfl⟩ (fun r hr => ?_)
  refine z_bipush E dL_law_135 rfl ?_
  refine z_callS E (n := 2) (st := [.int (iI 12)]) [.int (iI r), .int (iI 54)] (kL_low l0 G (fun j => j) V r 54 (by decide) (by decide)) gL_law_L_low rfl ⟨rfl, rfl⟩ (by decide +kernel) ⟨Nat.le_of_ble_eq_true rfl, Nat.le_of_ble_eq_true rfl⟩ rfl rfl (Nat.le_of_ble_eq_true rfl) rfl dL_law_137 (z_exI (fun r3 P3 V3 h3 => ?_)) (hN := ⟨Nat.le_of_ble_eq_true rfl, Nat.le_of_ble_eq_true rfl⟩)
  obtain ⟨hP3, hV3, r30, r31⟩ := h3
  rw [hP3, hV3]
  refine z_iadd E dL_law_140 ?_
  refine z_istore E dL_law_141 (L' := [some (.ref b), some (.ref (ad G 10 0)), some (.ref (ad G 16 0)), some (.ref (ad G 17 0)), some (.ref (ad G 18 0)), some (.ref (ad G 19 0)), some (.ref (ad G 20 0)), some (.ref (ad G 21 0)), some (.ref (ad G 22 0)), some (.int (iI 1)), some (.int (iI (12 + r3))), none]) (Nat.le_of_ble_eq_true rfl) rfl ?_
  refine z_iconst E dL_law_143 ?_
  refine z_istore E dL_law_144 (L' := [some (.ref b), some (.ref (ad G 10 0)), some (.ref (ad G 16 0)), some (.ref (ad G 17 0)), some (.ref (ad G 18 0)), some (.ref (ad G 19 0)), some (.ref (ad G 20 0)), some (.ref (ad G 21 0)), some (.ref (ad G 22 0)), some (.int (iI 1)), some (.int (iI (12 + r3))), some (.int (iI 0))]) (Nat.le_of_ble_eq_true rfl) rfl ?_
  exact law_loop E hEa hX hN hG0 hE (t := 12 + r3) (by omega) 100 (fun j => j) V s0I 73 3551 0 hC hL s0_HBr (by decide) (by decide) (by omega) (by decide) (by decide) (by omega)
end LAW
