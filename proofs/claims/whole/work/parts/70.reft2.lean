abbrev P_X11_text (M : Mem) : Option Value → Mem → Prop := oI (fun zz MM => textR M zz MM)
set_option maxRecDepth 100000 in
set_option maxHeartbeats 4000000 in
theorem c_X11_text {l : Launch} {G : va_G} {ad : Nat → Nat} {CA : Nat → ClassId} {nt : Nat} (hnt : 6 ≤ nt) (M : Mem) (hTp : 0 ≤ M 0 9 ∧ M 0 9 ≤ 320) (hbt : ∀ i, 0 ≤ M 4 i ∧ M 4 i ≤ 255) (hc5 : ∀ i, 0 ≤ i → i < 15 → M 5 i = cutI i) (hc6 : ∀ i, 0 ≤ i → i < 64 → M 6 i = letT i) : Mt l yX11_text cX11_text 3 (some .int) 7 159 G ad CA nt LyM [.ref (ad 0)] M (P_X11_text M) := by
  refine Mt.of (by decide) (Nat.le_of_ble_eq_true rfl) (fun p e s m args below meth c hx hb hr hml hts hown hlocks hnm hW ls hl => ?_)
  have hl : lv_has ls 3 [(0, .ref (ad 0))] := hl
  have hnt4 : 4 ≤ nt := by omega
  obtain ⟨H, hH⟩ : ∃ z, z = s.heap := ⟨_, rfl⟩
  obtain ⟨locs, hlo⟩ : ∃ z : List Loc, z = [] := ⟨_, rfl⟩
  rw [← hH, ← hlo] at hW ⊢
  refine lv_aload_n hx hb dX11_text_0 rfl (lv_at hl 0 rfl) ?_
  refine rw_iconst hx hb dX11_text_1 ?_
  refine rw_putI hx hb hts hown hW 0 lm_0 11 11 rfl rfl qX11_61 (v := 0) dX11_text_2 (fun H locs hW => ?_)
  obtain ⟨M1, hM1⟩ : ∃ z, z = upd2 M 0 11 0 := ⟨_, rfl⟩
  rw [← hM1] at hW
  refine lv_aload_n hx hb dX11_text_5 rfl (lv_at hl 0 rfl) ?_
  refine rw_iconst hx hb dX11_text_6 ?_
  refine rw_putI hx hb hts hown hW 0 lm_0 13 13 rfl rfl qX11_73 (v := 0) dX11_text_7 (fun H locs hW => ?_)
  obtain ⟨M2, hM2⟩ : ∃ z, z = upd2 M1 0 13 0 := ⟨_, rfl⟩
  rw [← hM2] at hW
  refine lv_aload_n hx hb dX11_text_10 rfl (lv_at hl 0 rfl) ?_
  refine rw_iconst hx hb dX11_text_11 ?_
  refine rw_putI hx hb hts hown hW 0 lm_0 3 3 rfl rfl qX11_116 (v := 5) dX11_text_12 (fun H locs hW => ?_)
  obtain ⟨M3, hM3⟩ : ∃ z, z = upd2 M2 0 3 5 := ⟨_, rfl⟩
  rw [← hM3] at hW
  refine lv_aload_n hx hb dX11_text_15 rfl (lv_at hl 0 rfl) ?_
  refine rw_bipush hx hb dX11_text_16 (by decide) ?_
  refine rw_putI hx hb hts hown hW 0 lm_0 4 4 rfl rfl qX11_119 (v := (-4)) dX11_text_18 (fun H locs hW => ?_)
  obtain ⟨M4, hM4⟩ : ∃ z, z = upd2 M3 0 4 (-4) := ⟨_, rfl⟩
  rw [← hM4] at hW
  refine lv_aload_n hx hb dX11_text_21 rfl (lv_at hl 0 rfl) ?_
  refine rw_iconst hx hb dX11_text_22 ?_
  refine rw_putI hx hb hts hown hW 0 lm_0 5 5 rfl rfl qX11_124 (v := 0) dX11_text_23 (fun H locs hW => ?_)
  obtain ⟨M5, hM5⟩ : ∃ z, z = upd2 M4 0 5 0 := ⟨_, rfl⟩
  rw [← hM5] at hW
  refine lv_aload_n hx hb dX11_text_26 rfl (lv_at hl 0 rfl) ?_
  refine rw_iconst hx hb dX11_text_27 ?_
  refine rw_putI hx hb hts hown hW 0 lm_0 7 7 rfl rfl qX11_102 (v := (-1)) dX11_text_28 (fun H locs hW => ?_)
  obtain ⟨M6, hM6⟩ : ∃ z, z = upd2 M5 0 7 (-1) := ⟨_, rfl⟩
  rw [← hM6] at hW
  refine rw_iconst hx hb dX11_text_31 ?_
  refine lv_istore_n (lv' := [(1, .int (iN 0)), (0, .ref (ad 0))]) hx hb dX11_text_32 rfl hl (by decide) rfl (fun ls hl => ?_)
  refine rw_iconst hx hb dX11_text_33 ?_
  refine lv_istore_n (lv' := [(2, .int (iN 0)), (1, .int (iN 0)), (0, .ref (ad 0))]) hx hb dX11_text_34 rfl hl (by decide) rfl (fun ls hl => ?_)
  have hC_35 : ∀ N : Nat, ∀ (k : Int) (Mx : Mem) (H : Heap) (locs : List Loc) (ls : Array Slot), (47 - k).toNat < N → (0 ≤ k ∧ k ≤ 47) → (∀ (q : Nat) (j : Int), ¬ Scell q j → Mx q j = M q j) → (Mx 0 11 = 0 ∧ Mx 0 13 = 0 ∧ Mx 0 3 = 5 ∧ Mx 0 4 = -4 ∧ Mx 0 5 = 0 ∧ Mx 0 7 = -1) → (∀ j, 0 ≤ j → j < k → Mx 2 j = 0) → (∀ j, 0 ≤ j → j < 9 → j < k → Mx 3 j = 0) → Wo G ad CA nt LyM (wA ad LyM) s Mx H locs → lv_has ls 3 [(0, .ref (ad 0)), (1, .int (iN 0)), (2, .int (iN k))] → Wf l 7 159 G ad CA nt LyM (P_X11_text M) p e s m args below meth c H locs (F0 m 35 ls []) := by
    intro N
    induction N with
    | zero => intro k Mx H locs ls hN; exact absurd hN (Nat.not_lt_zero _)
    | succ N ih35 =>
      intro k Mx H locs ls hN hk hfr hsl hz2 hz3 hW hl
      refine lv_iload_n hx hb dX11_text_35 rfl (lv_at hl 2 rfl) ?_
      refine rw_bipush hx hb dX11_text_36 (by decide) ?_
      refine rw_icmp_ge (tgt := 64) hx hb dX11_text_38 (by decide) (by omega) (by decide) (fun c_38 => ?_) (fun c_38 => ?_)
      · obtain ⟨z11, z13, z3, z4, z5, z7⟩ := hsl
        have hS0 : Sn M Mx st0 := st0_Sn hfr z11 z13 z3 z4 z5 z7 (fun j a b => hz2 j a (by omega)) (fun j a b => hz3 j a b (by omega)) hTp hbt hc5 hc6
        have hS0f := hS0.f
        refine lv_aload_n hx hb dX11_text_64 rfl (lv_at hl 0 rfl) ?_
        refine rw_callV hx hb hml hts hown hW ⟨Nat.le_refl 0, Nat.le_refl 0⟩ [] 0 lm_0 rfl (c_X11_step (l := l) (G := G) (ad := ad) (CA := CA) (nt := nt) (by omega) Mx hS0f.2.2.1 hS0f.2.2.2 hS0f.1 hS0f.2.1) kX11_95 rfl ⟨Nat.le_of_ble_eq_true rfl, Nat.le_of_ble_eq_true rfl⟩ hl.1 rfl (Nat.le_of_ble_eq_true rfl) dX11_text_65 (fun v7 M8 H locs hp9 hW => ?_)
        obtain ⟨rfl, hM8⟩ := hp9
        refine rw_stk (st' := []) rfl ?_
        have hC_68 : ∀ N : Nat, ∀ (n : Int) (Mx : Mem) (x : PX) (H : Heap) (locs : List Loc) (ls : Array Slot), (320 - n).toNat < N → (0 ≤ n ∧ n ≤ 320) → (Sk M Mx (nextX (M 4) (M 0 9) x)) → (∀ g, x = .inr g → runX (M 4) (M 0 9) (320 - n).toNat n x = runX (M 4) (M 0 9) 320 0 st0 ∧ n ≤ gpos g ∧ gpos g ≤ M 0 9) → (∀ a, x = .inl a → (runX (M 4) (M 0 9) 320 0 st0).2 = .inl a) → Wo G ad CA nt LyM (wA ad LyM) s Mx H locs → lv_has ls 3 [(0, .ref (ad 0)), (1, .int (iN n))] → Wf l 7 159 G ad CA nt LyM (P_X11_text M) p e s m args below meth c H locs (F0 m 68 ls []) := by
          intro N
          induction N with
          | zero => intro n Mx x H locs ls hN; exact absurd hN (Nat.not_lt_zero _)
          | succ N ih68 =>
            intro n Mx x H locs ls hN hln hS hr1 hr2 hW hl
            have hSf := hS.f
            have hk15 := hS.2.1.2.1
            refine lv_aload_n hx hb dX11_text_68 rfl (lv_at hl 0 rfl) ?_
            refine rw_getI hx hb hts hown hW 0 lm_0 11 11 rfl rfl fX11_61 dX11_text_69 (v := (Mx 0 11)) rfl ?_
            refine rw_if_ne (tgt := 92) hx hb dX11_text_72 (by decide) (by omega) (fun c_72 => ?_) (fun c_72 => ?_)
            · have hC_92 : ∀ (n : Int) (Mx : Mem) (y : PX) (H : Heap) (locs : List Loc) (ls : Array Slot), (0 ≤ n ∧ n ≤ 320) → (FinR M Mx y) → ((runX (M 4) (M 0 9) 320 0 st0).2 = y) → (∀ g, y = .inr g → (runX (M 4) (M 0 9) 320 0 st0).1 = n) → (0 ≤ Mx 0 11 ∧ Mx 0 11 ≤ 5) → Wo G ad CA nt LyM (wA ad LyM) s Mx H locs → lv_has ls 3 [(0, .ref (ad 0)), (1, .int (iN n))] → Wf l 7 159 G ad CA nt LyM (P_X11_text M) p e s m args below meth c H locs (F0 m 92 ls []) := by
                intro n Mx y H locs ls hln hfin hrun hcnt h11r hW hl
                have h7r := hfin.1.2.1
                have h3r := hfin.1.2.2.2.2.1
                refine lv_aload_n hx hb dX11_text_92 rfl (lv_at hl 0 rfl) ?_
                refine rw_getI hx hb hts hown hW 0 lm_0 11 11 rfl rfl fX11_61 dX11_text_93 (v := (Mx 0 11)) rfl ?_
                refine rw_if_ne (tgt := 115) hx hb dX11_text_96 (by decide) (by omega) (fun c_96 => ?_) (fun c_96 => ?_)
                · have hC_115 : ∀ (n : Int) (M2 : Mem) (H : Heap) (locs : List Loc) (ls : Array Slot), (0 ≤ n ∧ n ≤ 320) → (ClR M M2 (closeX (M 0 9) y)) → (∀ g, y = .inr g → (runX (M 4) (M 0 9) 320 0 st0).1 = n) → Wo G ad CA nt LyM (wA ad LyM) s M2 H locs → lv_has ls 3 [(0, .ref (ad 0)), (1, .int (iN n))] → Wf l 7 159 G ad CA nt LyM (P_X11_text M) p e s m args below meth c H locs (F0 m 115 ls []) := by
                    intro n M2 H locs ls hln hcl hcnt hW hl
                    have hcr := hcl.rng
                    have hca := hcl.1
                    have h3r := hca.2.2.2.2.1
                    have h4r := hca.2.2.2.2.2.1
                    refine lv_aload_n hx hb dX11_text_115 rfl (lv_at hl 0 rfl) ?_
                    refine rw_iconst hx hb dX11_text_116 ?_
                    refine rw_putI hx hb hts hown hW 0 lm_0 9 9 rfl rfl qX11_54 (v := 0) dX11_text_117 (fun H locs hW => ?_)
                    obtain ⟨M10, hM10⟩ : ∃ z, z = upd2 M2 0 9 0 := ⟨_, rfl⟩
                    rw [← hM10] at hW
                    refine lv_aload_n hx hb dX11_text_120 rfl (lv_at hl 0 rfl) ?_
                    refine lv_aload_n hx hb dX11_text_121 rfl (lv_at hl 0 rfl) ?_
                    refine rw_getI hx hb hts hown hW 0 lm_0 11 11 rfl rfl fX11_61 dX11_text_122 (v := (M2 0 11)) (by rw [hM10, upd2_ne2 (by decide)]) ?_
                    refine rw_putI hx hb hts hown hW 0 lm_0 10 10 rfl rfl qX11_136 (v := (M2 0 11)) dX11_text_125 (fun H locs hW => ?_)
                    obtain ⟨M11, hM11⟩ : ∃ z, z = upd2 M10 0 10 (M2 0 11) := ⟨_, rfl⟩
                    rw [← hM11] at hW
                    refine lv_aload_n hx hb dX11_text_128 rfl (lv_at hl 0 rfl) ?_
                    refine rw_getI hx hb hts hown hW 0 lm_0 11 11 rfl rfl fX11_61 dX11_text_129 (v := (M2 0 11)) (by rw [hM11, upd2_ne2 (by decide), hM10, upd2_ne2 (by decide)]) ?_
                    refine rw_if_le (tgt := 143) hx hb dX11_text_132 (by decide) (by omega) (fun c_132 => ?_) (fun c_132 => ?_)
                    · refine lv_aload_n hx hb dX11_text_143 rfl (lv_at hl 0 rfl) ?_
                      refine rw_getR hx hb hts hown hW 0 lm_0 2 2 rfl fX11_17 dX11_text_144 ?_
                      refine rw_bipush hx hb dX11_text_147 (by decide) ?_
                      refine lv_aload_n hx hb dX11_text_149 rfl (lv_at hl 0 rfl) ?_
                      refine rw_getI hx hb hts hown hW 0 lm_0 4 4 rfl rfl fX11_119 dX11_text_150 (v := (M2 0 4)) (by rw [hM11, upd2_ne2 (by decide), hM10, upd2_ne2 (by decide)]) ?_
                      refine rw_bipush hx hb dX11_text_153 (by decide) ?_
                      refine rw_icmp_ne (tgt := 167) hx hb dX11_text_155 (by decide) (by omega) (by decide) (fun c_155 => ?_) (fun c_155 => ?_)
                      · refine lv_aload_n hx hb dX11_text_167 rfl (lv_at hl 0 rfl) ?_
                        refine rw_getI hx hb hts hown hW 0 lm_0 4 4 rfl rfl fX11_119 dX11_text_168 (v := (M2 0 4)) (by rw [hM11, upd2_ne2 (by decide), hM10, upd2_ne2 (by decide)]) ?_
                        refine rw_iconst hx hb dX11_text_171 ?_
                        refine rw_isub hx hb dX11_text_172 ?_
                        refine rw_iast hx hb hW hnt4 2 lm_2 (v := (M2 0 4) - 2) (by omega) (by omega) (by decide) dX11_text_173 (fun H locs hW => ?_)
                        obtain ⟨M12, hM12⟩ : ∃ z, z = upd2 M11 2 27 ((M2 0 4) - 2) := ⟨_, rfl⟩
                        rw [← hM12] at hW
                        obtain ⟨Mz, hMz⟩ : ∃ z, z = M12 := ⟨_, rfl⟩
                        rw [← hMz] at hW
                        have hzf : ∀ (q : Nat) (j : Int), ¬ (q = 0 ∧ (j = 9 ∨ j = 10)) → ¬ (q = 2 ∧ j = 27) → Mz q j = M2 q j := fun q j a b => by rw [hMz, hM12, upd2_at, if_neg (by omega), hM11, upd2_at, if_neg (by omega), hM10, upd2_at, if_neg (by omega)]
                        have hz9 : Mz 0 9 = 0 := by rw [hMz, hM12, hM11, hM10]; simp [upd2_at]
                        have hz10 : Mz 0 10 = M2 0 11 := by rw [hMz, hM12, hM11, hM10]; simp [upd2_at]
                        have hz27 : Mz 2 27 = (if M2 0 4 = -4 then M2 0 3 / 2 else M2 0 4) - 2 := by rw [hMz, hM12, hM11, hM10, upd2_eq]; rw [if_neg (by omega)]
                        refine rw_iconst hx hb dX11_text_174 ?_
                        refine lv_istore_n (lv' := [(2, .int (iN 0)), (0, .ref (ad 0)), (1, .int (iN n))]) hx hb dX11_text_175 rfl hl (by decide) rfl (fun ls hl => ?_)
                        have hC_176 : ∀ N : Nat, ∀ (k : Int) (My : Mem) (H : Heap) (locs : List Loc) (ls : Array Slot), (47 - k).toNat < N → (0 ≤ k ∧ k ≤ 47) → ((∀ q : Nat, q ≠ 1 → My q = Mz q) ∧ ∀ j, (j < 0 ∨ k ≤ j) → My 1 j = Mz 1 j) → (∀ j, 0 ≤ j → j < k → My 1 j = Mz 2 j) → Wo G ad CA nt LyM (wA ad LyM) s My H locs → lv_has ls 3 [(0, .ref (ad 0)), (1, .int (iN n)), (2, .int (iN k))] → Wf l 7 159 G ad CA nt LyM (P_X11_text M) p e s m args below meth c H locs (F0 m 176 ls []) := by
                          intro N
                          induction N with
                          | zero => intro k My H locs ls hN; exact absurd hN (Nat.not_lt_zero _)
                          | succ N ih176 =>
                            intro k My H locs ls hN hk hmy hcp hW hl
                            refine lv_iload_n hx hb dX11_text_176 rfl (lv_at hl 2 rfl) ?_
                            refine rw_bipush hx hb dX11_text_177 (by decide) ?_
                            refine rw_icmp_ge (tgt := 200) hx hb dX11_text_179 (by decide) (by omega) (by decide) (fun c_179 => ?_) (fun c_179 => ?_)
                            · refine lv_aload_n hx hb dX11_text_200 rfl (lv_at hl 0 rfl) ?_
                              refine lv_aload_n hx hb dX11_text_201 rfl (lv_at hl 0 rfl) ?_
                              refine rw_getI hx hb hts hown hW 0 lm_0 3 3 rfl rfl fX11_116 dX11_text_202 (v := (My 0 3)) rfl ?_
                              refine rw_putI hx hb hts hown hW 0 lm_0 1 1 rfl rfl qX11_13 (v := (My 0 3)) dX11_text_205 (fun H locs hW => ?_)
                              obtain ⟨M13, hM13⟩ : ∃ z, z = upd2 My 0 1 (My 0 3) := ⟨_, rfl⟩
                              rw [← hM13] at hW
                              refine lv_aload_n hx hb dX11_text_208 rfl (lv_at hl 0 rfl) ?_
                              refine rw_iconst hx hb dX11_text_209 ?_
                              refine rw_putI hx hb hts hown hW 0 lm_0 22 22 rfl rfl qX11_139 (v := 0) dX11_text_210 (fun H locs hW => ?_)
                              obtain ⟨M14, hM14⟩ : ∃ z, z = upd2 M13 0 22 0 := ⟨_, rfl⟩
                              rw [← hM14] at hW
                              refine lv_aload_n hx hb dX11_text_213 rfl (lv_at hl 0 rfl) ?_
                              refine rw_getR hx hb hts hown hW 0 lm_0 23 10 rfl fX11_41 dX11_text_214 ?_
                              refine rw_iconst hx hb dX11_text_217 ?_
                              refine rw_iconst hx hb dX11_text_218 ?_
                              refine rw_zast hx hb hW hnt4 10 lm_10 (by omega) (by omega) (by decide) (by omega) dX11_text_219 (fun H locs hW => ?_)
                              obtain ⟨M15, hM15⟩ : ∃ z, z = upd2 M14 10 0 0 := ⟨_, rfl⟩
                              rw [← hM15] at hW
                              refine lv_aload_n hx hb dX11_text_220 rfl (lv_at hl 0 rfl) ?_
                              refine rw_getR hx hb hts hown hW 0 lm_0 23 10 rfl fX11_41 dX11_text_221 ?_
                              refine rw_iconst hx hb dX11_text_224 ?_
                              refine rw_iconst hx hb dX11_text_225 ?_
                              refine rw_zast hx hb hW hnt4 10 lm_10 (by omega) (by omega) (by decide) (by omega) dX11_text_226 (fun H locs hW => ?_)
                              obtain ⟨M16, hM16⟩ : ∃ z, z = upd2 M15 10 1 0 := ⟨_, rfl⟩
                              rw [← hM16] at hW
                              refine lv_iload_n hx hb dX11_text_227 rfl (lv_at hl 1 rfl) ?_
                              refine rw_iret hx hb hr hlocks hW dX11_text_228 (⟨n, rfl, ?_⟩)
                              refine hcl.good hrun hcnt (by omega) ?_ ?_ ?_ ?_ ?_ ?_ ?_ ?_
                              · rw [hM16, hM15, hM14, hM13]; simp [upd2_at]; rw [hmy.1 0 (by decide), hz10]; omega
                              · rw [hM16, hM15, hM14, hM13]; simp [upd2_at]; rw [hmy.1 0 (by decide), hz9]
                              · rw [hM16, hM15, hM14, hM13]; simp [upd2_at]
                              · rw [hM16, hM15, hM14, hM13]; simp [upd2_at]
                              · rw [hM16, hM15, hM14, hM13]; simp [upd2_at]
                              · rw [hM16, hM15, hM14, hM13]; simp [upd2_at]; rw [hmy.1 0 (by decide), hzf 0 3 (by omega) (by omega)]
                              · intro j a b; rw [hM16, upd2_ne1 (by decide), hM15, upd2_ne1 (by decide), hM14, upd2_ne1 (by decide), hM13, upd2_ne1 (by decide), hcp j a (by omega)]; by_cases e : j = 27; subst e; rw [if_pos rfl]; exact hz27; rw [if_neg e]; exact hzf 2 j (by omega) (by omega)
                              · intro q j hq; rw [hM16, upd2_at, if_neg (fun z => hq (by omega)), hM15, upd2_at, if_neg (fun z => hq (by omega)), hM14, upd2_at, if_neg (fun z => hq (by omega)), hM13, upd2_at, if_neg (fun z => hq (by omega))]; by_cases e : q = 1; subst e; rw [hmy.2 j (by have := hq; omega)]; exact hzf 1 j (by omega) (by omega); rw [hmy.1 q e]; exact hzf q j (fun z => hq (by omega)) (fun z => hq (Or.inl (by unfold Scell; omega)))
                            · refine lv_aload_n hx hb dX11_text_182 rfl (lv_at hl 0 rfl) ?_
                              refine rw_getR hx hb hts hown hW 0 lm_0 0 1 rfl fX11_7 dX11_text_183 ?_
                              refine lv_iload_n hx hb dX11_text_186 rfl (lv_at hl 2 rfl) ?_
                              refine lv_aload_n hx hb dX11_text_187 rfl (lv_at hl 0 rfl) ?_
                              refine rw_getR hx hb hts hown hW 0 lm_0 2 2 rfl fX11_17 dX11_text_188 ?_
                              refine lv_iload_n hx hb dX11_text_191 rfl (lv_at hl 2 rfl) ?_
                              refine rw_iald hx hb hW hnt4 2 lm_2 (by omega) (by omega) (by decide) dX11_text_192 (v := (My 2 k)) rfl ?_
                              refine rw_iast hx hb hW hnt4 1 lm_1 (v := (My 2 k)) (by omega) (by omega) (by decide) dX11_text_193 (fun H locs hW => ?_)
                              obtain ⟨M17, hM17⟩ : ∃ z, z = upd2 My 1 k (My 2 k) := ⟨_, rfl⟩
                              rw [← hM17] at hW
                              refine rw_iinc (lv' := [(2, .int (iN (k + 1))), (0, .ref (ad 0)), (1, .int (iN n))]) hx hb dX11_text_194 hl (k := 2) rfl (by decide) rfl (fun ls hl => ?_)
                              refine lv_goto (tgt := 176) hx hb dX11_text_197 (by decide) ?_
                              exact ih176 (k + 1) M17 H locs ls (by omega) (by omega) ⟨fun q hq => by rw [hM17, upd2_ne1 hq]; exact hmy.1 q hq, fun j hj => by rw [hM17, upd2_ne2 (by omega)]; exact hmy.2 j (by omega)⟩ (fun j a b => by by_cases e : j = k; subst e; rw [hM17, upd2_eq, hmy.1 2 (by decide)]; rw [hM17, upd2_ne2 e]; exact hcp j a (by omega)) hW (lv_sub hl [1, 2, 0] rfl)
                        exact hC_176 _ 0 Mz H locs ls (Nat.lt_succ_self _) (by omega) ⟨fun _ _ => rfl, fun _ _ => rfl⟩ (fun j a b => absurd b (by omega)) hW (lv_sub hl [1, 2, 0] rfl)
                      · refine lv_aload_n hx hb dX11_text_158 rfl (lv_at hl 0 rfl) ?_
                        refine rw_getI hx hb hts hown hW 0 lm_0 3 3 rfl rfl fX11_116 dX11_text_159 (v := (M2 0 3)) (by rw [hM11, upd2_ne2 (by decide), hM10, upd2_ne2 (by decide)]) ?_
                        refine rw_iconst hx hb dX11_text_162 ?_
                        refine rw_idiv hx hb dX11_text_163 (by omega) (by decide) (by decide) rfl ?_
                        refine lv_goto (tgt := 171) hx hb dX11_text_164 (by decide) ?_
                        refine rw_iconst hx hb dX11_text_171 ?_
                        refine rw_isub hx hb dX11_text_172 ?_
                        refine rw_iast hx hb hW hnt4 2 lm_2 (v := (Int.tdiv (M2 0 3) 2) - 2) (by omega) (by omega) (by decide) dX11_text_173 (fun H locs hW => ?_)
                        obtain ⟨M18, hM18⟩ : ∃ z, z = upd2 M11 2 27 ((Int.tdiv (M2 0 3) 2) - 2) := ⟨_, rfl⟩
                        rw [← hM18] at hW
                        obtain ⟨Mz, hMz⟩ : ∃ z, z = M18 := ⟨_, rfl⟩
                        rw [← hMz] at hW
                        have hzf : ∀ (q : Nat) (j : Int), ¬ (q = 0 ∧ (j = 9 ∨ j = 10)) → ¬ (q = 2 ∧ j = 27) → Mz q j = M2 q j := fun q j a b => by rw [hMz, hM18, upd2_at, if_neg (by omega), hM11, upd2_at, if_neg (by omega), hM10, upd2_at, if_neg (by omega)]
                        have hz9 : Mz 0 9 = 0 := by rw [hMz, hM18, hM11, hM10]; simp [upd2_at]
                        have hz10 : Mz 0 10 = M2 0 11 := by rw [hMz, hM18, hM11, hM10]; simp [upd2_at]
                        have hz27 : Mz 2 27 = (if M2 0 4 = -4 then M2 0 3 / 2 else M2 0 4) - 2 := by rw [hMz, hM18, hM11, hM10, upd2_eq]; rw [if_pos (by omega), Int.tdiv_eq_ediv_of_nonneg (by omega)]
                        refine rw_iconst hx hb dX11_text_174 ?_
                        refine lv_istore_n (lv' := [(2, .int (iN 0)), (0, .ref (ad 0)), (1, .int (iN n))]) hx hb dX11_text_175 rfl hl (by decide) rfl (fun ls hl => ?_)
                        have hC_176 : ∀ N : Nat, ∀ (k : Int) (My : Mem) (H : Heap) (locs : List Loc) (ls : Array Slot), (47 - k).toNat < N → (0 ≤ k ∧ k ≤ 47) → ((∀ q : Nat, q ≠ 1 → My q = Mz q) ∧ ∀ j, (j < 0 ∨ k ≤ j) → My 1 j = Mz 1 j) → (∀ j, 0 ≤ j → j < k → My 1 j = Mz 2 j) → Wo G ad CA nt LyM (wA ad LyM) s My H locs → lv_has ls 3 [(0, .ref (ad 0)), (1, .int (iN n)), (2, .int (iN k))] → Wf l 7 159 G ad CA nt LyM (P_X11_text M) p e s m args below meth c H locs (F0 m 176 ls []) := by
                          intro N
                          induction N with
                          | zero => intro k My H locs ls hN; exact absurd hN (Nat.not_lt_zero _)
                          | succ N ih176 =>
                            intro k My H locs ls hN hk hmy hcp hW hl
                            refine lv_iload_n hx hb dX11_text_176 rfl (lv_at hl 2 rfl) ?_
                            refine rw_bipush hx hb dX11_text_177 (by decide) ?_
                            refine rw_icmp_ge (tgt := 200) hx hb dX11_text_179 (by decide) (by omega) (by decide) (fun c_179 => ?_) (fun c_179 => ?_)
                            · refine lv_aload_n hx hb dX11_text_200 rfl (lv_at hl 0 rfl) ?_
                              refine lv_aload_n hx hb dX11_text_201 rfl (lv_at hl 0 rfl) ?_
                              refine rw_getI hx hb hts hown hW 0 lm_0 3 3 rfl rfl fX11_116 dX11_text_202 (v := (My 0 3)) rfl ?_
                              refine rw_putI hx hb hts hown hW 0 lm_0 1 1 rfl rfl qX11_13 (v := (My 0 3)) dX11_text_205 (fun H locs hW => ?_)
                              obtain ⟨M19, hM19⟩ : ∃ z, z = upd2 My 0 1 (My 0 3) := ⟨_, rfl⟩
                              rw [← hM19] at hW
                              refine lv_aload_n hx hb dX11_text_208 rfl (lv_at hl 0 rfl) ?_
                              refine rw_iconst hx hb dX11_text_209 ?_
                              refine rw_putI hx hb hts hown hW 0 lm_0 22 22 rfl rfl qX11_139 (v := 0) dX11_text_210 (fun H locs hW => ?_)
                              obtain ⟨M20, hM20⟩ : ∃ z, z = upd2 M19 0 22 0 := ⟨_, rfl⟩
                              rw [← hM20] at hW
                              refine lv_aload_n hx hb dX11_text_213 rfl (lv_at hl 0 rfl) ?_
                              refine rw_getR hx hb hts hown hW 0 lm_0 23 10 rfl fX11_41 dX11_text_214 ?_
                              refine rw_iconst hx hb dX11_text_217 ?_
                              refine rw_iconst hx hb dX11_text_218 ?_
                              refine rw_zast hx hb hW hnt4 10 lm_10 (by omega) (by omega) (by decide) (by omega) dX11_text_219 (fun H locs hW => ?_)
                              obtain ⟨M21, hM21⟩ : ∃ z, z = upd2 M20 10 0 0 := ⟨_, rfl⟩
                              rw [← hM21] at hW
                              refine lv_aload_n hx hb dX11_text_220 rfl (lv_at hl 0 rfl) ?_
                              refine rw_getR hx hb hts hown hW 0 lm_0 23 10 rfl fX11_41 dX11_text_221 ?_
                              refine rw_iconst hx hb dX11_text_224 ?_
                              refine rw_iconst hx hb dX11_text_225 ?_
                              refine rw_zast hx hb hW hnt4 10 lm_10 (by omega) (by omega) (by decide) (by omega) dX11_text_226 (fun H locs hW => ?_)
                              obtain ⟨M22, hM22⟩ : ∃ z, z = upd2 M21 10 1 0 := ⟨_, rfl⟩
                              rw [← hM22] at hW
                              refine lv_iload_n hx hb dX11_text_227 rfl (lv_at hl 1 rfl) ?_
                              refine rw_iret hx hb hr hlocks hW dX11_text_228 (⟨n, rfl, ?_⟩)
                              refine hcl.good hrun hcnt (by omega) ?_ ?_ ?_ ?_ ?_ ?_ ?_ ?_
                              · rw [hM22, hM21, hM20, hM19]; simp [upd2_at]; rw [hmy.1 0 (by decide), hz10]; omega
                              · rw [hM22, hM21, hM20, hM19]; simp [upd2_at]; rw [hmy.1 0 (by decide), hz9]
                              · rw [hM22, hM21, hM20, hM19]; simp [upd2_at]
                              · rw [hM22, hM21, hM20, hM19]; simp [upd2_at]
                              · rw [hM22, hM21, hM20, hM19]; simp [upd2_at]
                              · rw [hM22, hM21, hM20, hM19]; simp [upd2_at]; rw [hmy.1 0 (by decide), hzf 0 3 (by omega) (by omega)]
                              · intro j a b; rw [hM22, upd2_ne1 (by decide), hM21, upd2_ne1 (by decide), hM20, upd2_ne1 (by decide), hM19, upd2_ne1 (by decide), hcp j a (by omega)]; by_cases e : j = 27; subst e; rw [if_pos rfl]; exact hz27; rw [if_neg e]; exact hzf 2 j (by omega) (by omega)
                              · intro q j hq; rw [hM22, upd2_at, if_neg (fun z => hq (by omega)), hM21, upd2_at, if_neg (fun z => hq (by omega)), hM20, upd2_at, if_neg (fun z => hq (by omega)), hM19, upd2_at, if_neg (fun z => hq (by omega))]; by_cases e : q = 1; subst e; rw [hmy.2 j (by have := hq; omega)]; exact hzf 1 j (by omega) (by omega); rw [hmy.1 q e]; exact hzf q j (fun z => hq (by omega)) (fun z => hq (Or.inl (by unfold Scell; omega)))
                            · refine lv_aload_n hx hb dX11_text_182 rfl (lv_at hl 0 rfl) ?_
                              refine rw_getR hx hb hts hown hW 0 lm_0 0 1 rfl fX11_7 dX11_text_183 ?_
                              refine lv_iload_n hx hb dX11_text_186 rfl (lv_at hl 2 rfl) ?_
                              refine lv_aload_n hx hb dX11_text_187 rfl (lv_at hl 0 rfl) ?_
                              refine rw_getR hx hb hts hown hW 0 lm_0 2 2 rfl fX11_17 dX11_text_188 ?_
                              refine lv_iload_n hx hb dX11_text_191 rfl (lv_at hl 2 rfl) ?_
                              refine rw_iald hx hb hW hnt4 2 lm_2 (by omega) (by omega) (by decide) dX11_text_192 (v := (My 2 k)) rfl ?_
                              refine rw_iast hx hb hW hnt4 1 lm_1 (v := (My 2 k)) (by omega) (by omega) (by decide) dX11_text_193 (fun H locs hW => ?_)
                              obtain ⟨M23, hM23⟩ : ∃ z, z = upd2 My 1 k (My 2 k) := ⟨_, rfl⟩
                              rw [← hM23] at hW
                              refine rw_iinc (lv' := [(2, .int (iN (k + 1))), (0, .ref (ad 0)), (1, .int (iN n))]) hx hb dX11_text_194 hl (k := 2) rfl (by decide) rfl (fun ls hl => ?_)
                              refine lv_goto (tgt := 176) hx hb dX11_text_197 (by decide) ?_
                              exact ih176 (k + 1) M23 H locs ls (by omega) (by omega) ⟨fun q hq => by rw [hM23, upd2_ne1 hq]; exact hmy.1 q hq, fun j hj => by rw [hM23, upd2_ne2 (by omega)]; exact hmy.2 j (by omega)⟩ (fun j a b => by by_cases e : j = k; subst e; rw [hM23, upd2_eq, hmy.1 2 (by decide)]; rw [hM23, upd2_ne2 e]; exact hcp j a (by omega)) hW (lv_sub hl [1, 2, 0] rfl)
                        exact hC_176 _ 0 Mz H locs ls (Nat.lt_succ_self _) (by omega) ⟨fun _ _ => rfl, fun _ _ => rfl⟩ (fun j a b => absurd b (by omega)) hW (lv_sub hl [1, 2, 0] rfl)
                    · refine rw_bipush hx hb dX11_text_135 (by decide) ?_
                      refine lv_aload_n hx hb dX11_text_137 rfl (lv_at hl 0 rfl) ?_
                      refine rw_getI hx hb hts hown hW 0 lm_0 12 12 rfl rfl fX11_67 dX11_text_138 (v := (M2 0 12)) (by rw [hM11, upd2_ne2 (by decide), hM10, upd2_ne2 (by decide)]) ?_
                      refine rw_isub hx hb dX11_text_141 ?_
                      refine rw_iret hx hb hr hlocks hW dX11_text_142 (⟨(-10) - (M2 0 12), rfl, ?_⟩)
                      refine hcl.bad hrun (by omega) ?_ ?_ ?_
                      · rw [hM11, hM10]; simp [upd2_at]
                      · rw [hM11, hM10]; simp [upd2_at]
                      · intro q j hq; rw [hM11, upd2_at, if_neg (by omega), hM10, upd2_at, if_neg (by omega)]
                  exact hC_115 n Mx H locs ls (by omega) (hfin.closeA c_96) (by omega) hW (lv_sub hl [0, 1] rfl)
                · refine lv_aload_n hx hb dX11_text_99 rfl (lv_at hl 0 rfl) ?_
                  refine rw_getI hx hb hts hown hW 0 lm_0 7 7 rfl rfl fX11_102 dX11_text_100 (v := (Mx 0 7)) rfl ?_
                  refine lv_aload_n hx hb dX11_text_103 rfl (lv_at hl 0 rfl) ?_
                  refine rw_getI hx hb hts hown hW 0 lm_0 3 3 rfl rfl fX11_116 dX11_text_104 (v := (Mx 0 3)) rfl ?_
                  refine rw_icmp_lt (tgt := 115) hx hb dX11_text_107 (by decide) (by omega) (by omega) (fun c_107 => ?_) (fun c_107 => ?_)
                  · have hC_115 : ∀ (n : Int) (M2 : Mem) (H : Heap) (locs : List Loc) (ls : Array Slot), (0 ≤ n ∧ n ≤ 320) → (ClR M M2 (closeX (M 0 9) y)) → (∀ g, y = .inr g → (runX (M 4) (M 0 9) 320 0 st0).1 = n) → Wo G ad CA nt LyM (wA ad LyM) s M2 H locs → lv_has ls 3 [(0, .ref (ad 0)), (1, .int (iN n))] → Wf l 7 159 G ad CA nt LyM (P_X11_text M) p e s m args below meth c H locs (F0 m 115 ls []) := by
                      intro n M2 H locs ls hln hcl hcnt hW hl
                      have hcr := hcl.rng
                      have hca := hcl.1
                      have h3r := hca.2.2.2.2.1
                      have h4r := hca.2.2.2.2.2.1
                      refine lv_aload_n hx hb dX11_text_115 rfl (lv_at hl 0 rfl) ?_
                      refine rw_iconst hx hb dX11_text_116 ?_
                      refine rw_putI hx hb hts hown hW 0 lm_0 9 9 rfl rfl qX11_54 (v := 0) dX11_text_117 (fun H locs hW => ?_)
                      obtain ⟨M24, hM24⟩ : ∃ z, z = upd2 M2 0 9 0 := ⟨_, rfl⟩
                      rw [← hM24] at hW
                      refine lv_aload_n hx hb dX11_text_120 rfl (lv_at hl 0 rfl) ?_
                      refine lv_aload_n hx hb dX11_text_121 rfl (lv_at hl 0 rfl) ?_
                      refine rw_getI hx hb hts hown hW 0 lm_0 11 11 rfl rfl fX11_61 dX11_text_122 (v := (M2 0 11)) (by rw [hM24, upd2_ne2 (by decide)]) ?_
                      refine rw_putI hx hb hts hown hW 0 lm_0 10 10 rfl rfl qX11_136 (v := (M2 0 11)) dX11_text_125 (fun H locs hW => ?_)
                      obtain ⟨M25, hM25⟩ : ∃ z, z = upd2 M24 0 10 (M2 0 11) := ⟨_, rfl⟩
                      rw [← hM25] at hW
                      refine lv_aload_n hx hb dX11_text_128 rfl (lv_at hl 0 rfl) ?_
                      refine rw_getI hx hb hts hown hW 0 lm_0 11 11 rfl rfl fX11_61 dX11_text_129 (v := (M2 0 11)) (by rw [hM25, upd2_ne2 (by decide), hM24, upd2_ne2 (by decide)]) ?_
                      refine rw_if_le (tgt := 143) hx hb dX11_text_132 (by decide) (by omega) (fun c_132 => ?_) (fun c_132 => ?_)
                      · refine lv_aload_n hx hb dX11_text_143 rfl (lv_at hl 0 rfl) ?_
                        refine rw_getR hx hb hts hown hW 0 lm_0 2 2 rfl fX11_17 dX11_text_144 ?_
                        refine rw_bipush hx hb dX11_text_147 (by decide) ?_
                        refine lv_aload_n hx hb dX11_text_149 rfl (lv_at hl 0 rfl) ?_
                        refine rw_getI hx hb hts hown hW 0 lm_0 4 4 rfl rfl fX11_119 dX11_text_150 (v := (M2 0 4)) (by rw [hM25, upd2_ne2 (by decide), hM24, upd2_ne2 (by decide)]) ?_
                        refine rw_bipush hx hb dX11_text_153 (by decide) ?_
                        refine rw_icmp_ne (tgt := 167) hx hb dX11_text_155 (by decide) (by omega) (by decide) (fun c_155 => ?_) (fun c_155 => ?_)
                        · refine lv_aload_n hx hb dX11_text_167 rfl (lv_at hl 0 rfl) ?_
                          refine rw_getI hx hb hts hown hW 0 lm_0 4 4 rfl rfl fX11_119 dX11_text_168 (v := (M2 0 4)) (by rw [hM25, upd2_ne2 (by decide), hM24, upd2_ne2 (by decide)]) ?_
                          refine rw_iconst hx hb dX11_text_171 ?_
                          refine rw_isub hx hb dX11_text_172 ?_
                          refine rw_iast hx hb hW hnt4 2 lm_2 (v := (M2 0 4) - 2) (by omega) (by omega) (by decide) dX11_text_173 (fun H locs hW => ?_)
                          obtain ⟨M26, hM26⟩ : ∃ z, z = upd2 M25 2 27 ((M2 0 4) - 2) := ⟨_, rfl⟩
                          rw [← hM26] at hW
                          obtain ⟨Mz, hMz⟩ : ∃ z, z = M26 := ⟨_, rfl⟩
                          rw [← hMz] at hW
                          have hzf : ∀ (q : Nat) (j : Int), ¬ (q = 0 ∧ (j = 9 ∨ j = 10)) → ¬ (q = 2 ∧ j = 27) → Mz q j = M2 q j := fun q j a b => by rw [hMz, hM26, upd2_at, if_neg (by omega), hM25, upd2_at, if_neg (by omega), hM24, upd2_at, if_neg (by omega)]
                          have hz9 : Mz 0 9 = 0 := by rw [hMz, hM26, hM25, hM24]; simp [upd2_at]
                          have hz10 : Mz 0 10 = M2 0 11 := by rw [hMz, hM26, hM25, hM24]; simp [upd2_at]
                          have hz27 : Mz 2 27 = (if M2 0 4 = -4 then M2 0 3 / 2 else M2 0 4) - 2 := by rw [hMz, hM26, hM25, hM24, upd2_eq]; rw [if_neg (by omega)]
                          refine rw_iconst hx hb dX11_text_174 ?_
                          refine lv_istore_n (lv' := [(2, .int (iN 0)), (0, .ref (ad 0)), (1, .int (iN n))]) hx hb dX11_text_175 rfl hl (by decide) rfl (fun ls hl => ?_)
                          have hC_176 : ∀ N : Nat, ∀ (k : Int) (My : Mem) (H : Heap) (locs : List Loc) (ls : Array Slot), (47 - k).toNat < N → (0 ≤ k ∧ k ≤ 47) → ((∀ q : Nat, q ≠ 1 → My q = Mz q) ∧ ∀ j, (j < 0 ∨ k ≤ j) → My 1 j = Mz 1 j) → (∀ j, 0 ≤ j → j < k → My 1 j = Mz 2 j) → Wo G ad CA nt LyM (wA ad LyM) s My H locs → lv_has ls 3 [(0, .ref (ad 0)), (1, .int (iN n)), (2, .int (iN k))] → Wf l 7 159 G ad CA nt LyM (P_X11_text M) p e s m args below meth c H locs (F0 m 176 ls []) := by
                            intro N
                            induction N with
                            | zero => intro k My H locs ls hN; exact absurd hN (Nat.not_lt_zero _)
                            | succ N ih176 =>
                              intro k My H locs ls hN hk hmy hcp hW hl
                              refine lv_iload_n hx hb dX11_text_176 rfl (lv_at hl 2 rfl) ?_
                              refine rw_bipush hx hb dX11_text_177 (by decide) ?_
                              refine rw_icmp_ge (tgt := 200) hx hb dX11_text_179 (by decide) (by omega) (by decide) (fun c_179 => ?_) (fun c_179 => ?_)
                              · refine lv_aload_n hx hb dX11_text_200 rfl (lv_at hl 0 rfl) ?_
                                refine lv_aload_n hx hb dX11_text_201 rfl (lv_at hl 0 rfl) ?_
                                refine rw_getI hx hb hts hown hW 0 lm_0 3 3 rfl rfl fX11_116 dX11_text_202 (v := (My 0 3)) rfl ?_
                                refine rw_putI hx hb hts hown hW 0 lm_0 1 1 rfl rfl qX11_13 (v := (My 0 3)) dX11_text_205 (fun H locs hW => ?_)
                                obtain ⟨M27, hM27⟩ : ∃ z, z = upd2 My 0 1 (My 0 3) := ⟨_, rfl⟩
                                rw [← hM27] at hW
                                refine lv_aload_n hx hb dX11_text_208 rfl (lv_at hl 0 rfl) ?_
                                refine rw_iconst hx hb dX11_text_209 ?_
                                refine rw_putI hx hb hts hown hW 0 lm_0 22 22 rfl rfl qX11_139 (v := 0) dX11_text_210 (fun H locs hW => ?_)
                                obtain ⟨M28, hM28⟩ : ∃ z, z = upd2 M27 0 22 0 := ⟨_, rfl⟩
                                rw [← hM28] at hW
                                refine lv_aload_n hx hb dX11_text_213 rfl (lv_at hl 0 rfl) ?_
                                refine rw_getR hx hb hts hown hW 0 lm_0 23 10 rfl fX11_41 dX11_text_214 ?_
                                refine rw_iconst hx hb dX11_text_217 ?_
                                refine rw_iconst hx hb dX11_text_218 ?_
                                refine rw_zast hx hb hW hnt4 10 lm_10 (by omega) (by omega) (by decide) (by omega) dX11_text_219 (fun H locs hW => ?_)
                                obtain ⟨M29, hM29⟩ : ∃ z, z = upd2 M28 10 0 0 := ⟨_, rfl⟩
                                rw [← hM29] at hW
                                refine lv_aload_n hx hb dX11_text_220 rfl (lv_at hl 0 rfl) ?_
                                refine rw_getR hx hb hts hown hW 0 lm_0 23 10 rfl fX11_41 dX11_text_221 ?_
                                refine rw_iconst hx hb dX11_text_224 ?_
                                refine rw_iconst hx hb dX11_text_225 ?_
                                refine rw_zast hx hb hW hnt4 10 lm_10 (by omega) (by omega) (by decide) (by omega) dX11_text_226 (fun H locs hW => ?_)
                                obtain ⟨M30, hM30⟩ : ∃ z, z = upd2 M29 10 1 0 := ⟨_, rfl⟩
                                rw [← hM30] at hW
                                refine lv_iload_n hx hb dX11_text_227 rfl (lv_at hl 1 rfl) ?_
                                refine rw_iret hx hb hr hlocks hW dX11_text_228 (⟨n, rfl, ?_⟩)
                                refine hcl.good hrun hcnt (by omega) ?_ ?_ ?_ ?_ ?_ ?_ ?_ ?_
                                · rw [hM30, hM29, hM28, hM27]; simp [upd2_at]; rw [hmy.1 0 (by decide), hz10]; omega
                                · rw [hM30, hM29, hM28, hM27]; simp [upd2_at]; rw [hmy.1 0 (by decide), hz9]
                                · rw [hM30, hM29, hM28, hM27]; simp [upd2_at]
                                · rw [hM30, hM29, hM28, hM27]; simp [upd2_at]
                                · rw [hM30, hM29, hM28, hM27]; simp [upd2_at]
                                · rw [hM30, hM29, hM28, hM27]; simp [upd2_at]; rw [hmy.1 0 (by decide), hzf 0 3 (by omega) (by omega)]
                                · intro j a b; rw [hM30, upd2_ne1 (by decide), hM29, upd2_ne1 (by decide), hM28, upd2_ne1 (by decide), hM27, upd2_ne1 (by decide), hcp j a (by omega)]; by_cases e : j = 27; subst e; rw [if_pos rfl]; exact hz27; rw [if_neg e]; exact hzf 2 j (by omega) (by omega)
                                · intro q j hq; rw [hM30, upd2_at, if_neg (fun z => hq (by omega)), hM29, upd2_at, if_neg (fun z => hq (by omega)), hM28, upd2_at, if_neg (fun z => hq (by omega)), hM27, upd2_at, if_neg (fun z => hq (by omega))]; by_cases e : q = 1; subst e; rw [hmy.2 j (by have := hq; omega)]; exact hzf 1 j (by omega) (by omega); rw [hmy.1 q e]; exact hzf q j (fun z => hq (by omega)) (fun z => hq (Or.inl (by unfold Scell; omega)))
                              · refine lv_aload_n hx hb dX11_text_182 rfl (lv_at hl 0 rfl) ?_
                                refine rw_getR hx hb hts hown hW 0 lm_0 0 1 rfl fX11_7 dX11_text_183 ?_
                                refine lv_iload_n hx hb dX11_text_186 rfl (lv_at hl 2 rfl) ?_
                                refine lv_aload_n hx hb dX11_text_187 rfl (lv_at hl 0 rfl) ?_
                                refine rw_getR hx hb hts hown hW 0 lm_0 2 2 rfl fX11_17 dX11_text_188 ?_
                                refine lv_iload_n hx hb dX11_text_191 rfl (lv_at hl 2 rfl) ?_
                                refine rw_iald hx hb hW hnt4 2 lm_2 (by omega) (by omega) (by decide) dX11_text_192 (v := (My 2 k)) rfl ?_
                                refine rw_iast hx hb hW hnt4 1 lm_1 (v := (My 2 k)) (by omega) (by omega) (by decide) dX11_text_193 (fun H locs hW => ?_)
                                obtain ⟨M31, hM31⟩ : ∃ z, z = upd2 My 1 k (My 2 k) := ⟨_, rfl⟩
                                rw [← hM31] at hW
                                refine rw_iinc (lv' := [(2, .int (iN (k + 1))), (0, .ref (ad 0)), (1, .int (iN n))]) hx hb dX11_text_194 hl (k := 2) rfl (by decide) rfl (fun ls hl => ?_)
                                refine lv_goto (tgt := 176) hx hb dX11_text_197 (by decide) ?_
                                exact ih176 (k + 1) M31 H locs ls (by omega) (by omega) ⟨fun q hq => by rw [hM31, upd2_ne1 hq]; exact hmy.1 q hq, fun j hj => by rw [hM31, upd2_ne2 (by omega)]; exact hmy.2 j (by omega)⟩ (fun j a b => by by_cases e : j = k; subst e; rw [hM31, upd2_eq, hmy.1 2 (by decide)]; rw [hM31, upd2_ne2 e]; exact hcp j a (by omega)) hW (lv_sub hl [1, 2, 0] rfl)
                          exact hC_176 _ 0 Mz H locs ls (Nat.lt_succ_self _) (by omega) ⟨fun _ _ => rfl, fun _ _ => rfl⟩ (fun j a b => absurd b (by omega)) hW (lv_sub hl [1, 2, 0] rfl)
                        · refine lv_aload_n hx hb dX11_text_158 rfl (lv_at hl 0 rfl) ?_
                          refine rw_getI hx hb hts hown hW 0 lm_0 3 3 rfl rfl fX11_116 dX11_text_159 (v := (M2 0 3)) (by rw [hM25, upd2_ne2 (by decide), hM24, upd2_ne2 (by decide)]) ?_
                          refine rw_iconst hx hb dX11_text_162 ?_
                          refine rw_idiv hx hb dX11_text_163 (by omega) (by decide) (by decide) rfl ?_
                          refine lv_goto (tgt := 171) hx hb dX11_text_164 (by decide) ?_
                          refine rw_iconst hx hb dX11_text_171 ?_
                          refine rw_isub hx hb dX11_text_172 ?_
                          refine rw_iast hx hb hW hnt4 2 lm_2 (v := (Int.tdiv (M2 0 3) 2) - 2) (by omega) (by omega) (by decide) dX11_text_173 (fun H locs hW => ?_)
                          obtain ⟨M32, hM32⟩ : ∃ z, z = upd2 M25 2 27 ((Int.tdiv (M2 0 3) 2) - 2) := ⟨_, rfl⟩
                          rw [← hM32] at hW
                          obtain ⟨Mz, hMz⟩ : ∃ z, z = M32 := ⟨_, rfl⟩
                          rw [← hMz] at hW
                          have hzf : ∀ (q : Nat) (j : Int), ¬ (q = 0 ∧ (j = 9 ∨ j = 10)) → ¬ (q = 2 ∧ j = 27) → Mz q j = M2 q j := fun q j a b => by rw [hMz, hM32, upd2_at, if_neg (by omega), hM25, upd2_at, if_neg (by omega), hM24, upd2_at, if_neg (by omega)]
                          have hz9 : Mz 0 9 = 0 := by rw [hMz, hM32, hM25, hM24]; simp [upd2_at]
                          have hz10 : Mz 0 10 = M2 0 11 := by rw [hMz, hM32, hM25, hM24]; simp [upd2_at]
                          have hz27 : Mz 2 27 = (if M2 0 4 = -4 then M2 0 3 / 2 else M2 0 4) - 2 := by rw [hMz, hM32, hM25, hM24, upd2_eq]; rw [if_pos (by omega), Int.tdiv_eq_ediv_of_nonneg (by omega)]
                          refine rw_iconst hx hb dX11_text_174 ?_
                          refine lv_istore_n (lv' := [(2, .int (iN 0)), (0, .ref (ad 0)), (1, .int (iN n))]) hx hb dX11_text_175 rfl hl (by decide) rfl (fun ls hl => ?_)
                          have hC_176 : ∀ N : Nat, ∀ (k : Int) (My : Mem) (H : Heap) (locs : List Loc) (ls : Array Slot), (47 - k).toNat < N → (0 ≤ k ∧ k ≤ 47) → ((∀ q : Nat, q ≠ 1 → My q = Mz q) ∧ ∀ j, (j < 0 ∨ k ≤ j) → My 1 j = Mz 1 j) → (∀ j, 0 ≤ j → j < k → My 1 j = Mz 2 j) → Wo G ad CA nt LyM (wA ad LyM) s My H locs → lv_has ls 3 [(0, .ref (ad 0)), (1, .int (iN n)), (2, .int (iN k))] → Wf l 7 159 G ad CA nt LyM (P_X11_text M) p e s m args below meth c H locs (F0 m 176 ls []) := by
                            intro N
                            induction N with
                            | zero => intro k My H locs ls hN; exact absurd hN (Nat.not_lt_zero _)
                            | succ N ih176 =>
                              intro k My H locs ls hN hk hmy hcp hW hl
                              refine lv_iload_n hx hb dX11_text_176 rfl (lv_at hl 2 rfl) ?_
                              refine rw_bipush hx hb dX11_text_177 (by decide) ?_
                              refine rw_icmp_ge (tgt := 200) hx hb dX11_text_179 (by decide) (by omega) (by decide) (fun c_179 => ?_) (fun c_179 => ?_)
                              · refine lv_aload_n hx hb dX11_text_200 rfl (lv_at hl 0 rfl) ?_
                                refine lv_aload_n hx hb dX11_text_201 rfl (lv_at hl 0 rfl) ?_
                                refine rw_getI hx hb hts hown hW 0 lm_0 3 3 rfl rfl fX11_116 dX11_text_202 (v := (My 0 3)) rfl ?_
                                refine rw_putI hx hb hts hown hW 0 lm_0 1 1 rfl rfl qX11_13 (v := (My 0 3)) dX11_text_205 (fun H locs hW => ?_)
                                obtain ⟨M33, hM33⟩ : ∃ z, z = upd2 My 0 1 (My 0 3) := ⟨_, rfl⟩
                                rw [← hM33] at hW
                                refine lv_aload_n hx hb dX11_text_208 rfl (lv_at hl 0 rfl) ?_
                                refine rw_iconst hx hb dX11_text_209 ?_
                                refine rw_putI hx hb hts hown hW 0 lm_0 22 22 rfl rfl qX11_139 (v := 0) dX11_text_210 (fun H locs hW => ?_)
                                obtain ⟨M34, hM34⟩ : ∃ z, z = upd2 M33 0 22 0 := ⟨_, rfl⟩
                                rw [← hM34] at hW
                                refine lv_aload_n hx hb dX11_text_213 rfl (lv_at hl 0 rfl) ?_
                                refine rw_getR hx hb hts hown hW 0 lm_0 23 10 rfl fX11_41 dX11_text_214 ?_
                                refine rw_iconst hx hb dX11_text_217 ?_
                                refine rw_iconst hx hb dX11_text_218 ?_
                                refine rw_zast hx hb hW hnt4 10 lm_10 (by omega) (by omega) (by decide) (by omega) dX11_text_219 (fun H locs hW => ?_)
                                obtain ⟨M35, hM35⟩ : ∃ z, z = upd2 M34 10 0 0 := ⟨_, rfl⟩
                                rw [← hM35] at hW
                                refine lv_aload_n hx hb dX11_text_220 rfl (lv_at hl 0 rfl) ?_
                                refine rw_getR hx hb hts hown hW 0 lm_0 23 10 rfl fX11_41 dX11_text_221 ?_
                                refine rw_iconst hx hb dX11_text_224 ?_
                                refine rw_iconst hx hb dX11_text_225 ?_
                                refine rw_zast hx hb hW hnt4 10 lm_10 (by omega) (by omega) (by decide) (by omega) dX11_text_226 (fun H locs hW => ?_)
                                obtain ⟨M36, hM36⟩ : ∃ z, z = upd2 M35 10 1 0 := ⟨_, rfl⟩
                                rw [← hM36] at hW
                                refine lv_iload_n hx hb dX11_text_227 rfl (lv_at hl 1 rfl) ?_
                                refine rw_iret hx hb hr hlocks hW dX11_text_228 (⟨n, rfl, ?_⟩)
                                refine hcl.good hrun hcnt (by omega) ?_ ?_ ?_ ?_ ?_ ?_ ?_ ?_
                                · rw [hM36, hM35, hM34, hM33]; simp [upd2_at]; rw [hmy.1 0 (by decide), hz10]; omega
                                · rw [hM36, hM35, hM34, hM33]; simp [upd2_at]; rw [hmy.1 0 (by decide), hz9]
                                · rw [hM36, hM35, hM34, hM33]; simp [upd2_at]
                                · rw [hM36, hM35, hM34, hM33]; simp [upd2_at]
                                · rw [hM36, hM35, hM34, hM33]; simp [upd2_at]
                                · rw [hM36, hM35, hM34, hM33]; simp [upd2_at]; rw [hmy.1 0 (by decide), hzf 0 3 (by omega) (by omega)]
                                · intro j a b; rw [hM36, upd2_ne1 (by decide), hM35, upd2_ne1 (by decide), hM34, upd2_ne1 (by decide), hM33, upd2_ne1 (by decide), hcp j a (by omega)]; by_cases e : j = 27; subst e; rw [if_pos rfl]; exact hz27; rw [if_neg e]; exact hzf 2 j (by omega) (by omega)
                                · intro q j hq; rw [hM36, upd2_at, if_neg (fun z => hq (by omega)), hM35, upd2_at, if_neg (fun z => hq (by omega)), hM34, upd2_at, if_neg (fun z => hq (by omega)), hM33, upd2_at, if_neg (fun z => hq (by omega))]; by_cases e : q = 1; subst e; rw [hmy.2 j (by have := hq; omega)]; exact hzf 1 j (by omega) (by omega); rw [hmy.1 q e]; exact hzf q j (fun z => hq (by omega)) (fun z => hq (Or.inl (by unfold Scell; omega)))
                              · refine lv_aload_n hx hb dX11_text_182 rfl (lv_at hl 0 rfl) ?_
                                refine rw_getR hx hb hts hown hW 0 lm_0 0 1 rfl fX11_7 dX11_text_183 ?_
                                refine lv_iload_n hx hb dX11_text_186 rfl (lv_at hl 2 rfl) ?_
                                refine lv_aload_n hx hb dX11_text_187 rfl (lv_at hl 0 rfl) ?_
                                refine rw_getR hx hb hts hown hW 0 lm_0 2 2 rfl fX11_17 dX11_text_188 ?_
                                refine lv_iload_n hx hb dX11_text_191 rfl (lv_at hl 2 rfl) ?_
                                refine rw_iald hx hb hW hnt4 2 lm_2 (by omega) (by omega) (by decide) dX11_text_192 (v := (My 2 k)) rfl ?_
                                refine rw_iast hx hb hW hnt4 1 lm_1 (v := (My 2 k)) (by omega) (by omega) (by decide) dX11_text_193 (fun H locs hW => ?_)
                                obtain ⟨M37, hM37⟩ : ∃ z, z = upd2 My 1 k (My 2 k) := ⟨_, rfl⟩
                                rw [← hM37] at hW
                                refine rw_iinc (lv' := [(2, .int (iN (k + 1))), (0, .ref (ad 0)), (1, .int (iN n))]) hx hb dX11_text_194 hl (k := 2) rfl (by decide) rfl (fun ls hl => ?_)
                                refine lv_goto (tgt := 176) hx hb dX11_text_197 (by decide) ?_
                                exact ih176 (k + 1) M37 H locs ls (by omega) (by omega) ⟨fun q hq => by rw [hM37, upd2_ne1 hq]; exact hmy.1 q hq, fun j hj => by rw [hM37, upd2_ne2 (by omega)]; exact hmy.2 j (by omega)⟩ (fun j a b => by by_cases e : j = k; subst e; rw [hM37, upd2_eq, hmy.1 2 (by decide)]; rw [hM37, upd2_ne2 e]; exact hcp j a (by omega)) hW (lv_sub hl [1, 2, 0] rfl)
                          exact hC_176 _ 0 Mz H locs ls (Nat.lt_succ_self _) (by omega) ⟨fun _ _ => rfl, fun _ _ => rfl⟩ (fun j a b => absurd b (by omega)) hW (lv_sub hl [1, 2, 0] rfl)
                      · refine rw_bipush hx hb dX11_text_135 (by decide) ?_
                        refine lv_aload_n hx hb dX11_text_137 rfl (lv_at hl 0 rfl) ?_
                        refine rw_getI hx hb hts hown hW 0 lm_0 12 12 rfl rfl fX11_67 dX11_text_138 (v := (M2 0 12)) (by rw [hM25, upd2_ne2 (by decide), hM24, upd2_ne2 (by decide)]) ?_
                        refine rw_isub hx hb dX11_text_141 ?_
                        refine rw_iret hx hb hr hlocks hW dX11_text_142 (⟨(-10) - (M2 0 12), rfl, ?_⟩)
                        refine hcl.bad hrun (by omega) ?_ ?_ ?_
                        · rw [hM25, hM24]; simp [upd2_at]
                        · rw [hM25, hM24]; simp [upd2_at]
                        · intro q j hq; rw [hM25, upd2_at, if_neg (by omega), hM24, upd2_at, if_neg (by omega)]
                    exact hC_115 n Mx H locs ls (by omega) (hfin.closeC (by omega) (by omega)) (by omega) hW (lv_sub hl [0, 1] rfl)
                  · refine lv_aload_n hx hb dX11_text_110 rfl (lv_at hl 0 rfl) ?_
                    refine rw_iconst hx hb dX11_text_111 ?_
                    refine rw_callV hx hb hml hts hown hW ⟨Nat.le_refl 0, Nat.le_refl 0⟩ [.int (iN 5)] 0 lm_0 rfl (c_X11_fails (l := l) (G := G) (ad := ad) (CA := CA) (nt := nt) (by omega) 5 Mx h11r) kX11_91 rfl ⟨Nat.le_of_ble_eq_true rfl, Nat.le_of_ble_eq_true rfl⟩ hl.1 rfl (Nat.le_of_ble_eq_true rfl) dX11_text_112 (fun v38 M39 H locs hp40 hW => ?_)
                    obtain ⟨rfl, hM39⟩ := hp40
                    refine rw_stk (st' := []) rfl ?_
                    have hC_115 : ∀ (n : Int) (M2 : Mem) (H : Heap) (locs : List Loc) (ls : Array Slot), (0 ≤ n ∧ n ≤ 320) → (ClR M M2 (closeX (M 0 9) y)) → (∀ g, y = .inr g → (runX (M 4) (M 0 9) 320 0 st0).1 = n) → Wo G ad CA nt LyM (wA ad LyM) s M2 H locs → lv_has ls 3 [(0, .ref (ad 0)), (1, .int (iN n))] → Wf l 7 159 G ad CA nt LyM (P_X11_text M) p e s m args below meth c H locs (F0 m 115 ls []) := by
                      intro n M2 H locs ls hln hcl hcnt hW hl
                      have hcr := hcl.rng
                      have hca := hcl.1
                      have h3r := hca.2.2.2.2.1
                      have h4r := hca.2.2.2.2.2.1
                      refine lv_aload_n hx hb dX11_text_115 rfl (lv_at hl 0 rfl) ?_
                      refine rw_iconst hx hb dX11_text_116 ?_
                      refine rw_putI hx hb hts hown hW 0 lm_0 9 9 rfl rfl qX11_54 (v := 0) dX11_text_117 (fun H locs hW => ?_)
                      obtain ⟨M41, hM41⟩ : ∃ z, z = upd2 M2 0 9 0 := ⟨_, rfl⟩
                      rw [← hM41] at hW
                      refine lv_aload_n hx hb dX11_text_120 rfl (lv_at hl 0 rfl) ?_
                      refine lv_aload_n hx hb dX11_text_121 rfl (lv_at hl 0 rfl) ?_
                      refine rw_getI hx hb hts hown hW 0 lm_0 11 11 rfl rfl fX11_61 dX11_text_122 (v := (M2 0 11)) (by rw [hM41, upd2_ne2 (by decide)]) ?_
                      refine rw_putI hx hb hts hown hW 0 lm_0 10 10 rfl rfl qX11_136 (v := (M2 0 11)) dX11_text_125 (fun H locs hW => ?_)
                      obtain ⟨M42, hM42⟩ : ∃ z, z = upd2 M41 0 10 (M2 0 11) := ⟨_, rfl⟩
                      rw [← hM42] at hW
                      refine lv_aload_n hx hb dX11_text_128 rfl (lv_at hl 0 rfl) ?_
                      refine rw_getI hx hb hts hown hW 0 lm_0 11 11 rfl rfl fX11_61 dX11_text_129 (v := (M2 0 11)) (by rw [hM42, upd2_ne2 (by decide), hM41, upd2_ne2 (by decide)]) ?_
                      refine rw_if_le (tgt := 143) hx hb dX11_text_132 (by decide) (by omega) (fun c_132 => ?_) (fun c_132 => ?_)
                      · refine lv_aload_n hx hb dX11_text_143 rfl (lv_at hl 0 rfl) ?_
                        refine rw_getR hx hb hts hown hW 0 lm_0 2 2 rfl fX11_17 dX11_text_144 ?_
                        refine rw_bipush hx hb dX11_text_147 (by decide) ?_
                        refine lv_aload_n hx hb dX11_text_149 rfl (lv_at hl 0 rfl) ?_
                        refine rw_getI hx hb hts hown hW 0 lm_0 4 4 rfl rfl fX11_119 dX11_text_150 (v := (M2 0 4)) (by rw [hM42, upd2_ne2 (by decide), hM41, upd2_ne2 (by decide)]) ?_
                        refine rw_bipush hx hb dX11_text_153 (by decide) ?_
                        refine rw_icmp_ne (tgt := 167) hx hb dX11_text_155 (by decide) (by omega) (by decide) (fun c_155 => ?_) (fun c_155 => ?_)
                        · refine lv_aload_n hx hb dX11_text_167 rfl (lv_at hl 0 rfl) ?_
                          refine rw_getI hx hb hts hown hW 0 lm_0 4 4 rfl rfl fX11_119 dX11_text_168 (v := (M2 0 4)) (by rw [hM42, upd2_ne2 (by decide), hM41, upd2_ne2 (by decide)]) ?_
                          refine rw_iconst hx hb dX11_text_171 ?_
                          refine rw_isub hx hb dX11_text_172 ?_
                          refine rw_iast hx hb hW hnt4 2 lm_2 (v := (M2 0 4) - 2) (by omega) (by omega) (by decide) dX11_text_173 (fun H locs hW => ?_)
                          obtain ⟨M43, hM43⟩ : ∃ z, z = upd2 M42 2 27 ((M2 0 4) - 2) := ⟨_, rfl⟩
                          rw [← hM43] at hW
                          obtain ⟨Mz, hMz⟩ : ∃ z, z = M43 := ⟨_, rfl⟩
                          rw [← hMz] at hW
                          have hzf : ∀ (q : Nat) (j : Int), ¬ (q = 0 ∧ (j = 9 ∨ j = 10)) → ¬ (q = 2 ∧ j = 27) → Mz q j = M2 q j := fun q j a b => by rw [hMz, hM43, upd2_at, if_neg (by omega), hM42, upd2_at, if_neg (by omega), hM41, upd2_at, if_neg (by omega)]
                          have hz9 : Mz 0 9 = 0 := by rw [hMz, hM43, hM42, hM41]; simp [upd2_at]
                          have hz10 : Mz 0 10 = M2 0 11 := by rw [hMz, hM43, hM42, hM41]; simp [upd2_at]
                          have hz27 : Mz 2 27 = (if M2 0 4 = -4 then M2 0 3 / 2 else M2 0 4) - 2 := by rw [hMz, hM43, hM42, hM41, upd2_eq]; rw [if_neg (by omega)]
                          refine rw_iconst hx hb dX11_text_174 ?_
                          refine lv_istore_n (lv' := [(2, .int (iN 0)), (0, .ref (ad 0)), (1, .int (iN n))]) hx hb dX11_text_175 rfl hl (by decide) rfl (fun ls hl => ?_)
                          have hC_176 : ∀ N : Nat, ∀ (k : Int) (My : Mem) (H : Heap) (locs : List Loc) (ls : Array Slot), (47 - k).toNat < N → (0 ≤ k ∧ k ≤ 47) → ((∀ q : Nat, q ≠ 1 → My q = Mz q) ∧ ∀ j, (j < 0 ∨ k ≤ j) → My 1 j = Mz 1 j) → (∀ j, 0 ≤ j → j < k → My 1 j = Mz 2 j) → Wo G ad CA nt LyM (wA ad LyM) s My H locs → lv_has ls 3 [(0, .ref (ad 0)), (1, .int (iN n)), (2, .int (iN k))] → Wf l 7 159 G ad CA nt LyM (P_X11_text M) p e s m args below meth c H locs (F0 m 176 ls []) := by
                            intro N
                            induction N with
                            | zero => intro k My H locs ls hN; exact absurd hN (Nat.not_lt_zero _)
                            | succ N ih176 =>
                              intro k My H locs ls hN hk hmy hcp hW hl
                              refine lv_iload_n hx hb dX11_text_176 rfl (lv_at hl 2 rfl) ?_
                              refine rw_bipush hx hb dX11_text_177 (by decide) ?_
                              refine rw_icmp_ge (tgt := 200) hx hb dX11_text_179 (by decide) (by omega) (by decide) (fun c_179 => ?_) (fun c_179 => ?_)
                              · refine lv_aload_n hx hb dX11_text_200 rfl (lv_at hl 0 rfl) ?_
                                refine lv_aload_n hx hb dX11_text_201 rfl (lv_at hl 0 rfl) ?_
                                refine rw_getI hx hb hts hown hW 0 lm_0 3 3 rfl rfl fX11_116 dX11_text_202 (v := (My 0 3)) rfl ?_
                                refine rw_putI hx hb hts hown hW 0 lm_0 1 1 rfl rfl qX11_13 (v := (My 0 3)) dX11_text_205 (fun H locs hW => ?_)
                                obtain ⟨M44, hM44⟩ : ∃ z, z = upd2 My 0 1 (My 0 3) := ⟨_, rfl⟩
                                rw [← hM44] at hW
                                refine lv_aload_n hx hb dX11_text_208 rfl (lv_at hl 0 rfl) ?_
                                refine rw_iconst hx hb dX11_text_209 ?_
                                refine rw_putI hx hb hts hown hW 0 lm_0 22 22 rfl rfl qX11_139 (v := 0) dX11_text_210 (fun H locs hW => ?_)
                                obtain ⟨M45, hM45⟩ : ∃ z, z = upd2 M44 0 22 0 := ⟨_, rfl⟩
                                rw [← hM45] at hW
                                refine lv_aload_n hx hb dX11_text_213 rfl (lv_at hl 0 rfl) ?_
                                refine rw_getR hx hb hts hown hW 0 lm_0 23 10 rfl fX11_41 dX11_text_214 ?_
                                refine rw_iconst hx hb dX11_text_217 ?_
                                refine rw_iconst hx hb dX11_text_218 ?_
                                refine rw_zast hx hb hW hnt4 10 lm_10 (by omega) (by omega) (by decide) (by omega) dX11_text_219 (fun H locs hW => ?_)
                                obtain ⟨M46, hM46⟩ : ∃ z, z = upd2 M45 10 0 0 := ⟨_, rfl⟩
                                rw [← hM46] at hW
                                refine lv_aload_n hx hb dX11_text_220 rfl (lv_at hl 0 rfl) ?_
                                refine rw_getR hx hb hts hown hW 0 lm_0 23 10 rfl fX11_41 dX11_text_221 ?_
                                refine rw_iconst hx hb dX11_text_224 ?_
                                refine rw_iconst hx hb dX11_text_225 ?_
                                refine rw_zast hx hb hW hnt4 10 lm_10 (by omega) (by omega) (by decide) (by omega) dX11_text_226 (fun H locs hW => ?_)
                                obtain ⟨M47, hM47⟩ : ∃ z, z = upd2 M46 10 1 0 := ⟨_, rfl⟩
                                rw [← hM47] at hW
                                refine lv_iload_n hx hb dX11_text_227 rfl (lv_at hl 1 rfl) ?_
                                refine rw_iret hx hb hr hlocks hW dX11_text_228 (⟨n, rfl, ?_⟩)
                                refine hcl.good hrun hcnt (by omega) ?_ ?_ ?_ ?_ ?_ ?_ ?_ ?_
                                · rw [hM47, hM46, hM45, hM44]; simp [upd2_at]; rw [hmy.1 0 (by decide), hz10]; omega
                                · rw [hM47, hM46, hM45, hM44]; simp [upd2_at]; rw [hmy.1 0 (by decide), hz9]
                                · rw [hM47, hM46, hM45, hM44]; simp [upd2_at]
                                · rw [hM47, hM46, hM45, hM44]; simp [upd2_at]
                                · rw [hM47, hM46, hM45, hM44]; simp [upd2_at]
                                · rw [hM47, hM46, hM45, hM44]; simp [upd2_at]; rw [hmy.1 0 (by decide), hzf 0 3 (by omega) (by omega)]
                                · intro j a b; rw [hM47, upd2_ne1 (by decide), hM46, upd2_ne1 (by decide), hM45, upd2_ne1 (by decide), hM44, upd2_ne1 (by decide), hcp j a (by omega)]; by_cases e : j = 27; subst e; rw [if_pos rfl]; exact hz27; rw [if_neg e]; exact hzf 2 j (by omega) (by omega)
                                · intro q j hq; rw [hM47, upd2_at, if_neg (fun z => hq (by omega)), hM46, upd2_at, if_neg (fun z => hq (by omega)), hM45, upd2_at, if_neg (fun z => hq (by omega)), hM44, upd2_at, if_neg (fun z => hq (by omega))]; by_cases e : q = 1; subst e; rw [hmy.2 j (by have := hq; omega)]; exact hzf 1 j (by omega) (by omega); rw [hmy.1 q e]; exact hzf q j (fun z => hq (by omega)) (fun z => hq (Or.inl (by unfold Scell; omega)))
                              · refine lv_aload_n hx hb dX11_text_182 rfl (lv_at hl 0 rfl) ?_
                                refine rw_getR hx hb hts hown hW 0 lm_0 0 1 rfl fX11_7 dX11_text_183 ?_
                                refine lv_iload_n hx hb dX11_text_186 rfl (lv_at hl 2 rfl) ?_
                                refine lv_aload_n hx hb dX11_text_187 rfl (lv_at hl 0 rfl) ?_
                                refine rw_getR hx hb hts hown hW 0 lm_0 2 2 rfl fX11_17 dX11_text_188 ?_
                                refine lv_iload_n hx hb dX11_text_191 rfl (lv_at hl 2 rfl) ?_
                                refine rw_iald hx hb hW hnt4 2 lm_2 (by omega) (by omega) (by decide) dX11_text_192 (v := (My 2 k)) rfl ?_
                                refine rw_iast hx hb hW hnt4 1 lm_1 (v := (My 2 k)) (by omega) (by omega) (by decide) dX11_text_193 (fun H locs hW => ?_)
                                obtain ⟨M48, hM48⟩ : ∃ z, z = upd2 My 1 k (My 2 k) := ⟨_, rfl⟩
                                rw [← hM48] at hW
                                refine rw_iinc (lv' := [(2, .int (iN (k + 1))), (0, .ref (ad 0)), (1, .int (iN n))]) hx hb dX11_text_194 hl (k := 2) rfl (by decide) rfl (fun ls hl => ?_)
                                refine lv_goto (tgt := 176) hx hb dX11_text_197 (by decide) ?_
                                exact ih176 (k + 1) M48 H locs ls (by omega) (by omega) ⟨fun q hq => by rw [hM48, upd2_ne1 hq]; exact hmy.1 q hq, fun j hj => by rw [hM48, upd2_ne2 (by omega)]; exact hmy.2 j (by omega)⟩ (fun j a b => by by_cases e : j = k; subst e; rw [hM48, upd2_eq, hmy.1 2 (by decide)]; rw [hM48, upd2_ne2 e]; exact hcp j a (by omega)) hW (lv_sub hl [1, 2, 0] rfl)
                          exact hC_176 _ 0 Mz H locs ls (Nat.lt_succ_self _) (by omega) ⟨fun _ _ => rfl, fun _ _ => rfl⟩ (fun j a b => absurd b (by omega)) hW (lv_sub hl [1, 2, 0] rfl)
                        · refine lv_aload_n hx hb dX11_text_158 rfl (lv_at hl 0 rfl) ?_
                          refine rw_getI hx hb hts hown hW 0 lm_0 3 3 rfl rfl fX11_116 dX11_text_159 (v := (M2 0 3)) (by rw [hM42, upd2_ne2 (by decide), hM41, upd2_ne2 (by decide)]) ?_
                          refine rw_iconst hx hb dX11_text_162 ?_
                          refine rw_idiv hx hb dX11_text_163 (by omega) (by decide) (by decide) rfl ?_
                          refine lv_goto (tgt := 171) hx hb dX11_text_164 (by decide) ?_
                          refine rw_iconst hx hb dX11_text_171 ?_
                          refine rw_isub hx hb dX11_text_172 ?_
                          refine rw_iast hx hb hW hnt4 2 lm_2 (v := (Int.tdiv (M2 0 3) 2) - 2) (by omega) (by omega) (by decide) dX11_text_173 (fun H locs hW => ?_)
                          obtain ⟨M49, hM49⟩ : ∃ z, z = upd2 M42 2 27 ((Int.tdiv (M2 0 3) 2) - 2) := ⟨_, rfl⟩
                          rw [← hM49] at hW
                          obtain ⟨Mz, hMz⟩ : ∃ z, z = M49 := ⟨_, rfl⟩
                          rw [← hMz] at hW
                          have hzf : ∀ (q : Nat) (j : Int), ¬ (q = 0 ∧ (j = 9 ∨ j = 10)) → ¬ (q = 2 ∧ j = 27) → Mz q j = M2 q j := fun q j a b => by rw [hMz, hM49, upd2_at, if_neg (by omega), hM42, upd2_at, if_neg (by omega), hM41, upd2_at, if_neg (by omega)]
                          have hz9 : Mz 0 9 = 0 := by rw [hMz, hM49, hM42, hM41]; simp [upd2_at]
                          have hz10 : Mz 0 10 = M2 0 11 := by rw [hMz, hM49, hM42, hM41]; simp [upd2_at]
                          have hz27 : Mz 2 27 = (if M2 0 4 = -4 then M2 0 3 / 2 else M2 0 4) - 2 := by rw [hMz, hM49, hM42, hM41, upd2_eq]; rw [if_pos (by omega), Int.tdiv_eq_ediv_of_nonneg (by omega)]
                          refine rw_iconst hx hb dX11_text_174 ?_
                          refine lv_istore_n (lv' := [(2, .int (iN 0)), (0, .ref (ad 0)), (1, .int (iN n))]) hx hb dX11_text_175 rfl hl (by decide) rfl (fun ls hl => ?_)
                          have hC_176 : ∀ N : Nat, ∀ (k : Int) (My : Mem) (H : Heap) (locs : List Loc) (ls : Array Slot), (47 - k).toNat < N → (0 ≤ k ∧ k ≤ 47) → ((∀ q : Nat, q ≠ 1 → My q = Mz q) ∧ ∀ j, (j < 0 ∨ k ≤ j) → My 1 j = Mz 1 j) → (∀ j, 0 ≤ j → j < k → My 1 j = Mz 2 j) → Wo G ad CA nt LyM (wA ad LyM) s My H locs → lv_has ls 3 [(0, .ref (ad 0)), (1, .int (iN n)), (2, .int (iN k))] → Wf l 7 159 G ad CA nt LyM (P_X11_text M) p e s m args below meth c H locs (F0 m 176 ls []) := by
                            intro N
                            induction N with
                            | zero => intro k My H locs ls hN; exact absurd hN (Nat.not_lt_zero _)
                            | succ N ih176 =>
                              intro k My H locs ls hN hk hmy hcp hW hl
                              refine lv_iload_n hx hb dX11_text_176 rfl (lv_at hl 2 rfl) ?_
                              refine rw_bipush hx hb dX11_text_177 (by decide) ?_
                              refine rw_icmp_ge (tgt := 200) hx hb dX11_text_179 (by decide) (by omega) (by decide) (fun c_179 => ?_) (fun c_179 => ?_)
                              · refine lv_aload_n hx hb dX11_text_200 rfl (lv_at hl 0 rfl) ?_
                                refine lv_aload_n hx hb dX11_text_201 rfl (lv_at hl 0 rfl) ?_
                                refine rw_getI hx hb hts hown hW 0 lm_0 3 3 rfl rfl fX11_116 dX11_text_202 (v := (My 0 3)) rfl ?_
                                refine rw_putI hx hb hts hown hW 0 lm_0 1 1 rfl rfl qX11_13 (v := (My 0 3)) dX11_text_205 (fun H locs hW => ?_)
                                obtain ⟨M50, hM50⟩ : ∃ z, z = upd2 My 0 1 (My 0 3) := ⟨_, rfl⟩
                                rw [← hM50] at hW
                                refine lv_aload_n hx hb dX11_text_208 rfl (lv_at hl 0 rfl) ?_
                                refine rw_iconst hx hb dX11_text_209 ?_
                                refine rw_putI hx hb hts hown hW 0 lm_0 22 22 rfl rfl qX11_139 (v := 0) dX11_text_210 (fun H locs hW => ?_)
                                obtain ⟨M51, hM51⟩ : ∃ z, z = upd2 M50 0 22 0 := ⟨_, rfl⟩
                                rw [← hM51] at hW
                                refine lv_aload_n hx hb dX11_text_213 rfl (lv_at hl 0 rfl) ?_
                                refine rw_getR hx hb hts hown hW 0 lm_0 23 10 rfl fX11_41 dX11_text_214 ?_
                                refine rw_iconst hx hb dX11_text_217 ?_
                                refine rw_iconst hx hb dX11_text_218 ?_
                                refine rw_zast hx hb hW hnt4 10 lm_10 (by omega) (by omega) (by decide) (by omega) dX11_text_219 (fun H locs hW => ?_)
                                obtain ⟨M52, hM52⟩ : ∃ z, z = upd2 M51 10 0 0 := ⟨_, rfl⟩
                                rw [← hM52] at hW
                                refine lv_aload_n hx hb dX11_text_220 rfl (lv_at hl 0 rfl) ?_
                                refine rw_getR hx hb hts hown hW 0 lm_0 23 10 rfl fX11_41 dX11_text_221 ?_
                                refine rw_iconst hx hb dX11_text_224 ?_
                                refine rw_iconst hx hb dX11_text_225 ?_
                                refine rw_zast hx hb hW hnt4 10 lm_10 (by omega) (by omega) (by decide) (by omega) dX11_text_226 (fun H locs hW => ?_)
                                obtain ⟨M53, hM53⟩ : ∃ z, z = upd2 M52 10 1 0 := ⟨_, rfl⟩
                                rw [← hM53] at hW
                                refine lv_iload_n hx hb dX11_text_227 rfl (lv_at hl 1 rfl) ?_
                                refine rw_iret hx hb hr hlocks hW dX11_text_228 (⟨n, rfl, ?_⟩)
                                refine hcl.good hrun hcnt (by omega) ?_ ?_ ?_ ?_ ?_ ?_ ?_ ?_
                                · rw [hM53, hM52, hM51, hM50]; simp [upd2_at]; rw [hmy.1 0 (by decide), hz10]; omega
                                · rw [hM53, hM52, hM51, hM50]; simp [upd2_at]; rw [hmy.1 0 (by decide), hz9]
                                · rw [hM53, hM52, hM51, hM50]; simp [upd2_at]
                                · rw [hM53, hM52, hM51, hM50]; simp [upd2_at]
                                · rw [hM53, hM52, hM51, hM50]; simp [upd2_at]
                                · rw [hM53, hM52, hM51, hM50]; simp [upd2_at]; rw [hmy.1 0 (by decide), hzf 0 3 (by omega) (by omega)]
                                · intro j a b; rw [hM53, upd2_ne1 (by decide), hM52, upd2_ne1 (by decide), hM51, upd2_ne1 (by decide), hM50, upd2_ne1 (by decide), hcp j a (by omega)]; by_cases e : j = 27; subst e; rw [if_pos rfl]; exact hz27; rw [if_neg e]; exact hzf 2 j (by omega) (by omega)
                                · intro q j hq; rw [hM53, upd2_at, if_neg (fun z => hq (by omega)), hM52, upd2_at, if_neg (fun z => hq (by omega)), hM51, upd2_at, if_neg (fun z => hq (by omega)), hM50, upd2_at, if_neg (fun z => hq (by omega))]; by_cases e : q = 1; subst e; rw [hmy.2 j (by have := hq; omega)]; exact hzf 1 j (by omega) (by omega); rw [hmy.1 q e]; exact hzf q j (fun z => hq (by omega)) (fun z => hq (Or.inl (by unfold Scell; omega)))
                              · refine lv_aload_n hx hb dX11_text_182 rfl (lv_at hl 0 rfl) ?_
                                refine rw_getR hx hb hts hown hW 0 lm_0 0 1 rfl fX11_7 dX11_text_183 ?_
                                refine lv_iload_n hx hb dX11_text_186 rfl (lv_at hl 2 rfl) ?_
                                refine lv_aload_n hx hb dX11_text_187 rfl (lv_at hl 0 rfl) ?_
                                refine rw_getR hx hb hts hown hW 0 lm_0 2 2 rfl fX11_17 dX11_text_188 ?_
                                refine lv_iload_n hx hb dX11_text_191 rfl (lv_at hl 2 rfl) ?_
                                refine rw_iald hx hb hW hnt4 2 lm_2 (by omega) (by omega) (by decide) dX11_text_192 (v := (My 2 k)) rfl ?_
                                refine rw_iast hx hb hW hnt4 1 lm_1 (v := (My 2 k)) (by omega) (by omega) (by decide) dX11_text_193 (fun H locs hW => ?_)
                                obtain ⟨M54, hM54⟩ : ∃ z, z = upd2 My 1 k (My 2 k) := ⟨_, rfl⟩
                                rw [← hM54] at hW
                                refine rw_iinc (lv' := [(2, .int (iN (k + 1))), (0, .ref (ad 0)), (1, .int (iN n))]) hx hb dX11_text_194 hl (k := 2) rfl (by decide) rfl (fun ls hl => ?_)
                                refine lv_goto (tgt := 176) hx hb dX11_text_197 (by decide) ?_
                                exact ih176 (k + 1) M54 H locs ls (by omega) (by omega) ⟨fun q hq => by rw [hM54, upd2_ne1 hq]; exact hmy.1 q hq, fun j hj => by rw [hM54, upd2_ne2 (by omega)]; exact hmy.2 j (by omega)⟩ (fun j a b => by by_cases e : j = k; subst e; rw [hM54, upd2_eq, hmy.1 2 (by decide)]; rw [hM54, upd2_ne2 e]; exact hcp j a (by omega)) hW (lv_sub hl [1, 2, 0] rfl)
                          exact hC_176 _ 0 Mz H locs ls (Nat.lt_succ_self _) (by omega) ⟨fun _ _ => rfl, fun _ _ => rfl⟩ (fun j a b => absurd b (by omega)) hW (lv_sub hl [1, 2, 0] rfl)
                      · refine rw_bipush hx hb dX11_text_135 (by decide) ?_
                        refine lv_aload_n hx hb dX11_text_137 rfl (lv_at hl 0 rfl) ?_
                        refine rw_getI hx hb hts hown hW 0 lm_0 12 12 rfl rfl fX11_67 dX11_text_138 (v := (M2 0 12)) (by rw [hM42, upd2_ne2 (by decide), hM41, upd2_ne2 (by decide)]) ?_
                        refine rw_isub hx hb dX11_text_141 ?_
                        refine rw_iret hx hb hr hlocks hW dX11_text_142 (⟨(-10) - (M2 0 12), rfl, ?_⟩)
                        refine hcl.bad hrun (by omega) ?_ ?_ ?_
                        · rw [hM42, hM41]; simp [upd2_at]
                        · rw [hM42, hM41]; simp [upd2_at]
                        · intro q j hq; rw [hM42, upd2_at, if_neg (by omega), hM41, upd2_at, if_neg (by omega)]
                    exact hC_115 n M39 H locs ls (by omega) (hfin.closeB (by omega) (by omega) hM39) (by omega) hW (lv_sub hl [0, 1] rfl)
              obtain ⟨yf, hyf1, hyf2, hyf3⟩ := hS.fin (Or.inl c_72) hln hr1 hr2
              exact hC_92 n Mx yf H locs ls (by omega) hyf1 hyf2 hyf3 (by omega) hW (lv_sub hl [0, 1] rfl)
            · refine lv_aload_n hx hb dX11_text_75 rfl (lv_at hl 0 rfl) ?_
              refine rw_getI hx hb hts hown hW 0 lm_0 15 15 rfl rfl fX11_70 dX11_text_76 (v := (Mx 0 15)) rfl ?_
              refine rw_if_eq (tgt := 92) hx hb dX11_text_79 (by decide) (by omega) (fun c_79 => ?_) (fun c_79 => ?_)
              · have hC_92 : ∀ (n : Int) (Mx : Mem) (y : PX) (H : Heap) (locs : List Loc) (ls : Array Slot), (0 ≤ n ∧ n ≤ 320) → (FinR M Mx y) → ((runX (M 4) (M 0 9) 320 0 st0).2 = y) → (∀ g, y = .inr g → (runX (M 4) (M 0 9) 320 0 st0).1 = n) → (0 ≤ Mx 0 11 ∧ Mx 0 11 ≤ 5) → Wo G ad CA nt LyM (wA ad LyM) s Mx H locs → lv_has ls 3 [(0, .ref (ad 0)), (1, .int (iN n))] → Wf l 7 159 G ad CA nt LyM (P_X11_text M) p e s m args below meth c H locs (F0 m 92 ls []) := by
                  intro n Mx y H locs ls hln hfin hrun hcnt h11r hW hl
                  have h7r := hfin.1.2.1
                  have h3r := hfin.1.2.2.2.2.1
                  refine lv_aload_n hx hb dX11_text_92 rfl (lv_at hl 0 rfl) ?_
                  refine rw_getI hx hb hts hown hW 0 lm_0 11 11 rfl rfl fX11_61 dX11_text_93 (v := (Mx 0 11)) rfl ?_
                  refine rw_if_ne (tgt := 115) hx hb dX11_text_96 (by decide) (by omega) (fun c_96 => ?_) (fun c_96 => ?_)
                  · have hC_115 : ∀ (n : Int) (M2 : Mem) (H : Heap) (locs : List Loc) (ls : Array Slot), (0 ≤ n ∧ n ≤ 320) → (ClR M M2 (closeX (M 0 9) y)) → (∀ g, y = .inr g → (runX (M 4) (M 0 9) 320 0 st0).1 = n) → Wo G ad CA nt LyM (wA ad LyM) s M2 H locs → lv_has ls 3 [(0, .ref (ad 0)), (1, .int (iN n))] → Wf l 7 159 G ad CA nt LyM (P_X11_text M) p e s m args below meth c H locs (F0 m 115 ls []) := by
                      intro n M2 H locs ls hln hcl hcnt hW hl
                      have hcr := hcl.rng
                      have hca := hcl.1
                      have h3r := hca.2.2.2.2.1
                      have h4r := hca.2.2.2.2.2.1
                      refine lv_aload_n hx hb dX11_text_115 rfl (lv_at hl 0 rfl) ?_
                      refine rw_iconst hx hb dX11_text_116 ?_
                      refine rw_putI hx hb hts hown hW 0 lm_0 9 9 rfl rfl qX11_54 (v := 0) dX11_text_117 (fun H locs hW => ?_)
                      obtain ⟨M55, hM55⟩ : ∃ z, z = upd2 M2 0 9 0 := ⟨_, rfl⟩
                      rw [← hM55] at hW
                      refine lv_aload_n hx hb dX11_text_120 rfl (lv_at hl 0 rfl) ?_
                      refine lv_aload_n hx hb dX11_text_121 rfl (lv_at hl 0 rfl) ?_
                      refine rw_getI hx hb hts hown hW 0 lm_0 11 11 rfl rfl fX11_61 dX11_text_122 (v := (M2 0 11)) (by rw [hM55, upd2_ne2 (by decide)]) ?_
                      refine rw_putI hx hb hts hown hW 0 lm_0 10 10 rfl rfl qX11_136 (v := (M2 0 11)) dX11_text_125 (fun H locs hW => ?_)
                      obtain ⟨M56, hM56⟩ : ∃ z, z = upd2 M55 0 10 (M2 0 11) := ⟨_, rfl⟩
                      rw [← hM56] at hW
                      refine lv_aload_n hx hb dX11_text_128 rfl (lv_at hl 0 rfl) ?_
                      refine rw_getI hx hb hts hown hW 0 lm_0 11 11 rfl rfl fX11_61 dX11_text_129 (v := (M2 0 11)) (by rw [hM56, upd2_ne2 (by decide), hM55, upd2_ne2 (by decide)]) ?_
                      refine rw_if_le (tgt := 143) hx hb dX11_text_132 (by decide) (by omega) (fun c_132 => ?_) (fun c_132 => ?_)
                      · refine lv_aload_n hx hb dX11_text_143 rfl (lv_at hl 0 rfl) ?_
                        refine rw_getR hx hb hts hown hW 0 lm_0 2 2 rfl fX11_17 dX11_text_144 ?_
                        refine rw_bipush hx hb dX11_text_147 (by decide) ?_
                        refine lv_aload_n hx hb dX11_text_149 rfl (lv_at hl 0 rfl) ?_
                        refine rw_getI hx hb hts hown hW 0 lm_0 4 4 rfl rfl fX11_119 dX11_text_150 (v := (M2 0 4)) (by rw [hM56, upd2_ne2 (by decide), hM55, upd2_ne2 (by decide)]) ?_
                        refine rw_bipush hx hb dX11_text_153 (by decide) ?_
                        refine rw_icmp_ne (tgt := 167) hx hb dX11_text_155 (by decide) (by omega) (by decide) (fun c_155 => ?_) (fun c_155 => ?_)
                        · refine lv_aload_n hx hb dX11_text_167 rfl (lv_at hl 0 rfl) ?_
                          refine rw_getI hx hb hts hown hW 0 lm_0 4 4 rfl rfl fX11_119 dX11_text_168 (v := (M2 0 4)) (by rw [hM56, upd2_ne2 (by decide), hM55, upd2_ne2 (by decide)]) ?_
                          refine rw_iconst hx hb dX11_text_171 ?_
                          refine rw_isub hx hb dX11_text_172 ?_
                          refine rw_iast hx hb hW hnt4 2 lm_2 (v := (M2 0 4) - 2) (by omega) (by omega) (by decide) dX11_text_173 (fun H locs hW => ?_)
                          obtain ⟨M57, hM57⟩ : ∃ z, z = upd2 M56 2 27 ((M2 0 4) - 2) := ⟨_, rfl⟩
                          rw [← hM57] at hW
                          obtain ⟨Mz, hMz⟩ : ∃ z, z = M57 := ⟨_, rfl⟩
                          rw [← hMz] at hW
                          have hzf : ∀ (q : Nat) (j : Int), ¬ (q = 0 ∧ (j = 9 ∨ j = 10)) → ¬ (q = 2 ∧ j = 27) → Mz q j = M2 q j := fun q j a b => by rw [hMz, hM57, upd2_at, if_neg (by omega), hM56, upd2_at, if_neg (by omega), hM55, upd2_at, if_neg (by omega)]
                          have hz9 : Mz 0 9 = 0 := by rw [hMz, hM57, hM56, hM55]; simp [upd2_at]
                          have hz10 : Mz 0 10 = M2 0 11 := by rw [hMz, hM57, hM56, hM55]; simp [upd2_at]
                          have hz27 : Mz 2 27 = (if M2 0 4 = -4 then M2 0 3 / 2 else M2 0 4) - 2 := by rw [hMz, hM57, hM56, hM55, upd2_eq]; rw [if_neg (by omega)]
                          refine rw_iconst hx hb dX11_text_174 ?_
                          refine lv_istore_n (lv' := [(2, .int (iN 0)), (0, .ref (ad 0)), (1, .int (iN n))]) hx hb dX11_text_175 rfl hl (by decide) rfl (fun ls hl => ?_)
                          have hC_176 : ∀ N : Nat, ∀ (k : Int) (My : Mem) (H : Heap) (locs : List Loc) (ls : Array Slot), (47 - k).toNat < N → (0 ≤ k ∧ k ≤ 47) → ((∀ q : Nat, q ≠ 1 → My q = Mz q) ∧ ∀ j, (j < 0 ∨ k ≤ j) → My 1 j = Mz 1 j) → (∀ j, 0 ≤ j → j < k → My 1 j = Mz 2 j) → Wo G ad CA nt LyM (wA ad LyM) s My H locs → lv_has ls 3 [(0, .ref (ad 0)), (1, .int (iN n)), (2, .int (iN k))] → Wf l 7 159 G ad CA nt LyM (P_X11_text M) p e s m args below meth c H locs (F0 m 176 ls []) := by
                            intro N
                            induction N with
                            | zero => intro k My H locs ls hN; exact absurd hN (Nat.not_lt_zero _)
                            | succ N ih176 =>
                              intro k My H locs ls hN hk hmy hcp hW hl
                              refine lv_iload_n hx hb dX11_text_176 rfl (lv_at hl 2 rfl) ?_
                              refine rw_bipush hx hb dX11_text_177 (by decide) ?_
                              refine rw_icmp_ge (tgt := 200) hx hb dX11_text_179 (by decide) (by omega) (by decide) (fun c_179 => ?_) (fun c_179 => ?_)
                              · refine lv_aload_n hx hb dX11_text_200 rfl (lv_at hl 0 rfl) ?_
                                refine lv_aload_n hx hb dX11_text_201 rfl (lv_at hl 0 rfl) ?_
                                refine rw_getI hx hb hts hown hW 0 lm_0 3 3 rfl rfl fX11_116 dX11_text_202 (v := (My 0 3)) rfl ?_
                                refine rw_putI hx hb hts hown hW 0 lm_0 1 1 rfl rfl qX11_13 (v := (My 0 3)) dX11_text_205 (fun H locs hW => ?_)
                                obtain ⟨M58, hM58⟩ : ∃ z, z = upd2 My 0 1 (My 0 3) := ⟨_, rfl⟩
                                rw [← hM58] at hW
                                refine lv_aload_n hx hb dX11_text_208 rfl (lv_at hl 0 rfl) ?_
                                refine rw_iconst hx hb dX11_text_209 ?_
                                refine rw_putI hx hb hts hown hW 0 lm_0 22 22 rfl rfl qX11_139 (v := 0) dX11_text_210 (fun H locs hW => ?_)
                                obtain ⟨M59, hM59⟩ : ∃ z, z = upd2 M58 0 22 0 := ⟨_, rfl⟩
                                rw [← hM59] at hW
                                refine lv_aload_n hx hb dX11_text_213 rfl (lv_at hl 0 rfl) ?_
                                refine rw_getR hx hb hts hown hW 0 lm_0 23 10 rfl fX11_41 dX11_text_214 ?_
                                refine rw_iconst hx hb dX11_text_217 ?_
                                refine rw_iconst hx hb dX11_text_218 ?_
                                refine rw_zast hx hb hW hnt4 10 lm_10 (by omega) (by omega) (by decide) (by omega) dX11_text_219 (fun H locs hW => ?_)
                                obtain ⟨M60, hM60⟩ : ∃ z, z = upd2 M59 10 0 0 := ⟨_, rfl⟩
                                rw [← hM60] at hW
                                refine lv_aload_n hx hb dX11_text_220 rfl (lv_at hl 0 rfl) ?_
                                refine rw_getR hx hb hts hown hW 0 lm_0 23 10 rfl fX11_41 dX11_text_221 ?_
                                refine rw_iconst hx hb dX11_text_224 ?_
                                refine rw_iconst hx hb dX11_text_225 ?_
                                refine rw_zast hx hb hW hnt4 10 lm_10 (by omega) (by omega) (by decide) (by omega) dX11_text_226 (fun H locs hW => ?_)
                                obtain ⟨M61, hM61⟩ : ∃ z, z = upd2 M60 10 1 0 := ⟨_, rfl⟩
                                rw [← hM61] at hW
                                refine lv_iload_n hx hb dX11_text_227 rfl (lv_at hl 1 rfl) ?_
                                refine rw_iret hx hb hr hlocks hW dX11_text_228 (⟨n, rfl, ?_⟩)
                                refine hcl.good hrun hcnt (by omega) ?_ ?_ ?_ ?_ ?_ ?_ ?_ ?_
                                · rw [hM61, hM60, hM59, hM58]; simp [upd2_at]; rw [hmy.1 0 (by decide), hz10]; omega
                                · rw [hM61, hM60, hM59, hM58]; simp [upd2_at]; rw [hmy.1 0 (by decide), hz9]
                                · rw [hM61, hM60, hM59, hM58]; simp [upd2_at]
                                · rw [hM61, hM60, hM59, hM58]; simp [upd2_at]
                                · rw [hM61, hM60, hM59, hM58]; simp [upd2_at]
                                · rw [hM61, hM60, hM59, hM58]; simp [upd2_at]; rw [hmy.1 0 (by decide), hzf 0 3 (by omega) (by omega)]
                                · intro j a b; rw [hM61, upd2_ne1 (by decide), hM60, upd2_ne1 (by decide), hM59, upd2_ne1 (by decide), hM58, upd2_ne1 (by decide), hcp j a (by omega)]; by_cases e : j = 27; subst e; rw [if_pos rfl]; exact hz27; rw [if_neg e]; exact hzf 2 j (by omega) (by omega)
                                · intro q j hq; rw [hM61, upd2_at, if_neg (fun z => hq (by omega)), hM60, upd2_at, if_neg (fun z => hq (by omega)), hM59, upd2_at, if_neg (fun z => hq (by omega)), hM58, upd2_at, if_neg (fun z => hq (by omega))]; by_cases e : q = 1; subst e; rw [hmy.2 j (by have := hq; omega)]; exact hzf 1 j (by omega) (by omega); rw [hmy.1 q e]; exact hzf q j (fun z => hq (by omega)) (fun z => hq (Or.inl (by unfold Scell; omega)))
                              · refine lv_aload_n hx hb dX11_text_182 rfl (lv_at hl 0 rfl) ?_
                                refine rw_getR hx hb hts hown hW 0 lm_0 0 1 rfl fX11_7 dX11_text_183 ?_
                                refine lv_iload_n hx hb dX11_text_186 rfl (lv_at hl 2 rfl) ?_
                                refine lv_aload_n hx hb dX11_text_187 rfl (lv_at hl 0 rfl) ?_
                                refine rw_getR hx hb hts hown hW 0 lm_0 2 2 rfl fX11_17 dX11_text_188 ?_
                                refine lv_iload_n hx hb dX11_text_191 rfl (lv_at hl 2 rfl) ?_
                                refine rw_iald hx hb hW hnt4 2 lm_2 (by omega) (by omega) (by decide) dX11_text_192 (v := (My 2 k)) rfl ?_
                                refine rw_iast hx hb hW hnt4 1 lm_1 (v := (My 2 k)) (by omega) (by omega) (by decide) dX11_text_193 (fun H locs hW => ?_)
                                obtain ⟨M62, hM62⟩ : ∃ z, z = upd2 My 1 k (My 2 k) := ⟨_, rfl⟩
                                rw [← hM62] at hW
                                refine rw_iinc (lv' := [(2, .int (iN (k + 1))), (0, .ref (ad 0)), (1, .int (iN n))]) hx hb dX11_text_194 hl (k := 2) rfl (by decide) rfl (fun ls hl => ?_)
                                refine lv_goto (tgt := 176) hx hb dX11_text_197 (by decide) ?_
                                exact ih176 (k + 1) M62 H locs ls (by omega) (by omega) ⟨fun q hq => by rw [hM62, upd2_ne1 hq]; exact hmy.1 q hq, fun j hj => by rw [hM62, upd2_ne2 (by omega)]; exact hmy.2 j (by omega)⟩ (fun j a b => by by_cases e : j = k; subst e; rw [hM62, upd2_eq, hmy.1 2 (by decide)]; rw [hM62, upd2_ne2 e]; exact hcp j a (by omega)) hW (lv_sub hl [1, 2, 0] rfl)
                          exact hC_176 _ 0 Mz H locs ls (Nat.lt_succ_self _) (by omega) ⟨fun _ _ => rfl, fun _ _ => rfl⟩ (fun j a b => absurd b (by omega)) hW (lv_sub hl [1, 2, 0] rfl)
                        · refine lv_aload_n hx hb dX11_text_158 rfl (lv_at hl 0 rfl) ?_
                          refine rw_getI hx hb hts hown hW 0 lm_0 3 3 rfl rfl fX11_116 dX11_text_159 (v := (M2 0 3)) (by rw [hM56, upd2_ne2 (by decide), hM55, upd2_ne2 (by decide)]) ?_
                          refine rw_iconst hx hb dX11_text_162 ?_
                          refine rw_idiv hx hb dX11_text_163 (by omega) (by decide) (by decide) rfl ?_
                          refine lv_goto (tgt := 171) hx hb dX11_text_164 (by decide) ?_
                          refine rw_iconst hx hb dX11_text_171 ?_
                          refine rw_isub hx hb dX11_text_172 ?_
                          refine rw_iast hx hb hW hnt4 2 lm_2 (v := (Int.tdiv (M2 0 3) 2) - 2) (by omega) (by omega) (by decide) dX11_text_173 (fun H locs hW => ?_)
                          obtain ⟨M63, hM63⟩ : ∃ z, z = upd2 M56 2 27 ((Int.tdiv (M2 0 3) 2) - 2) := ⟨_, rfl⟩
                          rw [← hM63] at hW
                          obtain ⟨Mz, hMz⟩ : ∃ z, z = M63 := ⟨_, rfl⟩
                          rw [← hMz] at hW
                          have hzf : ∀ (q : Nat) (j : Int), ¬ (q = 0 ∧ (j = 9 ∨ j = 10)) → ¬ (q = 2 ∧ j = 27) → Mz q j = M2 q j := fun q j a b => by rw [hMz, hM63, upd2_at, if_neg (by omega), hM56, upd2_at, if_neg (by omega), hM55, upd2_at, if_neg (by omega)]
                          have hz9 : Mz 0 9 = 0 := by rw [hMz, hM63, hM56, hM55]; simp [upd2_at]
                          have hz10 : Mz 0 10 = M2 0 11 := by rw [hMz, hM63, hM56, hM55]; simp [upd2_at]
                          have hz27 : Mz 2 27 = (if M2 0 4 = -4 then M2 0 3 / 2 else M2 0 4) - 2 := by rw [hMz, hM63, hM56, hM55, upd2_eq]; rw [if_pos (by omega), Int.tdiv_eq_ediv_of_nonneg (by omega)]
                          refine rw_iconst hx hb dX11_text_174 ?_
                          refine lv_istore_n (lv' := [(2, .int (iN 0)), (0, .ref (ad 0)), (1, .int (iN n))]) hx hb dX11_text_175 rfl hl (by decide) rfl (fun ls hl => ?_)
                          have hC_176 : ∀ N : Nat, ∀ (k : Int) (My : Mem) (H : Heap) (locs : List Loc) (ls : Array Slot), (47 - k).toNat < N → (0 ≤ k ∧ k ≤ 47) → ((∀ q : Nat, q ≠ 1 → My q = Mz q) ∧ ∀ j, (j < 0 ∨ k ≤ j) → My 1 j = Mz 1 j) → (∀ j, 0 ≤ j → j < k → My 1 j = Mz 2 j) → Wo G ad CA nt LyM (wA ad LyM) s My H locs → lv_has ls 3 [(0, .ref (ad 0)), (1, .int (iN n)), (2, .int (iN k))] → Wf l 7 159 G ad CA nt LyM (P_X11_text M) p e s m args below meth c H locs (F0 m 176 ls []) := by
                            intro N
                            induction N with
                            | zero => intro k My H locs ls hN; exact absurd hN (Nat.not_lt_zero _)
                            | succ N ih176 =>
                              intro k My H locs ls hN hk hmy hcp hW hl
                              refine lv_iload_n hx hb dX11_text_176 rfl (lv_at hl 2 rfl) ?_
                              refine rw_bipush hx hb dX11_text_177 (by decide) ?_
                              refine rw_icmp_ge (tgt := 200) hx hb dX11_text_179 (by decide) (by omega) (by decide) (fun c_179 => ?_) (fun c_179 => ?_)
                              · refine lv_aload_n hx hb dX11_text_200 rfl (lv_at hl 0 rfl) ?_
                                refine lv_aload_n hx hb dX11_text_201 rfl (lv_at hl 0 rfl) ?_
                                refine rw_getI hx hb hts hown hW 0 lm_0 3 3 rfl rfl fX11_116 dX11_text_202 (v := (My 0 3)) rfl ?_
                                refine rw_putI hx hb hts hown hW 0 lm_0 1 1 rfl rfl qX11_13 (v := (My 0 3)) dX11_text_205 (fun H locs hW => ?_)
                                obtain ⟨M64, hM64⟩ : ∃ z, z = upd2 My 0 1 (My 0 3) := ⟨_, rfl⟩
                                rw [← hM64] at hW
                                refine lv_aload_n hx hb dX11_text_208 rfl (lv_at hl 0 rfl) ?_
                                refine rw_iconst hx hb dX11_text_209 ?_
                                refine rw_putI hx hb hts hown hW 0 lm_0 22 22 rfl rfl qX11_139 (v := 0) dX11_text_210 (fun H locs hW => ?_)
                                obtain ⟨M65, hM65⟩ : ∃ z, z = upd2 M64 0 22 0 := ⟨_, rfl⟩
                                rw [← hM65] at hW
                                refine lv_aload_n hx hb dX11_text_213 rfl (lv_at hl 0 rfl) ?_
                                refine rw_getR hx hb hts hown hW 0 lm_0 23 10 rfl fX11_41 dX11_text_214 ?_
                                refine rw_iconst hx hb dX11_text_217 ?_
                                refine rw_iconst hx hb dX11_text_218 ?_
                                refine rw_zast hx hb hW hnt4 10 lm_10 (by omega) (by omega) (by decide) (by omega) dX11_text_219 (fun H locs hW => ?_)
                                obtain ⟨M66, hM66⟩ : ∃ z, z = upd2 M65 10 0 0 := ⟨_, rfl⟩
                                rw [← hM66] at hW
                                refine lv_aload_n hx hb dX11_text_220 rfl (lv_at hl 0 rfl) ?_
                                refine rw_getR hx hb hts hown hW 0 lm_0 23 10 rfl fX11_41 dX11_text_221 ?_
                                refine rw_iconst hx hb dX11_text_224 ?_
                                refine rw_iconst hx hb dX11_text_225 ?_
                                refine rw_zast hx hb hW hnt4 10 lm_10 (by omega) (by omega) (by decide) (by omega) dX11_text_226 (fun H locs hW => ?_)
                                obtain ⟨M67, hM67⟩ : ∃ z, z = upd2 M66 10 1 0 := ⟨_, rfl⟩
                                rw [← hM67] at hW
                                refine lv_iload_n hx hb dX11_text_227 rfl (lv_at hl 1 rfl) ?_
                                refine rw_iret hx hb hr hlocks hW dX11_text_228 (⟨n, rfl, ?_⟩)
                                refine hcl.good hrun hcnt (by omega) ?_ ?_ ?_ ?_ ?_ ?_ ?_ ?_
                                · rw [hM67, hM66, hM65, hM64]; simp [upd2_at]; rw [hmy.1 0 (by decide), hz10]; omega
                                · rw [hM67, hM66, hM65, hM64]; simp [upd2_at]; rw [hmy.1 0 (by decide), hz9]
                                · rw [hM67, hM66, hM65, hM64]; simp [upd2_at]
                                · rw [hM67, hM66, hM65, hM64]; simp [upd2_at]
                                · rw [hM67, hM66, hM65, hM64]; simp [upd2_at]
                                · rw [hM67, hM66, hM65, hM64]; simp [upd2_at]; rw [hmy.1 0 (by decide), hzf 0 3 (by omega) (by omega)]
                                · intro j a b; rw [hM67, upd2_ne1 (by decide), hM66, upd2_ne1 (by decide), hM65, upd2_ne1 (by decide), hM64, upd2_ne1 (by decide), hcp j a (by omega)]; by_cases e : j = 27; subst e; rw [if_pos rfl]; exact hz27; rw [if_neg e]; exact hzf 2 j (by omega) (by omega)
                                · intro q j hq; rw [hM67, upd2_at, if_neg (fun z => hq (by omega)), hM66, upd2_at, if_neg (fun z => hq (by omega)), hM65, upd2_at, if_neg (fun z => hq (by omega)), hM64, upd2_at, if_neg (fun z => hq (by omega))]; by_cases e : q = 1; subst e; rw [hmy.2 j (by have := hq; omega)]; exact hzf 1 j (by omega) (by omega); rw [hmy.1 q e]; exact hzf q j (fun z => hq (by omega)) (fun z => hq (Or.inl (by unfold Scell; omega)))
                              · refine lv_aload_n hx hb dX11_text_182 rfl (lv_at hl 0 rfl) ?_
                                refine rw_getR hx hb hts hown hW 0 lm_0 0 1 rfl fX11_7 dX11_text_183 ?_
                                refine lv_iload_n hx hb dX11_text_186 rfl (lv_at hl 2 rfl) ?_
                                refine lv_aload_n hx hb dX11_text_187 rfl (lv_at hl 0 rfl) ?_
                                refine rw_getR hx hb hts hown hW 0 lm_0 2 2 rfl fX11_17 dX11_text_188 ?_
                                refine lv_iload_n hx hb dX11_text_191 rfl (lv_at hl 2 rfl) ?_
                                refine rw_iald hx hb hW hnt4 2 lm_2 (by omega) (by omega) (by decide) dX11_text_192 (v := (My 2 k)) rfl ?_
                                refine rw_iast hx hb hW hnt4 1 lm_1 (v := (My 2 k)) (by omega) (by omega) (by decide) dX11_text_193 (fun H locs hW => ?_)
                                obtain ⟨M68, hM68⟩ : ∃ z, z = upd2 My 1 k (My 2 k) := ⟨_, rfl⟩
                                rw [← hM68] at hW
                                refine rw_iinc (lv' := [(2, .int (iN (k + 1))), (0, .ref (ad 0)), (1, .int (iN n))]) hx hb dX11_text_194 hl (k := 2) rfl (by decide) rfl (fun ls hl => ?_)
                                refine lv_goto (tgt := 176) hx hb dX11_text_197 (by decide) ?_
                                exact ih176 (k + 1) M68 H locs ls (by omega) (by omega) ⟨fun q hq => by rw [hM68, upd2_ne1 hq]; exact hmy.1 q hq, fun j hj => by rw [hM68, upd2_ne2 (by omega)]; exact hmy.2 j (by omega)⟩ (fun j a b => by by_cases e : j = k; subst e; rw [hM68, upd2_eq, hmy.1 2 (by decide)]; rw [hM68, upd2_ne2 e]; exact hcp j a (by omega)) hW (lv_sub hl [1, 2, 0] rfl)
                          exact hC_176 _ 0 Mz H locs ls (Nat.lt_succ_self _) (by omega) ⟨fun _ _ => rfl, fun _ _ => rfl⟩ (fun j a b => absurd b (by omega)) hW (lv_sub hl [1, 2, 0] rfl)
                      · refine rw_bipush hx hb dX11_text_135 (by decide) ?_
                        refine lv_aload_n hx hb dX11_text_137 rfl (lv_at hl 0 rfl) ?_
                        refine rw_getI hx hb hts hown hW 0 lm_0 12 12 rfl rfl fX11_67 dX11_text_138 (v := (M2 0 12)) (by rw [hM56, upd2_ne2 (by decide), hM55, upd2_ne2 (by decide)]) ?_
                        refine rw_isub hx hb dX11_text_141 ?_
                        refine rw_iret hx hb hr hlocks hW dX11_text_142 (⟨(-10) - (M2 0 12), rfl, ?_⟩)
                        refine hcl.bad hrun (by omega) ?_ ?_ ?_
                        · rw [hM56, hM55]; simp [upd2_at]
                        · rw [hM56, hM55]; simp [upd2_at]
                        · intro q j hq; rw [hM56, upd2_at, if_neg (by omega), hM55, upd2_at, if_neg (by omega)]
                    exact hC_115 n Mx H locs ls (by omega) (hfin.closeA c_96) (by omega) hW (lv_sub hl [0, 1] rfl)
                  · refine lv_aload_n hx hb dX11_text_99 rfl (lv_at hl 0 rfl) ?_
                    refine rw_getI hx hb hts hown hW 0 lm_0 7 7 rfl rfl fX11_102 dX11_text_100 (v := (Mx 0 7)) rfl ?_
                    refine lv_aload_n hx hb dX11_text_103 rfl (lv_at hl 0 rfl) ?_
                    refine rw_getI hx hb hts hown hW 0 lm_0 3 3 rfl rfl fX11_116 dX11_text_104 (v := (Mx 0 3)) rfl ?_
                    refine rw_icmp_lt (tgt := 115) hx hb dX11_text_107 (by decide) (by omega) (by omega) (fun c_107 => ?_) (fun c_107 => ?_)
                    · have hC_115 : ∀ (n : Int) (M2 : Mem) (H : Heap) (locs : List Loc) (ls : Array Slot), (0 ≤ n ∧ n ≤ 320) → (ClR M M2 (closeX (M 0 9) y)) → (∀ g, y = .inr g → (runX (M 4) (M 0 9) 320 0 st0).1 = n) → Wo G ad CA nt LyM (wA ad LyM) s M2 H locs → lv_has ls 3 [(0, .ref (ad 0)), (1, .int (iN n))] → Wf l 7 159 G ad CA nt LyM (P_X11_text M) p e s m args below meth c H locs (F0 m 115 ls []) := by
                        intro n M2 H locs ls hln hcl hcnt hW hl
                        have hcr := hcl.rng
                        have hca := hcl.1
                        have h3r := hca.2.2.2.2.1
                        have h4r := hca.2.2.2.2.2.1
                        refine lv_aload_n hx hb dX11_text_115 rfl (lv_at hl 0 rfl) ?_
                        refine rw_iconst hx hb dX11_text_116 ?_
                        refine rw_putI hx hb hts hown hW 0 lm_0 9 9 rfl rfl qX11_54 (v := 0) dX11_text_117 (fun H locs hW => ?_)
                        obtain ⟨M69, hM69⟩ : ∃ z, z = upd2 M2 0 9 0 := ⟨_, rfl⟩
                        rw [← hM69] at hW
                        refine lv_aload_n hx hb dX11_text_120 rfl (lv_at hl 0 rfl) ?_
                        refine lv_aload_n hx hb dX11_text_121 rfl (lv_at hl 0 rfl) ?_
                        refine rw_getI hx hb hts hown hW 0 lm_0 11 11 rfl rfl fX11_61 dX11_text_122 (v := (M2 0 11)) (by rw [hM69, upd2_ne2 (by decide)]) ?_
                        refine rw_putI hx hb hts hown hW 0 lm_0 10 10 rfl rfl qX11_136 (v := (M2 0 11)) dX11_text_125 (fun H locs hW => ?_)
                        obtain ⟨M70, hM70⟩ : ∃ z, z = upd2 M69 0 10 (M2 0 11) := ⟨_, rfl⟩
                        rw [← hM70] at hW
                        refine lv_aload_n hx hb dX11_text_128 rfl (lv_at hl 0 rfl) ?_
                        refine rw_getI hx hb hts hown hW 0 lm_0 11 11 rfl rfl fX11_61 dX11_text_129 (v := (M2 0 11)) (by rw [hM70, upd2_ne2 (by decide), hM69, upd2_ne2 (by decide)]) ?_
                        refine rw_if_le (tgt := 143) hx hb dX11_text_132 (by decide) (by omega) (fun c_132 => ?_) (fun c_132 => ?_)
                        · refine lv_aload_n hx hb dX11_text_143 rfl (lv_at hl 0 rfl) ?_
                          refine rw_getR hx hb hts hown hW 0 lm_0 2 2 rfl fX11_17 dX11_text_144 ?_
                          refine rw_bipush hx hb dX11_text_147 (by decide) ?_
                          refine lv_aload_n hx hb dX11_text_149 rfl (lv_at hl 0 rfl) ?_
                          refine rw_getI hx hb hts hown hW 0 lm_0 4 4 rfl rfl fX11_119 dX11_text_150 (v := (M2 0 4)) (by rw [hM70, upd2_ne2 (by decide), hM69, upd2_ne2 (by decide)]) ?_
                          refine rw_bipush hx hb dX11_text_153 (by decide) ?_
                          refine rw_icmp_ne (tgt := 167) hx hb dX11_text_155 (by decide) (by omega) (by decide) (fun c_155 => ?_) (fun c_155 => ?_)
                          · refine lv_aload_n hx hb dX11_text_167 rfl (lv_at hl 0 rfl) ?_
                            refine rw_getI hx hb hts hown hW 0 lm_0 4 4 rfl rfl fX11_119 dX11_text_168 (v := (M2 0 4)) (by rw [hM70, upd2_ne2 (by decide), hM69, upd2_ne2 (by decide)]) ?_
                            refine rw_iconst hx hb dX11_text_171 ?_
                            refine rw_isub hx hb dX11_text_172 ?_
                            refine rw_iast hx hb hW hnt4 2 lm_2 (v := (M2 0 4) - 2) (by omega) (by omega) (by decide) dX11_text_173 (fun H locs hW => ?_)
                            obtain ⟨M71, hM71⟩ : ∃ z, z = upd2 M70 2 27 ((M2 0 4) - 2) := ⟨_, rfl⟩
                            rw [← hM71] at hW
                            obtain ⟨Mz, hMz⟩ : ∃ z, z = M71 := ⟨_, rfl⟩
                            rw [← hMz] at hW
                            have hzf : ∀ (q : Nat) (j : Int), ¬ (q = 0 ∧ (j = 9 ∨ j = 10)) → ¬ (q = 2 ∧ j = 27) → Mz q j = M2 q j := fun q j a b => by rw [hMz, hM71, upd2_at, if_neg (by omega), hM70, upd2_at, if_neg (by omega), hM69, upd2_at, if_neg (by omega)]
                            have hz9 : Mz 0 9 = 0 := by rw [hMz, hM71, hM70, hM69]; simp [upd2_at]
                            have hz10 : Mz 0 10 = M2 0 11 := by rw [hMz, hM71, hM70, hM69]; simp [upd2_at]
                            have hz27 : Mz 2 27 = (if M2 0 4 = -4 then M2 0 3 / 2 else M2 0 4) - 2 := by rw [hMz, hM71, hM70, hM69, upd2_eq]; rw [if_neg (by omega)]
                            refine rw_iconst hx hb dX11_text_174 ?_
                            refine lv_istore_n (lv' := [(2, .int (iN 0)), (0, .ref (ad 0)), (1, .int (iN n))]) hx hb dX11_text_175 rfl hl (by decide) rfl (fun ls hl => ?_)
                            have hC_176 : ∀ N : Nat, ∀ (k : Int) (My : Mem) (H : Heap) (locs : List Loc) (ls : Array Slot), (47 - k).toNat < N → (0 ≤ k ∧ k ≤ 47) → ((∀ q : Nat, q ≠ 1 → My q = Mz q) ∧ ∀ j, (j < 0 ∨ k ≤ j) → My 1 j = Mz 1 j) → (∀ j, 0 ≤ j → j < k → My 1 j = Mz 2 j) → Wo G ad CA nt LyM (wA ad LyM) s My H locs → lv_has ls 3 [(0, .ref (ad 0)), (1, .int (iN n)), (2, .int (iN k))] → Wf l 7 159 G ad CA nt LyM (P_X11_text M) p e s m args below meth c H locs (F0 m 176 ls []) := by
                              intro N
                              induction N with
                              | zero => intro k My H locs ls hN; exact absurd hN (Nat.not_lt_zero _)
                              | succ N ih176 =>
                                intro k My H locs ls hN hk hmy hcp hW hl
                                refine lv_iload_n hx hb dX11_text_176 rfl (lv_at hl 2 rfl) ?_
                                refine rw_bipush hx hb dX11_text_177 (by decide) ?_
                                refine rw_icmp_ge (tgt := 200) hx hb dX11_text_179 (by decide) (by omega) (by decide) (fun c_179 => ?_) (fun c_179 => ?_)
                                · refine lv_aload_n hx hb dX11_text_200 rfl (lv_at hl 0 rfl) ?_
                                  refine lv_aload_n hx hb dX11_text_201 rfl (lv_at hl 0 rfl) ?_
                                  refine rw_getI hx hb hts hown hW 0 lm_0 3 3 rfl rfl fX11_116 dX11_text_202 (v := (My 0 3)) rfl ?_
                                  refine rw_putI hx hb hts hown hW 0 lm_0 1 1 rfl rfl qX11_13 (v := (My 0 3)) dX11_text_205 (fun H locs hW => ?_)
                                  obtain ⟨M72, hM72⟩ : ∃ z, z = upd2 My 0 1 (My 0 3) := ⟨_, rfl⟩
                                  rw [← hM72] at hW
                                  refine lv_aload_n hx hb dX11_text_208 rfl (lv_at hl 0 rfl) ?_
                                  refine rw_iconst hx hb dX11_text_209 ?_
                                  refine rw_putI hx hb hts hown hW 0 lm_0 22 22 rfl rfl qX11_139 (v := 0) dX11_text_210 (fun H locs hW => ?_)
                                  obtain ⟨M73, hM73⟩ : ∃ z, z = upd2 M72 0 22 0 := ⟨_, rfl⟩
                                  rw [← hM73] at hW
                                  refine lv_aload_n hx hb dX11_text_213 rfl (lv_at hl 0 rfl) ?_
                                  refine rw_getR hx hb hts hown hW 0 lm_0 23 10 rfl fX11_41 dX11_text_214 ?_
                                  refine rw_iconst hx hb dX11_text_217 ?_
                                  refine rw_iconst hx hb dX11_text_218 ?_
                                  refine rw_zast hx hb hW hnt4 10 lm_10 (by omega) (by omega) (by decide) (by omega) dX11_text_219 (fun H locs hW => ?_)
                                  obtain ⟨M74, hM74⟩ : ∃ z, z = upd2 M73 10 0 0 := ⟨_, rfl⟩
                                  rw [← hM74] at hW
                                  refine lv_aload_n hx hb dX11_text_220 rfl (lv_at hl 0 rfl) ?_
                                  refine rw_getR hx hb hts hown hW 0 lm_0 23 10 rfl fX11_41 dX11_text_221 ?_
                                  refine rw_iconst hx hb dX11_text_224 ?_
                                  refine rw_iconst hx hb dX11_text_225 ?_
                                  refine rw_zast hx hb hW hnt4 10 lm_10 (by omega) (by omega) (by decide) (by omega) dX11_text_226 (fun H locs hW => ?_)
                                  obtain ⟨M75, hM75⟩ : ∃ z, z = upd2 M74 10 1 0 := ⟨_, rfl⟩
                                  rw [← hM75] at hW
                                  refine lv_iload_n hx hb dX11_text_227 rfl (lv_at hl 1 rfl) ?_
                                  refine rw_iret hx hb hr hlocks hW dX11_text_228 (⟨n, rfl, ?_⟩)
                                  refine hcl.good hrun hcnt (by omega) ?_ ?_ ?_ ?_ ?_ ?_ ?_ ?_
                                  · rw [hM75, hM74, hM73, hM72]; simp [upd2_at]; rw [hmy.1 0 (by decide), hz10]; omega
                                  · rw [hM75, hM74, hM73, hM72]; simp [upd2_at]; rw [hmy.1 0 (by decide), hz9]
                                  · rw [hM75, hM74, hM73, hM72]; simp [upd2_at]
                                  · rw [hM75, hM74, hM73, hM72]; simp [upd2_at]
                                  · rw [hM75, hM74, hM73, hM72]; simp [upd2_at]
                                  · rw [hM75, hM74, hM73, hM72]; simp [upd2_at]; rw [hmy.1 0 (by decide), hzf 0 3 (by omega) (by omega)]
                                  · intro j a b; rw [hM75, upd2_ne1 (by decide), hM74, upd2_ne1 (by decide), hM73, upd2_ne1 (by decide), hM72, upd2_ne1 (by decide), hcp j a (by omega)]; by_cases e : j = 27; subst e; rw [if_pos rfl]; exact hz27; rw [if_neg e]; exact hzf 2 j (by omega) (by omega)
                                  · intro q j hq; rw [hM75, upd2_at, if_neg (fun z => hq (by omega)), hM74, upd2_at, if_neg (fun z => hq (by omega)), hM73, upd2_at, if_neg (fun z => hq (by omega)), hM72, upd2_at, if_neg (fun z => hq (by omega))]; by_cases e : q = 1; subst e; rw [hmy.2 j (by have := hq; omega)]; exact hzf 1 j (by omega) (by omega); rw [hmy.1 q e]; exact hzf q j (fun z => hq (by omega)) (fun z => hq (Or.inl (by unfold Scell; omega)))
                                · refine lv_aload_n hx hb dX11_text_182 rfl (lv_at hl 0 rfl) ?_
                                  refine rw_getR hx hb hts hown hW 0 lm_0 0 1 rfl fX11_7 dX11_text_183 ?_
                                  refine lv_iload_n hx hb dX11_text_186 rfl (lv_at hl 2 rfl) ?_
                                  refine lv_aload_n hx hb dX11_text_187 rfl (lv_at hl 0 rfl) ?_
                                  refine rw_getR hx hb hts hown hW 0 lm_0 2 2 rfl fX11_17 dX11_text_188 ?_
                                  refine lv_iload_n hx hb dX11_text_191 rfl (lv_at hl 2 rfl) ?_
                                  refine rw_iald hx hb hW hnt4 2 lm_2 (by omega) (by omega) (by decide) dX11_text_192 (v := (My 2 k)) rfl ?_
                                  refine rw_iast hx hb hW hnt4 1 lm_1 (v := (My 2 k)) (by omega) (by omega) (by decide) dX11_text_193 (fun H locs hW => ?_)
                                  obtain ⟨M76, hM76⟩ : ∃ z, z = upd2 My 1 k (My 2 k) := ⟨_, rfl⟩
                                  rw [← hM76] at hW
                                  refine rw_iinc (lv' := [(2, .int (iN (k + 1))), (0, .ref (ad 0)), (1, .int (iN n))]) hx hb dX11_text_194 hl (k := 2) rfl (by decide) rfl (fun ls hl => ?_)
                                  refine lv_goto (tgt := 176) hx hb dX11_text_197 (by decide) ?_
                                  exact ih176 (k + 1) M76 H locs ls (by omega) (by omega) ⟨fun q hq => by rw [hM76, upd2_ne1 hq]; exact hmy.1 q hq, fun j hj => by rw [hM76, upd2_ne2 (by omega)]; exact hmy.2 j (by omega)⟩ (fun j a b => by by_cases e : j = k; subst e; rw [hM76, upd2_eq, hmy.1 2 (by decide)]; rw [hM76, upd2_ne2 e]; exact hcp j a (by omega)) hW (lv_sub hl [1, 2, 0] rfl)
                            exact hC_176 _ 0 Mz H locs ls (Nat.lt_succ_self _) (by omega) ⟨fun _ _ => rfl, fun _ _ => rfl⟩ (fun j a b => absurd b (by omega)) hW (lv_sub hl [1, 2, 0] rfl)
                          · refine lv_aload_n hx hb dX11_text_158 rfl (lv_at hl 0 rfl) ?_
                            refine rw_getI hx hb hts hown hW 0 lm_0 3 3 rfl rfl fX11_116 dX11_text_159 (v := (M2 0 3)) (by rw [hM70, upd2_ne2 (by decide), hM69, upd2_ne2 (by decide)]) ?_
                            refine rw_iconst hx hb dX11_text_162 ?_
                            refine rw_idiv hx hb dX11_text_163 (by omega) (by decide) (by decide) rfl ?_
                            refine lv_goto (tgt := 171) hx hb dX11_text_164 (by decide) ?_
                            refine rw_iconst hx hb dX11_text_171 ?_
                            refine rw_isub hx hb dX11_text_172 ?_
                            refine rw_iast hx hb hW hnt4 2 lm_2 (v := (Int.tdiv (M2 0 3) 2) - 2) (by omega) (by omega) (by decide) dX11_text_173 (fun H locs hW => ?_)
                            obtain ⟨M77, hM77⟩ : ∃ z, z = upd2 M70 2 27 ((Int.tdiv (M2 0 3) 2) - 2) := ⟨_, rfl⟩
                            rw [← hM77] at hW
                            obtain ⟨Mz, hMz⟩ : ∃ z, z = M77 := ⟨_, rfl⟩
                            rw [← hMz] at hW
                            have hzf : ∀ (q : Nat) (j : Int), ¬ (q = 0 ∧ (j = 9 ∨ j = 10)) → ¬ (q = 2 ∧ j = 27) → Mz q j = M2 q j := fun q j a b => by rw [hMz, hM77, upd2_at, if_neg (by omega), hM70, upd2_at, if_neg (by omega), hM69, upd2_at, if_neg (by omega)]
                            have hz9 : Mz 0 9 = 0 := by rw [hMz, hM77, hM70, hM69]; simp [upd2_at]
                            have hz10 : Mz 0 10 = M2 0 11 := by rw [hMz, hM77, hM70, hM69]; simp [upd2_at]
                            have hz27 : Mz 2 27 = (if M2 0 4 = -4 then M2 0 3 / 2 else M2 0 4) - 2 := by rw [hMz, hM77, hM70, hM69, upd2_eq]; rw [if_pos (by omega), Int.tdiv_eq_ediv_of_nonneg (by omega)]
                            refine rw_iconst hx hb dX11_text_174 ?_
                            refine lv_istore_n (lv' := [(2, .int (iN 0)), (0, .ref (ad 0)), (1, .int (iN n))]) hx hb dX11_text_175 rfl hl (by decide) rfl (fun ls hl => ?_)
                            have hC_176 : ∀ N : Nat, ∀ (k : Int) (My : Mem) (H : Heap) (locs : List Loc) (ls : Array Slot), (47 - k).toNat < N → (0 ≤ k ∧ k ≤ 47) → ((∀ q : Nat, q ≠ 1 → My q = Mz q) ∧ ∀ j, (j < 0 ∨ k ≤ j) → My 1 j = Mz 1 j) → (∀ j, 0 ≤ j → j < k → My 1 j = Mz 2 j) → Wo G ad CA nt LyM (wA ad LyM) s My H locs → lv_has ls 3 [(0, .ref (ad 0)), (1, .int (iN n)), (2, .int (iN k))] → Wf l 7 159 G ad CA nt LyM (P_X11_text M) p e s m args below meth c H locs (F0 m 176 ls []) := by
                              intro N
                              induction N with
                              | zero => intro k My H locs ls hN; exact absurd hN (Nat.not_lt_zero _)
                              | succ N ih176 =>
                                intro k My H locs ls hN hk hmy hcp hW hl
                                refine lv_iload_n hx hb dX11_text_176 rfl (lv_at hl 2 rfl) ?_
                                refine rw_bipush hx hb dX11_text_177 (by decide) ?_
                                refine rw_icmp_ge (tgt := 200) hx hb dX11_text_179 (by decide) (by omega) (by decide) (fun c_179 => ?_) (fun c_179 => ?_)
                                · refine lv_aload_n hx hb dX11_text_200 rfl (lv_at hl 0 rfl) ?_
                                  refine lv_aload_n hx hb dX11_text_201 rfl (lv_at hl 0 rfl) ?_
                                  refine rw_getI hx hb hts hown hW 0 lm_0 3 3 rfl rfl fX11_116 dX11_text_202 (v := (My 0 3)) rfl ?_
                                  refine rw_putI hx hb hts hown hW 0 lm_0 1 1 rfl rfl qX11_13 (v := (My 0 3)) dX11_text_205 (fun H locs hW => ?_)
                                  obtain ⟨M78, hM78⟩ : ∃ z, z = upd2 My 0 1 (My 0 3) := ⟨_, rfl⟩
                                  rw [← hM78] at hW
                                  refine lv_aload_n hx hb dX11_text_208 rfl (lv_at hl 0 rfl) ?_
                                  refine rw_iconst hx hb dX11_text_209 ?_
                                  refine rw_putI hx hb hts hown hW 0 lm_0 22 22 rfl rfl qX11_139 (v := 0) dX11_text_210 (fun H locs hW => ?_)
                                  obtain ⟨M79, hM79⟩ : ∃ z, z = upd2 M78 0 22 0 := ⟨_, rfl⟩
                                  rw [← hM79] at hW
                                  refine lv_aload_n hx hb dX11_text_213 rfl (lv_at hl 0 rfl) ?_
                                  refine rw_getR hx hb hts hown hW 0 lm_0 23 10 rfl fX11_41 dX11_text_214 ?_
                                  refine rw_iconst hx hb dX11_text_217 ?_
                                  refine rw_iconst hx hb dX11_text_218 ?_
                                  refine rw_zast hx hb hW hnt4 10 lm_10 (by omega) (by omega) (by decide) (by omega) dX11_text_219 (fun H locs hW => ?_)
                                  obtain ⟨M80, hM80⟩ : ∃ z, z = upd2 M79 10 0 0 := ⟨_, rfl⟩
                                  rw [← hM80] at hW
                                  refine lv_aload_n hx hb dX11_text_220 rfl (lv_at hl 0 rfl) ?_
                                  refine rw_getR hx hb hts hown hW 0 lm_0 23 10 rfl fX11_41 dX11_text_221 ?_
                                  refine rw_iconst hx hb dX11_text_224 ?_
                                  refine rw_iconst hx hb dX11_text_225 ?_
                                  refine rw_zast hx hb hW hnt4 10 lm_10 (by omega) (by omega) (by decide) (by omega) dX11_text_226 (fun H locs hW => ?_)
                                  obtain ⟨M81, hM81⟩ : ∃ z, z = upd2 M80 10 1 0 := ⟨_, rfl⟩
                                  rw [← hM81] at hW
                                  refine lv_iload_n hx hb dX11_text_227 rfl (lv_at hl 1 rfl) ?_
                                  refine rw_iret hx hb hr hlocks hW dX11_text_228 (⟨n, rfl, ?_⟩)
                                  refine hcl.good hrun hcnt (by omega) ?_ ?_ ?_ ?_ ?_ ?_ ?_ ?_
                                  · rw [hM81, hM80, hM79, hM78]; simp [upd2_at]; rw [hmy.1 0 (by decide), hz10]; omega
                                  · rw [hM81, hM80, hM79, hM78]; simp [upd2_at]; rw [hmy.1 0 (by decide), hz9]
                                  · rw [hM81, hM80, hM79, hM78]; simp [upd2_at]
                                  · rw [hM81, hM80, hM79, hM78]; simp [upd2_at]
                                  · rw [hM81, hM80, hM79, hM78]; simp [upd2_at]
                                  · rw [hM81, hM80, hM79, hM78]; simp [upd2_at]; rw [hmy.1 0 (by decide), hzf 0 3 (by omega) (by omega)]
                                  · intro j a b; rw [hM81, upd2_ne1 (by decide), hM80, upd2_ne1 (by decide), hM79, upd2_ne1 (by decide), hM78, upd2_ne1 (by decide), hcp j a (by omega)]; by_cases e : j = 27; subst e; rw [if_pos rfl]; exact hz27; rw [if_neg e]; exact hzf 2 j (by omega) (by omega)
                                  · intro q j hq; rw [hM81, upd2_at, if_neg (fun z => hq (by omega)), hM80, upd2_at, if_neg (fun z => hq (by omega)), hM79, upd2_at, if_neg (fun z => hq (by omega)), hM78, upd2_at, if_neg (fun z => hq (by omega))]; by_cases e : q = 1; subst e; rw [hmy.2 j (by have := hq; omega)]; exact hzf 1 j (by omega) (by omega); rw [hmy.1 q e]; exact hzf q j (fun z => hq (by omega)) (fun z => hq (Or.inl (by unfold Scell; omega)))
                                · refine lv_aload_n hx hb dX11_text_182 rfl (lv_at hl 0 rfl) ?_
                                  refine rw_getR hx hb hts hown hW 0 lm_0 0 1 rfl fX11_7 dX11_text_183 ?_
                                  refine lv_iload_n hx hb dX11_text_186 rfl (lv_at hl 2 rfl) ?_
                                  refine lv_aload_n hx hb dX11_text_187 rfl (lv_at hl 0 rfl) ?_
                                  refine rw_getR hx hb hts hown hW 0 lm_0 2 2 rfl fX11_17 dX11_text_188 ?_
                                  refine lv_iload_n hx hb dX11_text_191 rfl (lv_at hl 2 rfl) ?_
                                  refine rw_iald hx hb hW hnt4 2 lm_2 (by omega) (by omega) (by decide) dX11_text_192 (v := (My 2 k)) rfl ?_
                                  refine rw_iast hx hb hW hnt4 1 lm_1 (v := (My 2 k)) (by omega) (by omega) (by decide) dX11_text_193 (fun H locs hW => ?_)
                                  obtain ⟨M82, hM82⟩ : ∃ z, z = upd2 My 1 k (My 2 k) := ⟨_, rfl⟩
                                  rw [← hM82] at hW
                                  refine rw_iinc (lv' := [(2, .int (iN (k + 1))), (0, .ref (ad 0)), (1, .int (iN n))]) hx hb dX11_text_194 hl (k := 2) rfl (by decide) rfl (fun ls hl => ?_)
                                  refine lv_goto (tgt := 176) hx hb dX11_text_197 (by decide) ?_
                                  exact ih176 (k + 1) M82 H locs ls (by omega) (by omega) ⟨fun q hq => by rw [hM82, upd2_ne1 hq]; exact hmy.1 q hq, fun j hj => by rw [hM82, upd2_ne2 (by omega)]; exact hmy.2 j (by omega)⟩ (fun j a b => by by_cases e : j = k; subst e; rw [hM82, upd2_eq, hmy.1 2 (by decide)]; rw [hM82, upd2_ne2 e]; exact hcp j a (by omega)) hW (lv_sub hl [1, 2, 0] rfl)
                            exact hC_176 _ 0 Mz H locs ls (Nat.lt_succ_self _) (by omega) ⟨fun _ _ => rfl, fun _ _ => rfl⟩ (fun j a b => absurd b (by omega)) hW (lv_sub hl [1, 2, 0] rfl)
                        · refine rw_bipush hx hb dX11_text_135 (by decide) ?_
                          refine lv_aload_n hx hb dX11_text_137 rfl (lv_at hl 0 rfl) ?_
                          refine rw_getI hx hb hts hown hW 0 lm_0 12 12 rfl rfl fX11_67 dX11_text_138 (v := (M2 0 12)) (by rw [hM70, upd2_ne2 (by decide), hM69, upd2_ne2 (by decide)]) ?_
                          refine rw_isub hx hb dX11_text_141 ?_
                          refine rw_iret hx hb hr hlocks hW dX11_text_142 (⟨(-10) - (M2 0 12), rfl, ?_⟩)
                          refine hcl.bad hrun (by omega) ?_ ?_ ?_
                          · rw [hM70, hM69]; simp [upd2_at]
                          · rw [hM70, hM69]; simp [upd2_at]
                          · intro q j hq; rw [hM70, upd2_at, if_neg (by omega), hM69, upd2_at, if_neg (by omega)]
                      exact hC_115 n Mx H locs ls (by omega) (hfin.closeC (by omega) (by omega)) (by omega) hW (lv_sub hl [0, 1] rfl)
                    · refine lv_aload_n hx hb dX11_text_110 rfl (lv_at hl 0 rfl) ?_
                      refine rw_iconst hx hb dX11_text_111 ?_
                      refine rw_callV hx hb hml hts hown hW ⟨Nat.le_refl 0, Nat.le_refl 0⟩ [.int (iN 5)] 0 lm_0 rfl (c_X11_fails (l := l) (G := G) (ad := ad) (CA := CA) (nt := nt) (by omega) 5 Mx h11r) kX11_91 rfl ⟨Nat.le_of_ble_eq_true rfl, Nat.le_of_ble_eq_true rfl⟩ hl.1 rfl (Nat.le_of_ble_eq_true rfl) dX11_text_112 (fun v83 M84 H locs hp85 hW => ?_)
                      obtain ⟨rfl, hM84⟩ := hp85
                      refine rw_stk (st' := []) rfl ?_
                      have hC_115 : ∀ (n : Int) (M2 : Mem) (H : Heap) (locs : List Loc) (ls : Array Slot), (0 ≤ n ∧ n ≤ 320) → (ClR M M2 (closeX (M 0 9) y)) → (∀ g, y = .inr g → (runX (M 4) (M 0 9) 320 0 st0).1 = n) → Wo G ad CA nt LyM (wA ad LyM) s M2 H locs → lv_has ls 3 [(0, .ref (ad 0)), (1, .int (iN n))] → Wf l 7 159 G ad CA nt LyM (P_X11_text M) p e s m args below meth c H locs (F0 m 115 ls []) := by
                        intro n M2 H locs ls hln hcl hcnt hW hl
                        have hcr := hcl.rng
                        have hca := hcl.1
                        have h3r := hca.2.2.2.2.1
                        have h4r := hca.2.2.2.2.2.1
                        refine lv_aload_n hx hb dX11_text_115 rfl (lv_at hl 0 rfl) ?_
                        refine rw_iconst hx hb dX11_text_116 ?_
                        refine rw_putI hx hb hts hown hW 0 lm_0 9 9 rfl rfl qX11_54 (v := 0) dX11_text_117 (fun H locs hW => ?_)
                        obtain ⟨M86, hM86⟩ : ∃ z, z = upd2 M2 0 9 0 := ⟨_, rfl⟩
                        rw [← hM86] at hW
                        refine lv_aload_n hx hb dX11_text_120 rfl (lv_at hl 0 rfl) ?_
                        refine lv_aload_n hx hb dX11_text_121 rfl (lv_at hl 0 rfl) ?_
                        refine rw_getI hx hb hts hown hW 0 lm_0 11 11 rfl rfl fX11_61 dX11_text_122 (v := (M2 0 11)) (by rw [hM86, upd2_ne2 (by decide)]) ?_
                        refine rw_putI hx hb hts hown hW 0 lm_0 10 10 rfl rfl qX11_136 (v := (M2 0 11)) dX11_text_125 (fun H locs hW => ?_)
                        obtain ⟨M87, hM87⟩ : ∃ z, z = upd2 M86 0 10 (M2 0 11) := ⟨_, rfl⟩
                        rw [← hM87] at hW
                        refine lv_aload_n hx hb dX11_text_128 rfl (lv_at hl 0 rfl) ?_
                        refine rw_getI hx hb hts hown hW 0 lm_0 11 11 rfl rfl fX11_61 dX11_text_129 (v := (M2 0 11)) (by rw [hM87, upd2_ne2 (by decide), hM86, upd2_ne2 (by decide)]) ?_
                        refine rw_if_le (tgt := 143) hx hb dX11_text_132 (by decide) (by omega) (fun c_132 => ?_) (fun c_132 => ?_)
                        · refine lv_aload_n hx hb dX11_text_143 rfl (lv_at hl 0 rfl) ?_
                          refine rw_getR hx hb hts hown hW 0 lm_0 2 2 rfl fX11_17 dX11_text_144 ?_
                          refine rw_bipush hx hb dX11_text_147 (by decide) ?_
                          refine lv_aload_n hx hb dX11_text_149 rfl (lv_at hl 0 rfl) ?_
                          refine rw_getI hx hb hts hown hW 0 lm_0 4 4 rfl rfl fX11_119 dX11_text_150 (v := (M2 0 4)) (by rw [hM87, upd2_ne2 (by decide), hM86, upd2_ne2 (by decide)]) ?_
                          refine rw_bipush hx hb dX11_text_153 (by decide) ?_
                          refine rw_icmp_ne (tgt := 167) hx hb dX11_text_155 (by decide) (by omega) (by decide) (fun c_155 => ?_) (fun c_155 => ?_)
                          · refine lv_aload_n hx hb dX11_text_167 rfl (lv_at hl 0 rfl) ?_
                            refine rw_getI hx hb hts hown hW 0 lm_0 4 4 rfl rfl fX11_119 dX11_text_168 (v := (M2 0 4)) (by rw [hM87, upd2_ne2 (by decide), hM86, upd2_ne2 (by decide)]) ?_
                            refine rw_iconst hx hb dX11_text_171 ?_
                            refine rw_isub hx hb dX11_text_172 ?_
                            refine rw_iast hx hb hW hnt4 2 lm_2 (v := (M2 0 4) - 2) (by omega) (by omega) (by decide) dX11_text_173 (fun H locs hW => ?_)
                            obtain ⟨M88, hM88⟩ : ∃ z, z = upd2 M87 2 27 ((M2 0 4) - 2) := ⟨_, rfl⟩
                            rw [← hM88] at hW
                            obtain ⟨Mz, hMz⟩ : ∃ z, z = M88 := ⟨_, rfl⟩
                            rw [← hMz] at hW
                            have hzf : ∀ (q : Nat) (j : Int), ¬ (q = 0 ∧ (j = 9 ∨ j = 10)) → ¬ (q = 2 ∧ j = 27) → Mz q j = M2 q j := fun q j a b => by rw [hMz, hM88, upd2_at, if_neg (by omega), hM87, upd2_at, if_neg (by omega), hM86, upd2_at, if_neg (by omega)]
                            have hz9 : Mz 0 9 = 0 := by rw [hMz, hM88, hM87, hM86]; simp [upd2_at]
                            have hz10 : Mz 0 10 = M2 0 11 := by rw [hMz, hM88, hM87, hM86]; simp [upd2_at]
                            have hz27 : Mz 2 27 = (if M2 0 4 = -4 then M2 0 3 / 2 else M2 0 4) - 2 := by rw [hMz, hM88, hM87, hM86, upd2_eq]; rw [if_neg (by omega)]
                            refine rw_iconst hx hb dX11_text_174 ?_
                            refine lv_istore_n (lv' := [(2, .int (iN 0)), (0, .ref (ad 0)), (1, .int (iN n))]) hx hb dX11_text_175 rfl hl (by decide) rfl (fun ls hl => ?_)
                            have hC_176 : ∀ N : Nat, ∀ (k : Int) (My : Mem) (H : Heap) (locs : List Loc) (ls : Array Slot), (47 - k).toNat < N → (0 ≤ k ∧ k ≤ 47) → ((∀ q : Nat, q ≠ 1 → My q = Mz q) ∧ ∀ j, (j < 0 ∨ k ≤ j) → My 1 j = Mz 1 j) → (∀ j, 0 ≤ j → j < k → My 1 j = Mz 2 j) → Wo G ad CA nt LyM (wA ad LyM) s My H locs → lv_has ls 3 [(0, .ref (ad 0)), (1, .int (iN n)), (2, .int (iN k))] → Wf l 7 159 G ad CA nt LyM (P_X11_text M) p e s m args below meth c H locs (F0 m 176 ls []) := by
                              intro N
                              induction N with
                              | zero => intro k My H locs ls hN; exact absurd hN (Nat.not_lt_zero _)
                              | succ N ih176 =>
                                intro k My H locs ls hN hk hmy hcp hW hl
                                refine lv_iload_n hx hb dX11_text_176 rfl (lv_at hl 2 rfl) ?_
                                refine rw_bipush hx hb dX11_text_177 (by decide) ?_
                                refine rw_icmp_ge (tgt := 200) hx hb dX11_text_179 (by decide) (by omega) (by decide) (fun c_179 => ?_) (fun c_179 => ?_)
                                · refine lv_aload_n hx hb dX11_text_200 rfl (lv_at hl 0 rfl) ?_
                                  refine lv_aload_n hx hb dX11_text_201 rfl (lv_at hl 0 rfl) ?_
                                  refine rw_getI hx hb hts hown hW 0 lm_0 3 3 rfl rfl fX11_116 dX11_text_202 (v := (My 0 3)) rfl ?_
                                  refine rw_putI hx hb hts hown hW 0 lm_0 1 1 rfl rfl qX11_13 (v := (My 0 3)) dX11_text_205 (fun H locs hW => ?_)
                                  obtain ⟨M89, hM89⟩ : ∃ z, z = upd2 My 0 1 (My 0 3) := ⟨_, rfl⟩
                                  rw [← hM89] at hW
                                  refine lv_aload_n hx hb dX11_text_208 rfl (lv_at hl 0 rfl) ?_
                                  refine rw_iconst hx hb dX11_text_209 ?_
                                  refine rw_putI hx hb hts hown hW 0 lm_0 22 22 rfl rfl qX11_139 (v := 0) dX11_text_210 (fun H locs hW => ?_)
                                  obtain ⟨M90, hM90⟩ : ∃ z, z = upd2 M89 0 22 0 := ⟨_, rfl⟩
                                  rw [← hM90] at hW
                                  refine lv_aload_n hx hb dX11_text_213 rfl (lv_at hl 0 rfl) ?_
                                  refine rw_getR hx hb hts hown hW 0 lm_0 23 10 rfl fX11_41 dX11_text_214 ?_
                                  refine rw_iconst hx hb dX11_text_217 ?_
                                  refine rw_iconst hx hb dX11_text_218 ?_
                                  refine rw_zast hx hb hW hnt4 10 lm_10 (by omega) (by omega) (by decide) (by omega) dX11_text_219 (fun H locs hW => ?_)
                                  obtain ⟨M91, hM91⟩ : ∃ z, z = upd2 M90 10 0 0 := ⟨_, rfl⟩
                                  rw [← hM91] at hW
                                  refine lv_aload_n hx hb dX11_text_220 rfl (lv_at hl 0 rfl) ?_
                                  refine rw_getR hx hb hts hown hW 0 lm_0 23 10 rfl fX11_41 dX11_text_221 ?_
                                  refine rw_iconst hx hb dX11_text_224 ?_
                                  refine rw_iconst hx hb dX11_text_225 ?_
                                  refine rw_zast hx hb hW hnt4 10 lm_10 (by omega) (by omega) (by decide) (by omega) dX11_text_226 (fun H locs hW => ?_)
                                  obtain ⟨M92, hM92⟩ : ∃ z, z = upd2 M91 10 1 0 := ⟨_, rfl⟩
                                  rw [← hM92] at hW
                                  refine lv_iload_n hx hb dX11_text_227 rfl (lv_at hl 1 rfl) ?_
                                  refine rw_iret hx hb hr hlocks hW dX11_text_228 (⟨n, rfl, ?_⟩)
                                  refine hcl.good hrun hcnt (by omega) ?_ ?_ ?_ ?_ ?_ ?_ ?_ ?_
                                  · rw [hM92, hM91, hM90, hM89]; simp [upd2_at]; rw [hmy.1 0 (by decide), hz10]; omega
                                  · rw [hM92, hM91, hM90, hM89]; simp [upd2_at]; rw [hmy.1 0 (by decide), hz9]
                                  · rw [hM92, hM91, hM90, hM89]; simp [upd2_at]
                                  · rw [hM92, hM91, hM90, hM89]; simp [upd2_at]
                                  · rw [hM92, hM91, hM90, hM89]; simp [upd2_at]
                                  · rw [hM92, hM91, hM90, hM89]; simp [upd2_at]; rw [hmy.1 0 (by decide), hzf 0 3 (by omega) (by omega)]
                                  · intro j a b; rw [hM92, upd2_ne1 (by decide), hM91, upd2_ne1 (by decide), hM90, upd2_ne1 (by decide), hM89, upd2_ne1 (by decide), hcp j a (by omega)]; by_cases e : j = 27; subst e; rw [if_pos rfl]; exact hz27; rw [if_neg e]; exact hzf 2 j (by omega) (by omega)
                                  · intro q j hq; rw [hM92, upd2_at, if_neg (fun z => hq (by omega)), hM91, upd2_at, if_neg (fun z => hq (by omega)), hM90, upd2_at, if_neg (fun z => hq (by omega)), hM89, upd2_at, if_neg (fun z => hq (by omega))]; by_cases e : q = 1; subst e; rw [hmy.2 j (by have := hq; omega)]; exact hzf 1 j (by omega) (by omega); rw [hmy.1 q e]; exact hzf q j (fun z => hq (by omega)) (fun z => hq (Or.inl (by unfold Scell; omega)))
                                · refine lv_aload_n hx hb dX11_text_182 rfl (lv_at hl 0 rfl) ?_
                                  refine rw_getR hx hb hts hown hW 0 lm_0 0 1 rfl fX11_7 dX11_text_183 ?_
                                  refine lv_iload_n hx hb dX11_text_186 rfl (lv_at hl 2 rfl) ?_
                                  refine lv_aload_n hx hb dX11_text_187 rfl (lv_at hl 0 rfl) ?_
                                  refine rw_getR hx hb hts hown hW 0 lm_0 2 2 rfl fX11_17 dX11_text_188 ?_
                                  refine lv_iload_n hx hb dX11_text_191 rfl (lv_at hl 2 rfl) ?_
                                  refine rw_iald hx hb hW hnt4 2 lm_2 (by omega) (by omega) (by decide) dX11_text_192 (v := (My 2 k)) rfl ?_
                                  refine rw_iast hx hb hW hnt4 1 lm_1 (v := (My 2 k)) (by omega) (by omega) (by decide) dX11_text_193 (fun H locs hW => ?_)
                                  obtain ⟨M93, hM93⟩ : ∃ z, z = upd2 My 1 k (My 2 k) := ⟨_, rfl⟩
                                  rw [← hM93] at hW
                                  refine rw_iinc (lv' := [(2, .int (iN (k + 1))), (0, .ref (ad 0)), (1, .int (iN n))]) hx hb dX11_text_194 hl (k := 2) rfl (by decide) rfl (fun ls hl => ?_)
                                  refine lv_goto (tgt := 176) hx hb dX11_text_197 (by decide) ?_
                                  exact ih176 (k + 1) M93 H locs ls (by omega) (by omega) ⟨fun q hq => by rw [hM93, upd2_ne1 hq]; exact hmy.1 q hq, fun j hj => by rw [hM93, upd2_ne2 (by omega)]; exact hmy.2 j (by omega)⟩ (fun j a b => by by_cases e : j = k; subst e; rw [hM93, upd2_eq, hmy.1 2 (by decide)]; rw [hM93, upd2_ne2 e]; exact hcp j a (by omega)) hW (lv_sub hl [1, 2, 0] rfl)
                            exact hC_176 _ 0 Mz H locs ls (Nat.lt_succ_self _) (by omega) ⟨fun _ _ => rfl, fun _ _ => rfl⟩ (fun j a b => absurd b (by omega)) hW (lv_sub hl [1, 2, 0] rfl)
                          · refine lv_aload_n hx hb dX11_text_158 rfl (lv_at hl 0 rfl) ?_
                            refine rw_getI hx hb hts hown hW 0 lm_0 3 3 rfl rfl fX11_116 dX11_text_159 (v := (M2 0 3)) (by rw [hM87, upd2_ne2 (by decide), hM86, upd2_ne2 (by decide)]) ?_
                            refine rw_iconst hx hb dX11_text_162 ?_
                            refine rw_idiv hx hb dX11_text_163 (by omega) (by decide) (by decide) rfl ?_
                            refine lv_goto (tgt := 171) hx hb dX11_text_164 (by decide) ?_
                            refine rw_iconst hx hb dX11_text_171 ?_
                            refine rw_isub hx hb dX11_text_172 ?_
                            refine rw_iast hx hb hW hnt4 2 lm_2 (v := (Int.tdiv (M2 0 3) 2) - 2) (by omega) (by omega) (by decide) dX11_text_173 (fun H locs hW => ?_)
                            obtain ⟨M94, hM94⟩ : ∃ z, z = upd2 M87 2 27 ((Int.tdiv (M2 0 3) 2) - 2) := ⟨_, rfl⟩
                            rw [← hM94] at hW
                            obtain ⟨Mz, hMz⟩ : ∃ z, z = M94 := ⟨_, rfl⟩
                            rw [← hMz] at hW
                            have hzf : ∀ (q : Nat) (j : Int), ¬ (q = 0 ∧ (j = 9 ∨ j = 10)) → ¬ (q = 2 ∧ j = 27) → Mz q j = M2 q j := fun q j a b => by rw [hMz, hM94, upd2_at, if_neg (by omega), hM87, upd2_at, if_neg (by omega), hM86, upd2_at, if_neg (by omega)]
                            have hz9 : Mz 0 9 = 0 := by rw [hMz, hM94, hM87, hM86]; simp [upd2_at]
                            have hz10 : Mz 0 10 = M2 0 11 := by rw [hMz, hM94, hM87, hM86]; simp [upd2_at]
                            have hz27 : Mz 2 27 = (if M2 0 4 = -4 then M2 0 3 / 2 else M2 0 4) - 2 := by rw [hMz, hM94, hM87, hM86, upd2_eq]; rw [if_pos (by omega), Int.tdiv_eq_ediv_of_nonneg (by omega)]
                            refine rw_iconst hx hb dX11_text_174 ?_
                            refine lv_istore_n (lv' := [(2, .int (iN 0)), (0, .ref (ad 0)), (1, .int (iN n))]) hx hb dX11_text_175 rfl hl (by decide) rfl (fun ls hl => ?_)
                            have hC_176 : ∀ N : Nat, ∀ (k : Int) (My : Mem) (H : Heap) (locs : List Loc) (ls : Array Slot), (47 - k).toNat < N → (0 ≤ k ∧ k ≤ 47) → ((∀ q : Nat, q ≠ 1 → My q = Mz q) ∧ ∀ j, (j < 0 ∨ k ≤ j) → My 1 j = Mz 1 j) → (∀ j, 0 ≤ j → j < k → My 1 j = Mz 2 j) → Wo G ad CA nt LyM (wA ad LyM) s My H locs → lv_has ls 3 [(0, .ref (ad 0)), (1, .int (iN n)), (2, .int (iN k))] → Wf l 7 159 G ad CA nt LyM (P_X11_text M) p e s m args below meth c H locs (F0 m 176 ls []) := by
                              intro N
                              induction N with
                              | zero => intro k My H locs ls hN; exact absurd hN (Nat.not_lt_zero _)
                              | succ N ih176 =>
                                intro k My H locs ls hN hk hmy hcp hW hl
                                refine lv_iload_n hx hb dX11_text_176 rfl (lv_at hl 2 rfl) ?_
                                refine rw_bipush hx hb dX11_text_177 (by decide) ?_
                                refine rw_icmp_ge (tgt := 200) hx hb dX11_text_179 (by decide) (by omega) (by decide) (fun c_179 => ?_) (fun c_179 => ?_)
                                · refine lv_aload_n hx hb dX11_text_200 rfl (lv_at hl 0 rfl) ?_
                                  refine lv_aload_n hx hb dX11_text_201 rfl (lv_at hl 0 rfl) ?_
                                  refine rw_getI hx hb hts hown hW 0 lm_0 3 3 rfl rfl fX11_116 dX11_text_202 (v := (My 0 3)) rfl ?_
                                  refine rw_putI hx hb hts hown hW 0 lm_0 1 1 rfl rfl qX11_13 (v := (My 0 3)) dX11_text_205 (fun H locs hW => ?_)
                                  obtain ⟨M95, hM95⟩ : ∃ z, z = upd2 My 0 1 (My 0 3) := ⟨_, rfl⟩
                                  rw [← hM95] at hW
                                  refine lv_aload_n hx hb dX11_text_208 rfl (lv_at hl 0 rfl) ?_
                                  refine rw_iconst hx hb dX11_text_209 ?_
                                  refine rw_putI hx hb hts hown hW 0 lm_0 22 22 rfl rfl qX11_139 (v := 0) dX11_text_210 (fun H locs hW => ?_)
                                  obtain ⟨M96, hM96⟩ : ∃ z, z = upd2 M95 0 22 0 := ⟨_, rfl⟩
                                  rw [← hM96] at hW
                                  refine lv_aload_n hx hb dX11_text_213 rfl (lv_at hl 0 rfl) ?_
                                  refine rw_getR hx hb hts hown hW 0 lm_0 23 10 rfl fX11_41 dX11_text_214 ?_
                                  refine rw_iconst hx hb dX11_text_217 ?_
                                  refine rw_iconst hx hb dX11_text_218 ?_
                                  refine rw_zast hx hb hW hnt4 10 lm_10 (by omega) (by omega) (by decide) (by omega) dX11_text_219 (fun H locs hW => ?_)
                                  obtain ⟨M97, hM97⟩ : ∃ z, z = upd2 M96 10 0 0 := ⟨_, rfl⟩
                                  rw [← hM97] at hW
                                  refine lv_aload_n hx hb dX11_text_220 rfl (lv_at hl 0 rfl) ?_
                                  refine rw_getR hx hb hts hown hW 0 lm_0 23 10 rfl fX11_41 dX11_text_221 ?_
                                  refine rw_iconst hx hb dX11_text_224 ?_
                                  refine rw_iconst hx hb dX11_text_225 ?_
                                  refine rw_zast hx hb hW hnt4 10 lm_10 (by omega) (by omega) (by decide) (by omega) dX11_text_226 (fun H locs hW => ?_)
                                  obtain ⟨M98, hM98⟩ : ∃ z, z = upd2 M97 10 1 0 := ⟨_, rfl⟩
                                  rw [← hM98] at hW
                                  refine lv_iload_n hx hb dX11_text_227 rfl (lv_at hl 1 rfl) ?_
                                  refine rw_iret hx hb hr hlocks hW dX11_text_228 (⟨n, rfl, ?_⟩)
                                  refine hcl.good hrun hcnt (by omega) ?_ ?_ ?_ ?_ ?_ ?_ ?_ ?_
                                  · rw [hM98, hM97, hM96, hM95]; simp [upd2_at]; rw [hmy.1 0 (by decide), hz10]; omega
                                  · rw [hM98, hM97, hM96, hM95]; simp [upd2_at]; rw [hmy.1 0 (by decide), hz9]
                                  · rw [hM98, hM97, hM96, hM95]; simp [upd2_at]
                                  · rw [hM98, hM97, hM96, hM95]; simp [upd2_at]
                                  · rw [hM98, hM97, hM96, hM95]; simp [upd2_at]
                                  · rw [hM98, hM97, hM96, hM95]; simp [upd2_at]; rw [hmy.1 0 (by decide), hzf 0 3 (by omega) (by omega)]
                                  · intro j a b; rw [hM98, upd2_ne1 (by decide), hM97, upd2_ne1 (by decide), hM96, upd2_ne1 (by decide), hM95, upd2_ne1 (by decide), hcp j a (by omega)]; by_cases e : j = 27; subst e; rw [if_pos rfl]; exact hz27; rw [if_neg e]; exact hzf 2 j (by omega) (by omega)
                                  · intro q j hq; rw [hM98, upd2_at, if_neg (fun z => hq (by omega)), hM97, upd2_at, if_neg (fun z => hq (by omega)), hM96, upd2_at, if_neg (fun z => hq (by omega)), hM95, upd2_at, if_neg (fun z => hq (by omega))]; by_cases e : q = 1; subst e; rw [hmy.2 j (by have := hq; omega)]; exact hzf 1 j (by omega) (by omega); rw [hmy.1 q e]; exact hzf q j (fun z => hq (by omega)) (fun z => hq (Or.inl (by unfold Scell; omega)))
                                · refine lv_aload_n hx hb dX11_text_182 rfl (lv_at hl 0 rfl) ?_
                                  refine rw_getR hx hb hts hown hW 0 lm_0 0 1 rfl fX11_7 dX11_text_183 ?_
                                  refine lv_iload_n hx hb dX11_text_186 rfl (lv_at hl 2 rfl) ?_
                                  refine lv_aload_n hx hb dX11_text_187 rfl (lv_at hl 0 rfl) ?_
                                  refine rw_getR hx hb hts hown hW 0 lm_0 2 2 rfl fX11_17 dX11_text_188 ?_
                                  refine lv_iload_n hx hb dX11_text_191 rfl (lv_at hl 2 rfl) ?_
                                  refine rw_iald hx hb hW hnt4 2 lm_2 (by omega) (by omega) (by decide) dX11_text_192 (v := (My 2 k)) rfl ?_
                                  refine rw_iast hx hb hW hnt4 1 lm_1 (v := (My 2 k)) (by omega) (by omega) (by decide) dX11_text_193 (fun H locs hW => ?_)
                                  obtain ⟨M99, hM99⟩ : ∃ z, z = upd2 My 1 k (My 2 k) := ⟨_, rfl⟩
                                  rw [← hM99] at hW
                                  refine rw_iinc (lv' := [(2, .int (iN (k + 1))), (0, .ref (ad 0)), (1, .int (iN n))]) hx hb dX11_text_194 hl (k := 2) rfl (by decide) rfl (fun ls hl => ?_)
                                  refine lv_goto (tgt := 176) hx hb dX11_text_197 (by decide) ?_
                                  exact ih176 (k + 1) M99 H locs ls (by omega) (by omega) ⟨fun q hq => by rw [hM99, upd2_ne1 hq]; exact hmy.1 q hq, fun j hj => by rw [hM99, upd2_ne2 (by omega)]; exact hmy.2 j (by omega)⟩ (fun j a b => by by_cases e : j = k; subst e; rw [hM99, upd2_eq, hmy.1 2 (by decide)]; rw [hM99, upd2_ne2 e]; exact hcp j a (by omega)) hW (lv_sub hl [1, 2, 0] rfl)
                            exact hC_176 _ 0 Mz H locs ls (Nat.lt_succ_self _) (by omega) ⟨fun _ _ => rfl, fun _ _ => rfl⟩ (fun j a b => absurd b (by omega)) hW (lv_sub hl [1, 2, 0] rfl)
                        · refine rw_bipush hx hb dX11_text_135 (by decide) ?_
                          refine lv_aload_n hx hb dX11_text_137 rfl (lv_at hl 0 rfl) ?_
                          refine rw_getI hx hb hts hown hW 0 lm_0 12 12 rfl rfl fX11_67 dX11_text_138 (v := (M2 0 12)) (by rw [hM87, upd2_ne2 (by decide), hM86, upd2_ne2 (by decide)]) ?_
                          refine rw_isub hx hb dX11_text_141 ?_
                          refine rw_iret hx hb hr hlocks hW dX11_text_142 (⟨(-10) - (M2 0 12), rfl, ?_⟩)
                          refine hcl.bad hrun (by omega) ?_ ?_ ?_
                          · rw [hM87, hM86]; simp [upd2_at]
                          · rw [hM87, hM86]; simp [upd2_at]
                          · intro q j hq; rw [hM87, upd2_at, if_neg (by omega), hM86, upd2_at, if_neg (by omega)]
                      exact hC_115 n M84 H locs ls (by omega) (hfin.closeB (by omega) (by omega) hM84) (by omega) hW (lv_sub hl [0, 1] rfl)
                obtain ⟨yf, hyf1, hyf2, hyf3⟩ := hS.fin (Or.inr c_79) hln hr1 hr2
                exact hC_92 n Mx yf H locs ls (by omega) hyf1 hyf2 hyf3 (by omega) hW (lv_sub hl [0, 1] rfl)
              · have hmore := hS.more (by omega) (by omega) hln hr1
                refine lv_aload_n hx hb dX11_text_82 rfl (lv_at hl 0 rfl) ?_
                refine rw_callV hx hb hml hts hown hW ⟨Nat.le_refl 0, Nat.le_refl 0⟩ [] 0 lm_0 rfl (c_X11_readLine (l := l) (G := G) (ad := ad) (CA := CA) (nt := nt) (by omega) M x Mx hS (by omega)) kX11_133 rfl ⟨Nat.le_of_ble_eq_true rfl, Nat.le_of_ble_eq_true rfl⟩ hl.1 rfl (Nat.le_of_ble_eq_true rfl) dX11_text_83 (fun v100 M101 H locs hp102 hW => ?_)
                obtain ⟨rfl, hM101⟩ := hp102
                refine rw_stk (st' := []) rfl ?_
                refine rw_iinc (lv' := [(1, .int (iN (n + 1))), (0, .ref (ad 0))]) hx hb dX11_text_86 hl (k := 1) rfl (by decide) rfl (fun ls hl => ?_)
                refine lv_goto (tgt := 68) hx hb dX11_text_89 (by decide) ?_
                exact ih68 (n + 1) M101 (stepX (M 4) (M 0 9) x) H locs ls (by have := hmore.1; omega) (by have := hmore.1; omega) hM101 hmore.2.1 hmore.2.2 hW (lv_sub hl [1, 0] rfl)
        exact hC_68 _ 0 M8 st0 H locs ls (Nat.lt_succ_self _) (by omega) (hS0.step hM8) (fun g e => by cases e; exact ⟨rfl, Int.le_refl 0, hTp.1⟩) (fun a e => by cases e) hW (lv_sub hl [0, 1] rfl)
      · refine lv_aload_n hx hb dX11_text_41 rfl (lv_at hl 0 rfl) ?_
        refine rw_getR hx hb hts hown hW 0 lm_0 2 2 rfl fX11_17 dX11_text_42 ?_
        refine lv_iload_n hx hb dX11_text_45 rfl (lv_at hl 2 rfl) ?_
        refine rw_iconst hx hb dX11_text_46 ?_
        refine rw_iast hx hb hW hnt4 2 lm_2 (v := 0) (by omega) (by omega) (by decide) dX11_text_47 (fun H locs hW => ?_)
        obtain ⟨M103, hM103⟩ : ∃ z, z = upd2 Mx 2 k 0 := ⟨_, rfl⟩
        rw [← hM103] at hW
        refine lv_aload_n hx hb dX11_text_48 rfl (lv_at hl 0 rfl) ?_
        refine rw_getR hx hb hts hown hW 0 lm_0 6 3 rfl fX11_20 dX11_text_49 ?_
        refine lv_iload_n hx hb dX11_text_52 rfl (lv_at hl 2 rfl) ?_
        refine rw_bipush hx hb dX11_text_53 (by decide) ?_
        refine rw_irem hx hb dX11_text_55 (by omega) (by decide) (by decide) rfl ?_
        rw [Int.tmod_eq_emod_of_nonneg hk.1]
        refine rw_iconst hx hb dX11_text_56 ?_
        refine rw_iast hx hb hW hnt4 3 lm_3 (v := 0) (by omega) (by omega) (by decide) dX11_text_57 (fun H locs hW => ?_)
        obtain ⟨M104, hM104⟩ : ∃ z, z = upd2 M103 3 (k % 9) 0 := ⟨_, rfl⟩
        rw [← hM104] at hW
        refine rw_iinc (lv' := [(2, .int (iN (k + 1))), (0, .ref (ad 0)), (1, .int (iN 0))]) hx hb dX11_text_58 hl (k := 2) rfl (by decide) rfl (fun ls hl => ?_)
        refine lv_goto (tgt := 35) hx hb dX11_text_61 (by decide) ?_
        exact ih35 (k + 1) M104 H locs ls (by omega) (by omega) (fun q j hq => by rw [hM104, upd2_at, if_neg (fun z => hq (by unfold Scell; omega)), hM103, upd2_at, if_neg (fun z => hq (by unfold Scell; omega))]; exact hfr q j hq) (by simp only [hM104, hM103, upd2_at]; simp; exact hsl) (fun j a b => by rw [hM104, hM103, upd2_ne1 (by decide), upd2_at]; by_cases e : j = k; subst e; rw [if_pos ⟨rfl, rfl⟩]; rw [if_neg (by omega)]; exact hz2 j a (by omega)) (fun j a b d => by rw [hM104, hM103, upd2_at]; by_cases e : j = k % 9; rw [if_pos ⟨rfl, e⟩]; rw [if_neg (by omega), upd2_ne1 (by decide)]; exact hz3 j a b (by omega)) hW (lv_sub hl [1, 2, 0] rfl)
  exact hC_35 _ 0 M6 H locs ls (Nat.lt_succ_self _) (by omega) (fun q j hq => by rw [hM6, upd2_at, if_neg (fun z => hq (by unfold Scell; omega)), hM5, upd2_at, if_neg (fun z => hq (by unfold Scell; omega)), hM4, upd2_at, if_neg (fun z => hq (by unfold Scell; omega)), hM3, upd2_at, if_neg (fun z => hq (by unfold Scell; omega)), hM2, upd2_at, if_neg (fun z => hq (by unfold Scell; omega)), hM1, upd2_at, if_neg (fun z => hq (by unfold Scell; omega))]) (by simp only [hM6, hM5, hM4, hM3, hM2, hM1, upd2_at]; simp) (fun j a b => absurd b (by omega)) (fun j a b d => absurd d (by omega)) hW (lv_sub hl [2, 1, 0] rfl)
