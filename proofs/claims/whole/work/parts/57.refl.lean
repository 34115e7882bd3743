abbrev P_X11_step (M : Mem) : Option Value → Mem → Prop := oV (fun MM => stepP M MM)
set_option maxRecDepth 100000 in
set_option maxHeartbeats 4000000 in
theorem c_X11_step {l : Launch} {G : va_G} {ad : Nat → Nat} {CA : Nat → ClassId} {nt : Nat} (hnt : 6 ≤ nt) (M : Mem) (hTp : 0 ≤ M 0 9 ∧ M 0 9 ≤ 320) (hbt : ∀ i, 0 ≤ M 4 i ∧ M 4 i ≤ 255) (h11 : 0 ≤ M 0 11 ∧ M 0 11 ≤ 5) (hN13 : M 0 11 = 0 → 0 ≤ M 0 13 ∧ M 0 13 ≤ M 0 9) : Mt l yX11_step cX11_step 2 none 1 25 G ad CA nt LyM [.ref (ad 0)] M (P_X11_step M) := by
  refine Mt.of (by decide) (Nat.le_of_ble_eq_true rfl) (fun p e s m args below meth c hx hb hr hml hts hown hlocks hnm hW ls hl => ?_)
  have hl : lv_has ls 2 [(0, .ref (ad 0))] := hl
  have hnt4 : 4 ≤ nt := by omega
  obtain ⟨H, hH⟩ : ∃ z, z = s.heap := ⟨_, rfl⟩
  obtain ⟨locs, hlo⟩ : ∃ z : List Loc, z = [] := ⟨_, rfl⟩
  rw [← hH, ← hlo] at hW ⊢
  refine lv_aload_n hx hb dX11_step_0 rfl (lv_at hl 0 rfl) ?_
  refine rw_getI hx hb hts hown hW 0 lm_0 11 11 rfl rfl fX11_61 dX11_step_1 (v := (M 0 11)) rfl ?_
  refine rw_if_le (tgt := 8) hx hb dX11_step_4 (by decide) (by omega) (fun c_4 => ?_) (fun c_4 => ?_)
  · have hC_8 : ∀ N : Nat, ∀ (Mx : Mem) (H : Heap) (locs : List Loc) (ls : Array Slot), (M 0 9 - Mx 0 13).toNat < N → (∀ (q : Nat) (j : Int), ¬ (q = 0 ∧ j = 13) → Mx q j = M q j) → (M 0 13 ≤ Mx 0 13 ∧ Mx 0 13 ≤ M 0 9) → (scanF isB (M 4) (M 0 9) (M 0 9 - Mx 0 13).toNat (Mx 0 13) = tokS (M 4) (M 0 9) (M 0 13)) → Wo G ad CA nt LyM (wA ad LyM) s Mx H locs → lv_has ls 2 [(0, .ref (ad 0))] → Wf l 1 25 G ad CA nt LyM (P_X11_step M) p e s m args below meth c H locs (F0 m 8 ls []) := by
      intro N
      induction N with
      | zero => intro Mx H locs ls hN; exact absurd hN (Nat.not_lt_zero _)
      | succ N ih8 =>
        intro Mx H locs ls hN hfr hp hscan hW hl
        have h110 : M 0 11 = 0 := by omega
        have hn13 := hN13 h110
        refine lv_aload_n hx hb dX11_step_8 rfl (lv_at hl 0 rfl) ?_
        refine lv_aload_n hx hb dX11_step_9 rfl (lv_at hl 0 rfl) ?_
        refine rw_getI hx hb hts hown hW 0 lm_0 13 13 rfl rfl fX11_73 dX11_step_10 (v := (Mx 0 13)) rfl ?_
        refine rw_callV hx hb hml hts hown hW ⟨Nat.le_refl 0, Nat.le_refl 0⟩ [.int (iN (Mx 0 13))] 0 lm_0 rfl (c_X11_byteAt (l := l) (G := G) (ad := ad) (CA := CA) (nt := nt) (by omega) (Mx 0 13) (by first | omega | decide) Mx (by have q := (show ∀ (q : Nat) (j : Int), ¬ (q = 0 ∧ 11 ≤ j ∧ j ≤ 16) → Mx q j = M q j from (fun q j hq => hfr q j (by omega))) 0 9 (by omega); omega)) kX11_76 rfl ⟨Nat.le_of_ble_eq_true rfl, Nat.le_of_ble_eq_true rfl⟩ hl.1 rfl (Nat.le_of_ble_eq_true rfl) dX11_step_13 (fun v1 M2 H locs hp3 hW => ?_)
        obtain ⟨a4, rfl, ha4, hp3⟩ := hp3
        rw [hp3] at hW
        refine rw_stk (st' := [.int (iN a4)]) rfl ?_
        have hfc : ∀ (q : Nat) (j : Int), ¬ (q = 0 ∧ 11 ≤ j ∧ j ≤ 16) → Mx q j = M q j := (fun q j hq => hfr q j (by omega))
        rw [hfc 0 9 (by omega), show Mx 4 = M 4 from funext fun i => hfc 4 i (by omega)] at ha4
        have hrg : -4 ≤ a4 ∧ a4 ≤ 255 := by rw [ha4]; split; have := hbt (Mx 0 13); omega; omega
        refine rw_bipush hx hb dX11_step_16 (by decide) ?_
        refine rw_icmp_ne (tgt := 34) hx hb dX11_step_18 (by decide) (by omega) (by decide) (fun c_18 => ?_) (fun c_18 => ?_)
        · have htS : Mx 0 13 = tokS (M 4) (M 0 9) (M 0 13) := by
            rw [← hscan, scanF_off]
            rintro ⟨z1, z2⟩
            rw [isB_iff] at z2
            rw [if_pos z1] at ha4
            omega
          obtain ⟨s0, hs0⟩ : ∃ z, z = tokS (M 4) (M 0 9) (M 0 13) := ⟨_, rfl⟩
          rw [← hs0] at htS
          have hsr : 0 ≤ s0 ∧ s0 ≤ M 0 9 := by omega
          refine lv_aload_n hx hb dX11_step_34 rfl (lv_at hl 0 rfl) ?_
          refine lv_aload_n hx hb dX11_step_35 rfl (lv_at hl 0 rfl) ?_
          refine rw_getI hx hb hts hown hW 0 lm_0 13 13 rfl rfl fX11_73 dX11_step_36 (v := (Mx 0 13)) rfl ?_
          refine rw_putI hx hb hts hown hW 0 lm_0 14 14 rfl rfl qX11_64 (v := (Mx 0 13)) dX11_step_39 (fun H locs hW => ?_)
          obtain ⟨M5, hM5⟩ : ∃ z, z = upd2 Mx 0 14 (Mx 0 13) := ⟨_, rfl⟩
          rw [← hM5] at hW
          refine lv_aload_n hx hb dX11_step_42 rfl (lv_at hl 0 rfl) ?_
          refine lv_aload_n hx hb dX11_step_43 rfl (lv_at hl 0 rfl) ?_
          refine rw_getI hx hb hts hown hW 0 lm_0 13 13 rfl rfl fX11_73 dX11_step_44 (v := (Mx 0 13)) (by rw [hM5, upd2_ne2 (by decide)]) ?_
          refine rw_callV hx hb hml hts hown hW ⟨Nat.le_refl 0, Nat.le_refl 0⟩ [.int (iN (Mx 0 13))] 0 lm_0 rfl (c_X11_byteAt (l := l) (G := G) (ad := ad) (CA := CA) (nt := nt) (by omega) (Mx 0 13) (by first | omega | decide) M5 (by have q := (show ∀ (q : Nat) (j : Int), ¬ (q = 0 ∧ 11 ≤ j ∧ j ≤ 16) → M5 q j = M q j from (fun q j hq => by rw [hM5, upd2_at, if_neg (by omega)]; exact hfr q j (by omega))) 0 9 (by omega); omega)) kX11_76 rfl ⟨Nat.le_of_ble_eq_true rfl, Nat.le_of_ble_eq_true rfl⟩ hl.1 rfl (Nat.le_of_ble_eq_true rfl) dX11_step_47 (fun v6 M7 H locs hp8 hW => ?_)
          obtain ⟨a9, rfl, ha9, hp8⟩ := hp8
          rw [hp8] at hW
          refine rw_stk (st' := [.int (iN a9)]) rfl ?_
          have hfc : ∀ (q : Nat) (j : Int), ¬ (q = 0 ∧ 11 ≤ j ∧ j ≤ 16) → M5 q j = M q j := (fun q j hq => by rw [hM5, upd2_at, if_neg (by omega)]; exact hfr q j (by omega))
          rw [hfc 0 9 (by omega), show M5 4 = M 4 from funext fun i => hfc 4 i (by omega)] at ha9
          have hrg : -4 ≤ a9 ∧ a9 ≤ 255 := by rw [ha9]; split; have := hbt (Mx 0 13); omega; omega
          refine lv_istore_n (lv' := [(1, .int (iN a9)), (0, .ref (ad 0))]) hx hb dX11_step_50 rfl hl (by decide) rfl (fun ls hl => ?_)
          have hbF : byteF (M 4) (M 0 9) s0 = (if s0 < M 0 9 then a9 else -1) := by unfold byteF; rw [ha9, htS]; (repeat' split) <;> first | rfl | (exfalso; omega) | omega
          have hK0 : tokK0 (M 4) (M 0 9) (M 0 13) = kindF (if s0 < M 0 9 then a9 else -1) := by unfold tokK0; rw [← hs0, hbF]
          unfold kindF at hK0
          have hend : ¬ s0 < M 0 9 ↔ a9 = -4 := by rw [ha9, htS]; split; have := hbt s0; omega; omega
          rw [htS] at ha9
          have ha0 : 0 ≤ a9 ∨ a9 = -4 := by rw [ha9]; split; have := hbt s0; omega; omega
          refine lv_aload_n hx hb dX11_step_51 rfl (lv_at hl 1 rfl) ?_
          refine rw_iconst hx hb dX11_step_52 ?_
          refine rw_putI hx hb hts hown hW 0 lm_0 16 16 rfl rfl qX11_80 (v := 0) dX11_step_53 (fun H locs hW => ?_)
          obtain ⟨M10, hM10⟩ : ∃ z, z = upd2 M5 0 16 0 := ⟨_, rfl⟩
          rw [← hM10] at hW
          refine lv_iload_n hx hb dX11_step_56 rfl (lv_at hl 0 rfl) ?_
          refine rw_bipush hx hb dX11_step_57 (by decide) ?_
          refine rw_icmp_ne (tgt := 70) hx hb dX11_step_59 (by decide) (by omega) (by decide) (fun c_59 => ?_) (fun c_59 => ?_)
          · refine lv_iload_n hx hb dX11_step_70 rfl (lv_at hl 0 rfl) ?_
            refine rw_i2l hx hb dX11_step_71 (by omega) ?_
            refine lv_ldc2 (v := 97) hx hb hown (hts _ (wm_16 _ (List.mem_of_getElem? (i := 19) rfl))) dX11_step_72 ?_
            refine rw_stk (st' := [.long (jN 97), .long (jN a9)]) (by rw [show (97 : Int64) = jN 97 from by decide]) ?_
            refine lv_ldc2 (v := 122) hx hb hown (hts _ (wm_16 _ (List.mem_of_getElem? (i := 20) rfl))) dX11_step_75 ?_
            refine rw_stk (st' := [.long (jN 122), .long (jN 97), .long (jN a9)]) (by rw [show (122 : Int64) = jN 122 from by decide]) ?_
            refine rw_callS hx hb hml hts hown hW ⟨Nat.le_refl 0, Nat.le_refl 0⟩ [.long (jN a9), .long (jN 97), .long (jN 122)] (c_X11_in (l := l) (G := G) (ad := ad) (CA := CA) (nt := nt) a9 97 122 (by first | omega | decide) (by first | omega | decide) (by first | omega | decide) M10) kX11_57 rfl ⟨Nat.le_of_ble_eq_true rfl, Nat.le_of_ble_eq_true rfl⟩ hl.1 rfl (Nat.le_of_ble_eq_true rfl) dX11_step_78 (fun v11 M12 H locs hp13 hW => ?_)
            obtain ⟨a14, rfl, hp13, hp13m⟩ := hp13
            rw [hp13m] at hW
            rcases hp13 with ⟨rfl, hp13⟩ | ⟨rfl, hp13⟩
            · refine rw_stk (st' := [.int (iN 1)]) rfl ?_
              refine rw_if_eq (tgt := 126) hx hb dX11_step_81 (by decide) (by decide) (fun c => absurd c (by decide)) (fun _ => ?_)
              have hC_84 : ∀ N : Nat, ∀ (My : Mem) (H : Heap) (locs : List Loc) (ls : Array Slot), (M 0 9 - My 0 13).toNat < N → (∀ (q : Nat) (j : Int), ¬ (q = 0 ∧ 11 ≤ j ∧ j ≤ 16) → My q j = M q j) → (My 0 14 = s0) → (My 0 11 = 0) → (tokK0 (M 4) (M 0 9) (M 0 13) = 1) → (s0 ≤ My 0 13 ∧ My 0 13 ≤ M 0 9) → (scanF (isK 1) (M 4) (M 0 9) (M 0 9 - My 0 13).toNat (My 0 13) = scanF (isK 1) (M 4) (M 0 9) (M 0 9 - s0).toNat s0) → (My 0 16 = 0) → Wo G ad CA nt LyM (wA ad LyM) s My H locs → lv_has ls 2 [(0, .ref (ad 0))] → Wf l 1 25 G ad CA nt LyM (P_X11_step M) p e s m args below meth c H locs (F0 m 84 ls []) := by
                intro N
                induction N with
                | zero => intro My H locs ls hN; exact absurd hN (Nat.not_lt_zero _)
                | succ N ih84 =>
                  intro My H locs ls hN hf6 h14 h11y hk0 hp2 hscn hv hW hl
                  refine lv_aload_n hx hb dX11_step_84 rfl (lv_at hl 0 rfl) ?_
                  refine lv_aload_n hx hb dX11_step_85 rfl (lv_at hl 0 rfl) ?_
                  refine rw_getI hx hb hts hown hW 0 lm_0 13 13 rfl rfl fX11_73 dX11_step_86 (v := (My 0 13)) rfl ?_
                  refine rw_callV hx hb hml hts hown hW ⟨Nat.le_refl 0, Nat.le_refl 0⟩ [.int (iN (My 0 13))] 0 lm_0 rfl (c_X11_byteAt (l := l) (G := G) (ad := ad) (CA := CA) (nt := nt) (by omega) (My 0 13) (by first | omega | decide) My (by have q := (show ∀ (q : Nat) (j : Int), ¬ (q = 0 ∧ 11 ≤ j ∧ j ≤ 16) → My q j = M q j from (fun q j hq => hf6 q j (by omega))) 0 9 (by omega); omega)) kX11_76 rfl ⟨Nat.le_of_ble_eq_true rfl, Nat.le_of_ble_eq_true rfl⟩ hl.1 rfl (Nat.le_of_ble_eq_true rfl) dX11_step_89 (fun v15 M16 H locs hp17 hW => ?_)
                  obtain ⟨a18, rfl, ha18, hp17⟩ := hp17
                  rw [hp17] at hW
                  refine rw_stk (st' := [.int (iN a18)]) rfl ?_
                  have hfc : ∀ (q : Nat) (j : Int), ¬ (q = 0 ∧ 11 ≤ j ∧ j ≤ 16) → My q j = M q j := (fun q j hq => hf6 q j (by omega))
                  rw [hfc 0 9 (by omega), show My 4 = M 4 from funext fun i => hfc 4 i (by omega)] at ha18
                  have hrg : -4 ≤ a18 ∧ a18 ≤ 255 := by rw [ha18]; split; have := hbt (My 0 13); omega; omega
                  refine rw_i2l hx hb dX11_step_92 (by omega) ?_
                  refine lv_ldc2 (v := 97) hx hb hown (hts _ (wm_16 _ (List.mem_of_getElem? (i := 19) rfl))) dX11_step_93 ?_
                  refine rw_stk (st' := [.long (jN 97), .long (jN a18)]) (by rw [show (97 : Int64) = jN 97 from by decide]) ?_
                  refine lv_ldc2 (v := 122) hx hb hown (hts _ (wm_16 _ (List.mem_of_getElem? (i := 20) rfl))) dX11_step_96 ?_
                  refine rw_stk (st' := [.long (jN 122), .long (jN 97), .long (jN a18)]) (by rw [show (122 : Int64) = jN 122 from by decide]) ?_
                  refine rw_callS hx hb hml hts hown hW ⟨Nat.le_refl 0, Nat.le_refl 0⟩ [.long (jN a18), .long (jN 97), .long (jN 122)] (c_X11_in (l := l) (G := G) (ad := ad) (CA := CA) (nt := nt) a18 97 122 (by first | omega | decide) (by first | omega | decide) (by first | omega | decide) My) kX11_57 rfl ⟨Nat.le_of_ble_eq_true rfl, Nat.le_of_ble_eq_true rfl⟩ hl.1 rfl (Nat.le_of_ble_eq_true rfl) dX11_step_99 (fun v19 M20 H locs hp21 hW => ?_)
                  obtain ⟨a22, rfl, hp21, hp21m⟩ := hp21
                  rw [hp21m] at hW
                  rcases hp21 with ⟨rfl, hp21⟩ | ⟨rfl, hp21⟩
                  · refine rw_stk (st' := [.int (iN 1)]) rfl ?_
                    refine rw_if_eq (tgt := 118) hx hb dX11_step_102 (by decide) (by decide) (fun c => absurd c (by decide)) (fun _ => ?_)
                    have hlt : My 0 13 < M 0 9 := by by_cases z : My 0 13 < M 0 9; exact z; rw [if_neg z] at ha18; omega
                    rw [if_pos hlt] at ha18
                    have hisk : isK 1 (M 4 (My 0 13)) = true := by rw [isK_iff, ← ha18]; unfold kindF; (repeat' split) <;> omega
                    have hvA : My 0 13 = s0 → M 4 s0 = a18 := fun z => by rw [ha18, z]
                    have hvB : My 0 13 = s0 + 1 → M 4 (s0 + 1) = a18 := fun z => by rw [ha18, z]
                    have hvC : (My 0 13 = s0 ∧ M 4 s0 = a18) ∨ (My 0 13 = s0 + 1 ∧ M 4 (s0 + 1) = a18) ∨ (My 0 13 ≠ s0 ∧ My 0 13 ≠ s0 + 1) := by by_cases z : My 0 13 = s0; exact Or.inl ⟨z, hvA z⟩; by_cases z2 : My 0 13 = s0 + 1; exact Or.inr (Or.inl ⟨z2, hvB z2⟩); exact Or.inr (Or.inr ⟨z, z2⟩)
                    refine lv_aload_n hx hb dX11_step_105 rfl (lv_at hl 0 rfl) ?_
                    refine lv_dup hx hb dX11_step_106 rfl ?_
                    refine rw_getI hx hb hts hown hW 0 lm_0 13 13 rfl rfl fX11_73 dX11_step_107 (v := (My 0 13)) rfl ?_
                    refine rw_iconst hx hb dX11_step_110 ?_
                    refine rw_iadd hx hb dX11_step_111 ?_
                    refine rw_putI hx hb hts hown hW 0 lm_0 13 13 rfl rfl qX11_73 (v := (My 0 13) + 1) dX11_step_112 (fun H locs hW => ?_)
                    obtain ⟨M23, hM23⟩ : ∃ z, z = upd2 My 0 13 ((My 0 13) + 1) := ⟨_, rfl⟩
                    rw [← hM23] at hW
                    refine lv_goto (tgt := 84) hx hb dX11_step_115 (by decide) ?_
                    exact ih84 M23 H locs ls (by simp only [hM23, upd2_at]; simp; omega) (fun q j hq => by rw [hM23, upd2_at, if_neg (by omega)]; exact hf6 q j (by omega)) (by simp only [hM23, upd2_at]; simp; omega) (by simp only [hM23, upd2_at]; simp; first | exact h11y | (rw [hfr 0 11 (by omega)]; exact h110)) hk0 (by simp only [hM23, upd2_at]; simp; omega) (by simp only [hM23, upd2_at]; simp; rw [← hscn]; exact (scanF_on (by omega) hisk).symm) (by simp only [hM23, upd2_at]; simp; exact hv) hW (lv_sub hl [0] rfl)
                  · refine rw_stk (st' := [.int (iN 0)]) rfl ?_
                    refine rw_if_eq (tgt := 118) hx hb dX11_step_102 (by decide) (by decide) (fun _ => ?_) (fun c => absurd (by decide) c)
                    have hN : My 0 13 = tokN (M 4) (M 0 9) (M 0 13) := by
                      unfold tokN; rw [← hs0, hk0]; rw [if_pos rfl]; rw [← hscn, scanF_off]; rintro ⟨z1, z2⟩; rw [if_pos z1] at ha18; rw [isK_iff, ← ha18] at z2; unfold kindF at z2; revert z2; (repeat' split) <;> omega
                    refine lv_aload_n hx hb dX11_step_118 rfl (lv_at hl 0 rfl) ?_
                    refine rw_iconst hx hb dX11_step_119 ?_
                    refine rw_putI hx hb hts hown hW 0 lm_0 15 15 rfl rfl qX11_70 (v := 1) dX11_step_120 (fun H locs hW => ?_)
                    obtain ⟨M24, hM24⟩ : ∃ z, z = upd2 My 0 15 1 := ⟨_, rfl⟩
                    rw [← hM24] at hW
                    refine lv_goto (tgt := 269) hx hb dX11_step_123 (by decide) ?_
                    refine rw_vret hx hb hr hlocks hW dX11_step_269 (⟨rfl, ?_⟩)
                    have hk0f : tokK0 (M 4) (M 0 9) (M 0 13) = 1 := hk0
                    have hNf := hN
                    have hKf : tokK (M 4) (M 0 9) (M 0 13) = 1 := by unfold tokK; rw [hk0f, if_neg (by omega)]
                    refine Or.inr ⟨h110, ?_, ?_, ?_, ?_, ?_, ?_, ?_, ?_⟩
                    · rw [← hs0]; simp only [hM24, upd2_at]; simp; try exact h14
                    · rw [← hNf]; simp only [hM24, upd2_at]; simp; try omega
                    · rw [hKf]; intro z; refine ⟨?_, ?_⟩ <;> (simp only [hM24, upd2_at]; simp; try first | exact h11y | (rw [hfr 0 11 (by omega)]; exact h110))
                    · rw [hKf]; intro z; exact absurd z (by decide)
                    · rw [hKf]; intro z; exact absurd z (by decide)
                    · simp only [hM24, upd2_at]; simp
                    · simp only [hM24, upd2_at]; simp; try omega
                    · intro q j hq; rw [hM24, upd2_at, if_neg (by omega)]; exact hf6 q j (by omega)
              exact hC_84 _ M10 H locs ls (Nat.lt_succ_self _) (fun q j hq => by rw [hM10, upd2_at, if_neg (by omega), hM5, upd2_at, if_neg (by omega)]; exact hfr q j (by omega)) (by simp only [hM10, hM5, upd2_at]; simp; omega) (by simp only [hM10, hM5, upd2_at]; simp; first | exact h11y | (rw [hfr 0 11 (by omega)]; exact h110)) (by rw [hK0]; (repeat' split) <;> omega) (by simp only [hM10, hM5, upd2_at]; simp; omega) (by simp only [hM10, hM5, upd2_at]; simp; rw [htS]) (by simp only [hM10, hM5, upd2_at]; simp) hW (lv_sub hl [1] rfl)
            · refine rw_stk (st' := [.int (iN 0)]) rfl ?_
              refine rw_if_eq (tgt := 126) hx hb dX11_step_81 (by decide) (by decide) (fun _ => ?_) (fun c => absurd (by decide) c)
              refine lv_iload_n hx hb dX11_step_126 rfl (lv_at hl 0 rfl) ?_
              refine rw_i2l hx hb dX11_step_127 (by omega) ?_
              refine lv_ldc2 (v := 48) hx hb hown (hts _ (wm_16 _ (List.mem_of_getElem? (i := 21) rfl))) dX11_step_128 ?_
              refine rw_stk (st' := [.long (jN 48), .long (jN a9)]) (by rw [show (48 : Int64) = jN 48 from by decide]) ?_
              refine lv_ldc2 (v := 57) hx hb hown (hts _ (wm_16 _ (List.mem_of_getElem? (i := 22) rfl))) dX11_step_131 ?_
              refine rw_stk (st' := [.long (jN 57), .long (jN 48), .long (jN a9)]) (by rw [show (57 : Int64) = jN 57 from by decide]) ?_
              refine rw_callS hx hb hml hts hown hW ⟨Nat.le_refl 0, Nat.le_refl 0⟩ [.long (jN a9), .long (jN 48), .long (jN 57)] (c_X11_in (l := l) (G := G) (ad := ad) (CA := CA) (nt := nt) a9 48 57 (by first | omega | decide) (by first | omega | decide) (by first | omega | decide) M10) kX11_57 rfl ⟨Nat.le_of_ble_eq_true rfl, Nat.le_of_ble_eq_true rfl⟩ hl.1 rfl (Nat.le_of_ble_eq_true rfl) dX11_step_134 (fun v25 M26 H locs hp27 hW => ?_)
              obtain ⟨a28, rfl, hp27, hp27m⟩ := hp27
              rw [hp27m] at hW
              rcases hp27 with ⟨rfl, hp27⟩ | ⟨rfl, hp27⟩
              · refine rw_stk (st' := [.int (iN 1)]) rfl ?_
                refine rw_if_eq (tgt := 243) hx hb dX11_step_137 (by decide) (by decide) (fun c => absurd c (by decide)) (fun _ => ?_)
                have hC_140 : ∀ N : Nat, ∀ (My : Mem) (H : Heap) (locs : List Loc) (ls : Array Slot), (M 0 9 - My 0 13).toNat < N → (∀ (q : Nat) (j : Int), ¬ (q = 0 ∧ 11 ≤ j ∧ j ≤ 16) → My q j = M q j) → (My 0 14 = s0) → (My 0 11 = 0) → (tokK0 (M 4) (M 0 9) (M 0 13) = 2) → (s0 ≤ My 0 13 ∧ My 0 13 ≤ M 0 9) → (scanF (isK 2) (M 4) (M 0 9) (M 0 9 - My 0 13).toNat (My 0 13) = scanF (isK 2) (M 4) (M 0 9) (M 0 9 - s0).toNat s0) → (0 ≤ My 0 16 ∧ My 0 16 ≤ 99 ∧ ((My 0 13 = s0 ∧ My 0 16 = 0) ∨ (My 0 13 = s0 + 1 ∧ My 0 16 = M 4 s0 - 48 ∧ 0 ≤ My 0 16 ∧ My 0 16 ≤ 9) ∨ (s0 + 2 ≤ My 0 13 ∧ My 0 16 = (M 4 s0 - 48) * 10 + M 4 (s0 + 1) - 48))) → Wo G ad CA nt LyM (wA ad LyM) s My H locs → lv_has ls 2 [(0, .ref (ad 0))] → Wf l 1 25 G ad CA nt LyM (P_X11_step M) p e s m args below meth c H locs (F0 m 140 ls []) := by
                  intro N
                  induction N with
                  | zero => intro My H locs ls hN; exact absurd hN (Nat.not_lt_zero _)
                  | succ N ih140 =>
                    intro My H locs ls hN hf6 h14 h11y hk0 hp2 hscn hv hW hl
                    refine lv_aload_n hx hb dX11_step_140 rfl (lv_at hl 0 rfl) ?_
                    refine lv_aload_n hx hb dX11_step_141 rfl (lv_at hl 0 rfl) ?_
                    refine rw_getI hx hb hts hown hW 0 lm_0 13 13 rfl rfl fX11_73 dX11_step_142 (v := (My 0 13)) rfl ?_
                    refine rw_callV hx hb hml hts hown hW ⟨Nat.le_refl 0, Nat.le_refl 0⟩ [.int (iN (My 0 13))] 0 lm_0 rfl (c_X11_byteAt (l := l) (G := G) (ad := ad) (CA := CA) (nt := nt) (by omega) (My 0 13) (by first | omega | decide) My (by have q := (show ∀ (q : Nat) (j : Int), ¬ (q = 0 ∧ 11 ≤ j ∧ j ≤ 16) → My q j = M q j from (fun q j hq => hf6 q j (by omega))) 0 9 (by omega); omega)) kX11_76 rfl ⟨Nat.le_of_ble_eq_true rfl, Nat.le_of_ble_eq_true rfl⟩ hl.1 rfl (Nat.le_of_ble_eq_true rfl) dX11_step_145 (fun v29 M30 H locs hp31 hW => ?_)
                    obtain ⟨a32, rfl, ha32, hp31⟩ := hp31
                    rw [hp31] at hW
                    refine rw_stk (st' := [.int (iN a32)]) rfl ?_
                    have hfc : ∀ (q : Nat) (j : Int), ¬ (q = 0 ∧ 11 ≤ j ∧ j ≤ 16) → My q j = M q j := (fun q j hq => hf6 q j (by omega))
                    rw [hfc 0 9 (by omega), show My 4 = M 4 from funext fun i => hfc 4 i (by omega)] at ha32
                    have hrg : -4 ≤ a32 ∧ a32 ≤ 255 := by rw [ha32]; split; have := hbt (My 0 13); omega; omega
                    refine rw_i2l hx hb dX11_step_148 (by omega) ?_
                    refine lv_ldc2 (v := 48) hx hb hown (hts _ (wm_16 _ (List.mem_of_getElem? (i := 21) rfl))) dX11_step_149 ?_
                    refine rw_stk (st' := [.long (jN 48), .long (jN a32)]) (by rw [show (48 : Int64) = jN 48 from by decide]) ?_
                    refine lv_ldc2 (v := 57) hx hb hown (hts _ (wm_16 _ (List.mem_of_getElem? (i := 22) rfl))) dX11_step_152 ?_
                    refine rw_stk (st' := [.long (jN 57), .long (jN 48), .long (jN a32)]) (by rw [show (57 : Int64) = jN 57 from by decide]) ?_
                    refine rw_callS hx hb hml hts hown hW ⟨Nat.le_refl 0, Nat.le_refl 0⟩ [.long (jN a32), .long (jN 48), .long (jN 57)] (c_X11_in (l := l) (G := G) (ad := ad) (CA := CA) (nt := nt) a32 48 57 (by first | omega | decide) (by first | omega | decide) (by first | omega | decide) My) kX11_57 rfl ⟨Nat.le_of_ble_eq_true rfl, Nat.le_of_ble_eq_true rfl⟩ hl.1 rfl (Nat.le_of_ble_eq_true rfl) dX11_step_155 (fun v33 M34 H locs hp35 hW => ?_)
                    obtain ⟨a36, rfl, hp35, hp35m⟩ := hp35
                    rw [hp35m] at hW
                    rcases hp35 with ⟨rfl, hp35⟩ | ⟨rfl, hp35⟩
                    · refine rw_stk (st' := [.int (iN 1)]) rfl ?_
                      refine rw_if_eq (tgt := 217) hx hb dX11_step_158 (by decide) (by decide) (fun c => absurd c (by decide)) (fun _ => ?_)
                      have hlt : My 0 13 < M 0 9 := by by_cases z : My 0 13 < M 0 9; exact z; rw [if_neg z] at ha32; omega
                      rw [if_pos hlt] at ha32
                      have hisk : isK 2 (M 4 (My 0 13)) = true := by rw [isK_iff, ← ha32]; unfold kindF; (repeat' split) <;> omega
                      have hvA : My 0 13 = s0 → M 4 s0 = a32 := fun z => by rw [ha32, z]
                      have hvB : My 0 13 = s0 + 1 → M 4 (s0 + 1) = a32 := fun z => by rw [ha32, z]
                      have hvC : (My 0 13 = s0 ∧ M 4 s0 = a32) ∨ (My 0 13 = s0 + 1 ∧ M 4 (s0 + 1) = a32) ∨ (My 0 13 ≠ s0 ∧ My 0 13 ≠ s0 + 1) := by by_cases z : My 0 13 = s0; exact Or.inl ⟨z, hvA z⟩; by_cases z2 : My 0 13 = s0 + 1; exact Or.inr (Or.inl ⟨z2, hvB z2⟩); exact Or.inr (Or.inr ⟨z, z2⟩)
                      refine lv_aload_n hx hb dX11_step_161 rfl (lv_at hl 0 rfl) ?_
                      refine lv_aload_n hx hb dX11_step_162 rfl (lv_at hl 0 rfl) ?_
                      refine rw_getI hx hb hts hown hW 0 lm_0 13 13 rfl rfl fX11_73 dX11_step_163 (v := (My 0 13)) rfl ?_
                      refine lv_aload_n hx hb dX11_step_166 rfl (lv_at hl 0 rfl) ?_
                      refine rw_getI hx hb hts hown hW 0 lm_0 14 14 rfl rfl fX11_64 dX11_step_167 (v := (My 0 14)) rfl ?_
                      refine rw_isub hx hb dX11_step_170 ?_
                      refine rw_iconst hx hb dX11_step_171 ?_
                      refine rw_icmp_ge (tgt := 197) hx hb dX11_step_172 (by decide) (by omega) (by decide) (fun c_172 => ?_) (fun c_172 => ?_)
                      · refine lv_aload_n hx hb dX11_step_197 rfl (lv_at hl 0 rfl) ?_
                        refine rw_getI hx hb hts hown hW 0 lm_0 16 16 rfl rfl fX11_80 dX11_step_198 (v := (My 0 16)) rfl ?_
                        refine rw_putI hx hb hts hown hW 0 lm_0 16 16 rfl rfl qX11_80 (v := (My 0 16)) dX11_step_201 (fun H locs hW => ?_)
                        obtain ⟨M37, hM37⟩ : ∃ z, z = upd2 My 0 16 (My 0 16) := ⟨_, rfl⟩
                        rw [← hM37] at hW
                        refine lv_aload_n hx hb dX11_step_204 rfl (lv_at hl 0 rfl) ?_
                        refine lv_dup hx hb dX11_step_205 rfl ?_
                        refine rw_getI hx hb hts hown hW 0 lm_0 13 13 rfl rfl fX11_73 dX11_step_206 (v := (My 0 13)) (by rw [hM37, upd2_ne2 (by decide)]) ?_
                        refine rw_iconst hx hb dX11_step_209 ?_
                        refine rw_iadd hx hb dX11_step_210 ?_
                        refine rw_putI hx hb hts hown hW 0 lm_0 13 13 rfl rfl qX11_73 (v := (My 0 13) + 1) dX11_step_211 (fun H locs hW => ?_)
                        obtain ⟨M38, hM38⟩ : ∃ z, z = upd2 M37 0 13 ((My 0 13) + 1) := ⟨_, rfl⟩
                        rw [← hM38] at hW
                        refine lv_goto (tgt := 140) hx hb dX11_step_214 (by decide) ?_
                        exact ih140 M38 H locs ls (by simp only [hM37, hM38, upd2_at]; simp; omega) (fun q j hq => by rw [hM38, upd2_at, if_neg (by omega), hM37, upd2_at, if_neg (by omega)]; exact hf6 q j (by omega)) (by simp only [hM38, hM37, upd2_at]; simp; omega) (by simp only [hM38, hM37, upd2_at]; simp; first | exact h11y | (rw [hfr 0 11 (by omega)]; exact h110)) hk0 (by simp only [hM38, hM37, upd2_at]; simp; omega) (by simp only [hM38, hM37, upd2_at]; simp; rw [← hscn]; exact (scanF_on (by omega) hisk).symm) (by simp only [hM38, hM37, upd2_at]; simp; omega) hW (lv_sub hl [0] rfl)
                      · refine rw_bipush hx hb dX11_step_175 (by decide) ?_
                        refine lv_aload_n hx hb dX11_step_177 rfl (lv_at hl 0 rfl) ?_
                        refine rw_getI hx hb hts hown hW 0 lm_0 16 16 rfl rfl fX11_80 dX11_step_178 (v := (My 0 16)) rfl ?_
                        refine rw_imul hx hb dX11_step_181 ?_
                        refine lv_aload_n hx hb dX11_step_182 rfl (lv_at hl 0 rfl) ?_
                        refine lv_aload_n hx hb dX11_step_183 rfl (lv_at hl 0 rfl) ?_
                        refine rw_getI hx hb hts hown hW 0 lm_0 13 13 rfl rfl fX11_73 dX11_step_184 (v := (My 0 13)) rfl ?_
                        refine rw_callV hx hb hml hts hown hW ⟨Nat.le_refl 0, Nat.le_refl 0⟩ [.int (iN (My 0 13))] 0 lm_0 rfl (c_X11_byteAt (l := l) (G := G) (ad := ad) (CA := CA) (nt := nt) (by omega) (My 0 13) (by first | omega | decide) My (by have q := (show ∀ (q : Nat) (j : Int), ¬ (q = 0 ∧ 11 ≤ j ∧ j ≤ 16) → My q j = M q j from (fun q j hq => hf6 q j (by omega))) 0 9 (by omega); omega)) kX11_76 rfl ⟨Nat.le_of_ble_eq_true rfl, Nat.le_of_ble_eq_true rfl⟩ hl.1 rfl (Nat.le_of_ble_eq_true rfl) dX11_step_187 (fun v39 M40 H locs hp41 hW => ?_)
                        obtain ⟨a42, rfl, ha42, hp41⟩ := hp41
                        rw [hp41] at hW
                        refine rw_stk (st' := [.int (iN a42), .int (iN (10 * (My 0 16))), .ref (ad 0)]) rfl ?_
                        have hfc : ∀ (q : Nat) (j : Int), ¬ (q = 0 ∧ 11 ≤ j ∧ j ≤ 16) → My q j = M q j := (fun q j hq => hf6 q j (by omega))
                        rw [hfc 0 9 (by omega), show My 4 = M 4 from funext fun i => hfc 4 i (by omega)] at ha42
                        have hrg : -4 ≤ a42 ∧ a42 ≤ 255 := by rw [ha42]; split; have := hbt (My 0 13); omega; omega
                        refine rw_iadd hx hb dX11_step_190 ?_
                        refine rw_bipush hx hb dX11_step_191 (by decide) ?_
                        refine rw_isub hx hb dX11_step_193 ?_
                        refine lv_goto (tgt := 201) hx hb dX11_step_194 (by decide) ?_
                        refine rw_putI hx hb hts hown hW 0 lm_0 16 16 rfl rfl qX11_80 (v := ((10 * (My 0 16)) + a42) - 48) dX11_step_201 (fun H locs hW => ?_)
                        obtain ⟨M43, hM43⟩ : ∃ z, z = upd2 My 0 16 (((10 * (My 0 16)) + a42) - 48) := ⟨_, rfl⟩
                        rw [← hM43] at hW
                        refine lv_aload_n hx hb dX11_step_204 rfl (lv_at hl 0 rfl) ?_
                        refine lv_dup hx hb dX11_step_205 rfl ?_
                        refine rw_getI hx hb hts hown hW 0 lm_0 13 13 rfl rfl fX11_73 dX11_step_206 (v := (My 0 13)) (by rw [hM43, upd2_ne2 (by decide)]) ?_
                        refine rw_iconst hx hb dX11_step_209 ?_
                        refine rw_iadd hx hb dX11_step_210 ?_
                        refine rw_putI hx hb hts hown hW 0 lm_0 13 13 rfl rfl qX11_73 (v := (My 0 13) + 1) dX11_step_211 (fun H locs hW => ?_)
                        obtain ⟨M44, hM44⟩ : ∃ z, z = upd2 M43 0 13 ((My 0 13) + 1) := ⟨_, rfl⟩
                        rw [← hM44] at hW
                        refine lv_goto (tgt := 140) hx hb dX11_step_214 (by decide) ?_
                        exact ih140 M44 H locs ls (by simp only [hM43, hM44, upd2_at]; simp; omega) (fun q j hq => by rw [hM44, upd2_at, if_neg (by omega), hM43, upd2_at, if_neg (by omega)]; exact hf6 q j (by omega)) (by simp only [hM44, hM43, upd2_at]; simp; omega) (by simp only [hM44, hM43, upd2_at]; simp; first | exact h11y | (rw [hfr 0 11 (by omega)]; exact h110)) hk0 (by simp only [hM44, hM43, upd2_at]; simp; omega) (by simp only [hM44, hM43, upd2_at]; simp; rw [← hscn]; exact (scanF_on (by omega) hisk).symm) (by simp only [hM44, hM43, upd2_at]; simp; omega) hW (lv_sub hl [0] rfl)
                    · refine rw_stk (st' := [.int (iN 0)]) rfl ?_
                      refine rw_if_eq (tgt := 217) hx hb dX11_step_158 (by decide) (by decide) (fun _ => ?_) (fun c => absurd (by decide) c)
                      have hgt : s0 < My 0 13 := by
                        by_cases z : My 0 13 = s0
                        · exfalso
                          have q := tokK0_2 hn13.1 hn13.2 hk0
                          rw [← hs0] at q
                          rw [if_pos (by omega), z] at ha32
                          have q2 := kindF_2 q.2
                          omega
                        · omega
                      have hN : My 0 13 = tokN (M 4) (M 0 9) (M 0 13) := by
                        unfold tokN; rw [← hs0, hk0]; rw [if_neg (by decide), if_pos rfl]; rw [← hscn, scanF_off]; rintro ⟨z1, z2⟩; rw [if_pos z1] at ha32; rw [isK_iff, ← ha32] at z2; unfold kindF at z2; revert z2; (repeat' split) <;> omega
                      refine lv_aload_n hx hb dX11_step_217 rfl (lv_at hl 0 rfl) ?_
                      refine rw_iconst hx hb dX11_step_218 ?_
                      refine rw_putI hx hb hts hown hW 0 lm_0 15 15 rfl rfl qX11_70 (v := 2) dX11_step_219 (fun H locs hW => ?_)
                      obtain ⟨M45, hM45⟩ : ∃ z, z = upd2 My 0 15 2 := ⟨_, rfl⟩
                      rw [← hM45] at hW
                      refine lv_aload_n hx hb dX11_step_222 rfl (lv_at hl 0 rfl) ?_
                      refine rw_getI hx hb hts hown hW 0 lm_0 13 13 rfl rfl fX11_73 dX11_step_223 (v := (My 0 13)) (by rw [hM45, upd2_ne2 (by decide)]) ?_
                      refine lv_aload_n hx hb dX11_step_226 rfl (lv_at hl 0 rfl) ?_
                      refine rw_getI hx hb hts hown hW 0 lm_0 14 14 rfl rfl fX11_64 dX11_step_227 (v := (My 0 14)) (by rw [hM45, upd2_ne2 (by decide)]) ?_
                      refine rw_isub hx hb dX11_step_230 ?_
                      refine rw_iconst hx hb dX11_step_231 ?_
                      refine rw_icmp_le (tgt := 269) hx hb dX11_step_232 (by decide) (by omega) (by decide) (fun c_232 => ?_) (fun c_232 => ?_)
                      · refine rw_vret hx hb hr hlocks hW dX11_step_269 (⟨rfl, ?_⟩)
                        have hk0f : tokK0 (M 4) (M 0 9) (M 0 13) = 2 := hk0
                        have hNf := hN
                        have hKf : tokK (M 4) (M 0 9) (M 0 13) = 2 := by unfold tokK; rw [hk0f, ← hNf, ← hs0]; rw [if_neg (by omega)]
                        refine Or.inr ⟨h110, ?_, ?_, ?_, ?_, ?_, ?_, ?_, ?_⟩
                        · rw [← hs0]; simp only [hM45, upd2_at]; simp; try exact h14
                        · rw [← hNf]; simp only [hM45, upd2_at]; simp; try omega
                        · rw [hKf]; intro z; refine ⟨?_, ?_⟩ <;> (simp only [hM45, upd2_at]; simp; try first | exact h11y | (rw [hfr 0 11 (by omega)]; exact h110))
                        · rw [hKf]; intro z; exact absurd z (by decide)
                        · rw [hKf]; intro z; simp only [hM45, upd2_at]; simp; unfold tokV; rw [← hNf, ← hs0]; exact tokV_two hv (by omega) hsr.1 (by omega)
                        · simp only [hM45, upd2_at]; simp
                        · simp only [hM45, upd2_at]; simp; try omega
                        · intro q j hq; rw [hM45, upd2_at, if_neg (by omega)]; exact hf6 q j (by omega)
                      · refine lv_aload_n hx hb dX11_step_235 rfl (lv_at hl 0 rfl) ?_
                        refine rw_iconst hx hb dX11_step_236 ?_
                        refine rw_callV hx hb hml hts hown hW ⟨Nat.le_refl 0, Nat.le_refl 0⟩ [.int (iN 1)] 0 lm_0 rfl (c_X11_fails (l := l) (G := G) (ad := ad) (CA := CA) (nt := nt) (by omega) 1 M45 (by simp only [hM45, upd2_at]; simp; omega)) kX11_91 rfl ⟨Nat.le_of_ble_eq_true rfl, Nat.le_of_ble_eq_true rfl⟩ hl.1 rfl (Nat.le_of_ble_eq_true rfl) dX11_step_237 (fun v46 M47 H locs hp48 hW => ?_)
                        obtain ⟨rfl, hM47⟩ := hp48
                        refine rw_stk (st' := []) rfl ?_
                        refine lv_goto (tgt := 269) hx hb dX11_step_240 (by decide) ?_
                        refine rw_vret hx hb hr hlocks hW dX11_step_269 (⟨rfl, ?_⟩)
                        rcases hM47 with ⟨w0, w1⟩ | ⟨w0, w1⟩
                        rotate_left
                        · exfalso; apply w0; simp only [hM45, upd2_at]; simp; first | exact h11y | (rw [hfr 0 11 (by omega)]; exact h110)
                        have hk0f : tokK0 (M 4) (M 0 9) (M 0 13) = 2 := hk0
                        have hNf := hN
                        have hKf : tokK (M 4) (M 0 9) (M 0 13) = 4 := by unfold tokK; rw [hk0f, ← hNf, ← hs0]; rw [if_pos ⟨rfl, by omega⟩]
                        refine Or.inr ⟨h110, ?_, ?_, ?_, ?_, ?_, ?_, ?_, ?_⟩
                        · rw [← hs0]; simp only [w1, hM45, upd2_at]; simp; try exact h14
                        · rw [← hNf]; simp only [w1, hM45, upd2_at]; simp; try omega
                        · rw [hKf]; intro z; exact absurd rfl z
                        · rw [hKf]; intro z; refine ⟨?_, ?_⟩ <;> (simp only [w1, hM45, upd2_at]; simp; try (rw [← hs0]; exact h14))
                        · rw [hKf]; intro z; exact absurd z (by decide)
                        · simp only [w1, hM45, upd2_at]; simp
                        · simp only [w1, hM45, upd2_at]; simp; try omega
                        · intro q j hq; rw [w1, upd2_at, if_neg (by omega), upd2_at, if_neg (by omega), hM45, upd2_at, if_neg (by omega)]; exact hf6 q j (by omega)
                exact hC_140 _ M10 H locs ls (Nat.lt_succ_self _) (fun q j hq => by rw [hM10, upd2_at, if_neg (by omega), hM5, upd2_at, if_neg (by omega)]; exact hfr q j (by omega)) (by simp only [hM10, hM5, upd2_at]; simp; omega) (by simp only [hM10, hM5, upd2_at]; simp; first | exact h11y | (rw [hfr 0 11 (by omega)]; exact h110)) (by rw [hK0]; (repeat' split) <;> omega) (by simp only [hM10, hM5, upd2_at]; simp; omega) (by simp only [hM10, hM5, upd2_at]; simp; rw [htS]) (by simp only [hM10, hM5, upd2_at]; simp; omega) hW (lv_sub hl [1] rfl)
              · refine rw_stk (st' := [.int (iN 0)]) rfl ?_
                refine rw_if_eq (tgt := 243) hx hb dX11_step_137 (by decide) (by decide) (fun _ => ?_) (fun c => absurd (by decide) c)
                refine lv_aload_n hx hb dX11_step_243 rfl (lv_at hl 1 rfl) ?_
                refine rw_iconst hx hb dX11_step_244 ?_
                refine rw_putI hx hb hts hown hW 0 lm_0 15 15 rfl rfl qX11_70 (v := 3) dX11_step_245 (fun H locs hW => ?_)
                obtain ⟨M49, hM49⟩ : ∃ z, z = upd2 M10 0 15 3 := ⟨_, rfl⟩
                rw [← hM49] at hW
                refine lv_aload_n hx hb dX11_step_248 rfl (lv_at hl 1 rfl) ?_
                refine lv_dup hx hb dX11_step_249 rfl ?_
                refine rw_getI hx hb hts hown hW 0 lm_0 13 13 rfl rfl fX11_73 dX11_step_250 (v := (Mx 0 13)) (by rw [hM49, upd2_ne2 (by decide), hM10, upd2_ne2 (by decide), hM5, upd2_ne2 (by decide)]) ?_
                refine rw_iconst hx hb dX11_step_253 ?_
                refine rw_iadd hx hb dX11_step_254 ?_
                refine rw_putI hx hb hts hown hW 0 lm_0 13 13 rfl rfl qX11_73 (v := (Mx 0 13) + 1) dX11_step_255 (fun H locs hW => ?_)
                obtain ⟨M50, hM50⟩ : ∃ z, z = upd2 M49 0 13 ((Mx 0 13) + 1) := ⟨_, rfl⟩
                rw [← hM50] at hW
                refine lv_iload_n hx hb dX11_step_258 rfl (lv_at hl 0 rfl) ?_
                refine rw_bipush hx hb dX11_step_259 (by decide) ?_
                refine rw_icmp_eq (tgt := 269) hx hb dX11_step_261 (by decide) (by omega) (by decide) (fun c_261 => ?_) (fun c_261 => ?_)
                · refine rw_vret hx hb hr hlocks hW dX11_step_269 (⟨rfl, ?_⟩)
                  have hk0f : tokK0 (M 4) (M 0 9) (M 0 13) = 3 := (by rw [hK0]; (repeat' split) <;> omega)
                  have hNf : s0 + 1 = tokN (M 4) (M 0 9) (M 0 13) := by unfold tokN; rw [hk0f, ← hs0]; rfl
                  have hKf : tokK (M 4) (M 0 9) (M 0 13) = 3 := by unfold tokK; rw [hk0f, if_neg (by omega)]
                  refine Or.inr ⟨h110, ?_, ?_, ?_, ?_, ?_, ?_, ?_, ?_⟩
                  · rw [← hs0]; simp only [hM50, hM49, hM10, hM5, upd2_at]; simp; try exact htS
                  · rw [← hNf]; simp only [hM50, hM49, hM10, hM5, upd2_at]; simp; try omega
                  · rw [hKf]; intro z; refine ⟨?_, ?_⟩ <;> (simp only [hM50, hM49, hM10, hM5, upd2_at]; simp; try first | exact h11y | (rw [hfr 0 11 (by omega)]; exact h110))
                  · rw [hKf]; intro z; exact absurd z (by decide)
                  · rw [hKf]; intro z; exact absurd z (by decide)
                  · simp only [hM50, hM49, hM10, hM5, upd2_at]; simp
                  · simp only [hM50, hM49, hM10, hM5, upd2_at]; simp; try omega
                  · intro q j hq; rw [hM50, upd2_at, if_neg (by omega), hM49, upd2_at, if_neg (by omega), hM10, upd2_at, if_neg (by omega), hM5, upd2_at, if_neg (by omega)]; exact hfr q j (by omega)
                · refine lv_aload_n hx hb dX11_step_264 rfl (lv_at hl 1 rfl) ?_
                  refine rw_iconst hx hb dX11_step_265 ?_
                  refine rw_callV hx hb hml hts hown hW ⟨Nat.le_refl 0, Nat.le_refl 0⟩ [.int (iN 1)] 0 lm_0 rfl (c_X11_fails (l := l) (G := G) (ad := ad) (CA := CA) (nt := nt) (by omega) 1 M50 (by simp only [hM50, hM49, hM10, hM5, upd2_at]; simp; rw [hfr 0 11 (by omega)]; omega)) kX11_91 rfl ⟨Nat.le_of_ble_eq_true rfl, Nat.le_of_ble_eq_true rfl⟩ hl.1 rfl (Nat.le_of_ble_eq_true rfl) dX11_step_266 (fun v51 M52 H locs hp53 hW => ?_)
                  obtain ⟨rfl, hM52⟩ := hp53
                  refine rw_stk (st' := []) rfl ?_
                  refine rw_vret hx hb hr hlocks hW dX11_step_269 (⟨rfl, ?_⟩)
                  rcases hM52 with ⟨w0, w1⟩ | ⟨w0, w1⟩
                  rotate_left
                  · exfalso; apply w0; simp only [hM50, hM49, hM10, hM5, upd2_at]; simp; first | exact h11y | (rw [hfr 0 11 (by omega)]; exact h110)
                  have hk0f : tokK0 (M 4) (M 0 9) (M 0 13) = 4 := (by rw [hK0]; (repeat' split) <;> omega)
                  have hNf : s0 + 1 = tokN (M 4) (M 0 9) (M 0 13) := by unfold tokN; rw [hk0f, ← hs0]; rfl
                  have hKf : tokK (M 4) (M 0 9) (M 0 13) = 4 := by unfold tokK; rw [hk0f, if_neg (by omega)]
                  refine Or.inr ⟨h110, ?_, ?_, ?_, ?_, ?_, ?_, ?_, ?_⟩
                  · rw [← hs0]; simp only [w1, hM50, hM49, hM10, hM5, upd2_at]; simp; try exact htS
                  · rw [← hNf]; simp only [w1, hM50, hM49, hM10, hM5, upd2_at]; simp; try omega
                  · rw [hKf]; intro z; exact absurd rfl z
                  · rw [hKf]; intro z; refine ⟨?_, ?_⟩ <;> (simp only [w1, hM50, hM49, hM10, hM5, upd2_at]; simp; try (rw [← hs0]; exact htS))
                  · rw [hKf]; intro z; exact absurd z (by decide)
                  · simp only [w1, hM50, hM49, hM10, hM5, upd2_at]; simp
                  · simp only [w1, hM50, hM49, hM10, hM5, upd2_at]; simp; try omega
                  · intro q j hq; rw [w1, upd2_at, if_neg (by omega), upd2_at, if_neg (by omega), hM50, upd2_at, if_neg (by omega), hM49, upd2_at, if_neg (by omega), hM10, upd2_at, if_neg (by omega), hM5, upd2_at, if_neg (by omega)]; exact hfr q j (by omega)
          · refine lv_aload_n hx hb dX11_step_62 rfl (lv_at hl 1 rfl) ?_
            refine rw_iconst hx hb dX11_step_63 ?_
            refine rw_putI hx hb hts hown hW 0 lm_0 15 15 rfl rfl qX11_70 (v := 0) dX11_step_64 (fun H locs hW => ?_)
            obtain ⟨M54, hM54⟩ : ∃ z, z = upd2 M10 0 15 0 := ⟨_, rfl⟩
            rw [← hM54] at hW
            refine lv_goto (tgt := 269) hx hb dX11_step_67 (by decide) ?_
            refine rw_vret hx hb hr hlocks hW dX11_step_269 (⟨rfl, ?_⟩)
            have hk0f : tokK0 (M 4) (M 0 9) (M 0 13) = 0 := (by rw [hK0]; (repeat' split) <;> omega)
            have hNf : s0 = tokN (M 4) (M 0 9) (M 0 13) := by unfold tokN; rw [hk0f, ← hs0]; rfl
            have hKf : tokK (M 4) (M 0 9) (M 0 13) = 0 := by unfold tokK; rw [hk0f, if_neg (by omega)]
            refine Or.inr ⟨h110, ?_, ?_, ?_, ?_, ?_, ?_, ?_, ?_⟩
            · rw [← hs0]; simp only [hM54, hM10, hM5, upd2_at]; simp; try exact htS
            · rw [← hNf]; simp only [hM54, hM10, hM5, upd2_at]; simp; try omega
            · rw [hKf]; intro z; refine ⟨?_, ?_⟩ <;> (simp only [hM54, hM10, hM5, upd2_at]; simp; try first | exact h11y | (rw [hfr 0 11 (by omega)]; exact h110))
            · rw [hKf]; intro z; exact absurd z (by decide)
            · rw [hKf]; intro z; exact absurd z (by decide)
            · simp only [hM54, hM10, hM5, upd2_at]; simp
            · simp only [hM54, hM10, hM5, upd2_at]; simp; try omega
            · intro q j hq; rw [hM54, upd2_at, if_neg (by omega), hM10, upd2_at, if_neg (by omega), hM5, upd2_at, if_neg (by omega)]; exact hfr q j (by omega)
        · have hlt8 : Mx 0 13 < M 0 9 := by by_cases z : Mx 0 13 < M 0 9; exact z; rw [if_neg z] at ha4; omega
          have hb32 : 32 = M 4 (Mx 0 13) := by rw [if_pos hlt8] at ha4; omega
          refine lv_aload_n hx hb dX11_step_21 rfl (lv_at hl 0 rfl) ?_
          refine lv_dup hx hb dX11_step_22 rfl ?_
          refine rw_getI hx hb hts hown hW 0 lm_0 13 13 rfl rfl fX11_73 dX11_step_23 (v := (Mx 0 13)) rfl ?_
          refine rw_iconst hx hb dX11_step_26 ?_
          refine rw_iadd hx hb dX11_step_27 ?_
          refine rw_putI hx hb hts hown hW 0 lm_0 13 13 rfl rfl qX11_73 (v := (Mx 0 13) + 1) dX11_step_28 (fun H locs hW => ?_)
          obtain ⟨M55, hM55⟩ : ∃ z, z = upd2 Mx 0 13 ((Mx 0 13) + 1) := ⟨_, rfl⟩
          rw [← hM55] at hW
          refine lv_goto (tgt := 8) hx hb dX11_step_31 (by decide) ?_
          exact ih8 M55 H locs ls (by simp only [hM55, upd2_at]; simp; omega) (fun q j hq => by rw [hM55, upd2_at, if_neg (by omega)]; exact hfr q j (by omega)) (by simp only [hM55, upd2_at]; simp; omega) (by simp only [hM55, upd2_at]; simp; rw [← hscan]; exact (scanF_on (by omega) (by rw [isB_iff]; exact hb32.symm)).symm) hW (lv_sub hl [0] rfl)
    exact hC_8 _ M H locs ls (Nat.lt_succ_self _) (fun _ _ _ => rfl) (by omega) rfl hW (lv_sub hl [0] rfl)
  · refine rw_vret hx hb hr hlocks hW dX11_step_7 (⟨rfl, ?_⟩)
    exact Or.inl ⟨by omega, rfl⟩
