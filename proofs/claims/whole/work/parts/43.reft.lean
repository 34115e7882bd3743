abbrev P_X11_restThen (pz : Int) (sx : Int) (x : Int) (M : Mem) : Option Value → Mem → Prop := oV (fun MM => sdF (pg MM pz) sx = tireS (sdF (pg M pz) sx) x (pg M pz 44) ∧ (∀ q : Nat, q ≠ 1 → MM q = M q) ∧ ∀ j, (j < pz + 28 + 8 * sx ∨ pz + 36 + 8 * sx ≤ j) → MM 1 j = M 1 j)
set_option maxRecDepth 100000 in
set_option maxHeartbeats 4000000 in
theorem c_X11_restThen {l : Launch} {G : va_G} {ad : Nat → Nat} {CA : Nat → ClassId} {nt : Nat} (hnt : 6 ≤ nt) (pz : Int) (hp : 0 ≤ pz ∧ pz ≤ 188) (sx : Int) (hs : sx = 0 ∨ sx = 1) (x : Int) (M : Mem) (hr1 : 1 ≤ pg M pz 44 ∧ pg M pz 44 ≤ 4) : Mt l yX11_restThen cX11_restThen 6 none 0 0 G ad CA nt LyM [.ref (ad 0), .int (iN pz), .int (iN sx), .int (iN x)] M (P_X11_restThen pz sx x M) := by
  refine Mt.of (by decide) (Nat.le_of_ble_eq_true rfl) (fun p e s m args below meth c hx hb hr hml hts hown hlocks hnm hW ls hl => ?_)
  have hl : lv_has ls 6 [(0, .ref (ad 0)), (1, .int (iN pz)), (2, .int (iN sx)), (3, .int (iN x))] := hl
  have hnt4 : 4 ≤ nt := by omega
  obtain ⟨H, hH⟩ : ∃ z, z = s.heap := ⟨_, rfl⟩
  obtain ⟨locs, hlo⟩ : ∃ z : List Loc, z = [] := ⟨_, rfl⟩
  rw [← hH, ← hlo] at hW ⊢
  rcases hs with rfl | rfl
  · have hr2 : M 1 (pz + 44) + 2 = pg M pz 44 := rfl
    refine lv_iload_n hx hb dX11_restThen_0 rfl (lv_at hl 1 rfl) ?_
    refine rw_bipush hx hb dX11_restThen_1 (by decide) ?_
    refine rw_iadd hx hb dX11_restThen_3 ?_
    refine rw_bipush hx hb dX11_restThen_4 (by decide) ?_
    refine lv_iload_n hx hb dX11_restThen_6 rfl (lv_at hl 2 rfl) ?_
    refine rw_imul hx hb dX11_restThen_7 ?_
    refine rw_stk (st' := [.int (iN 0), .int (iN (pz + 28))]) rfl ?_
    refine rw_iadd hx hb dX11_restThen_8 ?_
    refine lv_istore (lv' := [(4, .int (iN ((pz + 28) + 0))), (0, .ref (ad 0)), (1, .int (iN pz)), (2, .int (iN 0)), (3, .int (iN x))]) hx hb dX11_restThen_9 hl (by decide) rfl (fun ls hl => ?_)
    refine lv_aload_n hx hb dX11_restThen_11 rfl (lv_at hl 1 rfl) ?_
    refine rw_getR hx hb hts hown hW 0 lm_0 0 1 rfl fX11_7 dX11_restThen_12 ?_
    refine lv_iload hx hb dX11_restThen_15 (lv_at hl 0 rfl) ?_
    refine lv_dup2_11 hx hb dX11_restThen_17 rfl rfl ?_
    refine rw_iald hx hb hW hnt4 1 lm_1 (by omega) (by omega) (by decide) dX11_restThen_18 (v := (M 1 ((pz + 28) + 0))) rfl ?_
    refine lv_aload_n hx hb dX11_restThen_19 rfl (lv_at hl 1 rfl) ?_
    refine rw_getR hx hb hts hown hW 0 lm_0 0 1 rfl fX11_7 dX11_restThen_20 ?_
    refine lv_iload hx hb dX11_restThen_23 (lv_at hl 0 rfl) ?_
    refine rw_iconst hx hb dX11_restThen_25 ?_
    refine rw_iadd hx hb dX11_restThen_26 ?_
    refine rw_iald hx hb hW hnt4 1 lm_1 (by omega) (by omega) (by decide) dX11_restThen_27 (v := (M 1 (((pz + 28) + 0) + 1))) rfl ?_
    refine lv_iload_n hx hb dX11_restThen_28 rfl (lv_at hl 4 rfl) ?_
    refine rw_isub hx hb dX11_restThen_29 ?_
    refine rw_iadd hx hb dX11_restThen_30 ?_
    refine rw_iast hx hb hW hnt4 1 lm_1 (v := (M 1 ((pz + 28) + 0)) + ((M 1 (((pz + 28) + 0) + 1)) - x)) (by omega) (by omega) (by decide) dX11_restThen_31 (fun H locs hW => ?_)
    obtain ⟨M1, hM1⟩ : ∃ z, z = upd2 M 1 ((pz + 28) + 0) ((M 1 ((pz + 28) + 0)) + ((M 1 (((pz + 28) + 0) + 1)) - x)) := ⟨_, rfl⟩
    rw [← hM1] at hW
    refine rw_iconst hx hb dX11_restThen_32 ?_
    refine lv_istore (lv' := [(5, .int (iN 1)), (4, .int (iN ((pz + 28) + 0))), (0, .ref (ad 0)), (1, .int (iN pz)), (2, .int (iN 0)), (3, .int (iN x))]) hx hb dX11_restThen_33 hl (by decide) rfl (fun ls hl => ?_)
    refine lv_iload hx hb dX11_restThen_35 (lv_at hl 0 rfl) ?_
    refine rw_iconst hx hb dX11_restThen_37 ?_
    refine rw_icmp_ge (tgt := 69) hx hb dX11_restThen_38 (by decide) (by decide) (by decide) (fun c => absurd c (by decide)) (fun _ => ?_)
    refine lv_aload_n hx hb dX11_restThen_41 rfl (lv_at hl 2 rfl) ?_
    refine rw_getR hx hb hts hown hW 0 lm_0 0 1 rfl fX11_7 dX11_restThen_42 ?_
    refine lv_iload hx hb dX11_restThen_45 (lv_at hl 1 rfl) ?_
    refine lv_iload hx hb dX11_restThen_47 (lv_at hl 0 rfl) ?_
    refine rw_iadd hx hb dX11_restThen_49 ?_
    refine lv_aload_n hx hb dX11_restThen_50 rfl (lv_at hl 2 rfl) ?_
    refine rw_getR hx hb hts hown hW 0 lm_0 0 1 rfl fX11_7 dX11_restThen_51 ?_
    refine lv_iload hx hb dX11_restThen_54 (lv_at hl 1 rfl) ?_
    refine lv_iload hx hb dX11_restThen_56 (lv_at hl 0 rfl) ?_
    refine rw_iadd hx hb dX11_restThen_58 ?_
    refine rw_iconst hx hb dX11_restThen_59 ?_
    refine rw_iadd hx hb dX11_restThen_60 ?_
    refine rw_iald hx hb hW hnt4 1 lm_1 (by omega) (by omega) (by decide) dX11_restThen_61 (v := (M 1 ((((pz + 28) + 0) + 1) + 1))) (by rw [hM1, upd2_ne2 (by omega)]) ?_
    refine rw_iast hx hb hW hnt4 1 lm_1 (v := (M 1 ((((pz + 28) + 0) + 1) + 1))) (by omega) (by omega) (by decide) dX11_restThen_62 (fun H locs hW => ?_)
    obtain ⟨M2, hM2⟩ : ∃ z, z = upd2 M1 1 (((pz + 28) + 0) + 1) (M 1 ((((pz + 28) + 0) + 1) + 1)) := ⟨_, rfl⟩
    rw [← hM2] at hW
    refine rw_iinc (lv' := [(5, .int (iN 2)), (4, .int (iN ((pz + 28) + 0))), (0, .ref (ad 0)), (1, .int (iN pz)), (2, .int (iN 0)), (3, .int (iN x))]) hx hb dX11_restThen_63 hl (k := 0) rfl (by decide) rfl (fun ls hl => ?_)
    refine lv_goto (tgt := 35) hx hb dX11_restThen_66 (by decide) ?_
    refine lv_iload hx hb dX11_restThen_35 (lv_at hl 0 rfl) ?_
    refine rw_iconst hx hb dX11_restThen_37 ?_
    refine rw_icmp_ge (tgt := 69) hx hb dX11_restThen_38 (by decide) (by decide) (by decide) (fun c => absurd c (by decide)) (fun _ => ?_)
    refine lv_aload_n hx hb dX11_restThen_41 rfl (lv_at hl 2 rfl) ?_
    refine rw_getR hx hb hts hown hW 0 lm_0 0 1 rfl fX11_7 dX11_restThen_42 ?_
    refine lv_iload hx hb dX11_restThen_45 (lv_at hl 1 rfl) ?_
    refine lv_iload hx hb dX11_restThen_47 (lv_at hl 0 rfl) ?_
    refine rw_iadd hx hb dX11_restThen_49 ?_
    refine lv_aload_n hx hb dX11_restThen_50 rfl (lv_at hl 2 rfl) ?_
    refine rw_getR hx hb hts hown hW 0 lm_0 0 1 rfl fX11_7 dX11_restThen_51 ?_
    refine lv_iload hx hb dX11_restThen_54 (lv_at hl 1 rfl) ?_
    refine lv_iload hx hb dX11_restThen_56 (lv_at hl 0 rfl) ?_
    refine rw_iadd hx hb dX11_restThen_58 ?_
    refine rw_iconst hx hb dX11_restThen_59 ?_
    refine rw_iadd hx hb dX11_restThen_60 ?_
    refine rw_iald hx hb hW hnt4 1 lm_1 (by omega) (by omega) (by decide) dX11_restThen_61 (v := (M 1 ((((pz + 28) + 0) + 2) + 1))) (by rw [hM2, upd2_ne2 (by omega), hM1, upd2_ne2 (by omega)]) ?_
    refine rw_iast hx hb hW hnt4 1 lm_1 (v := (M 1 ((((pz + 28) + 0) + 2) + 1))) (by omega) (by omega) (by decide) dX11_restThen_62 (fun H locs hW => ?_)
    obtain ⟨M3, hM3⟩ : ∃ z, z = upd2 M2 1 (((pz + 28) + 0) + 2) (M 1 ((((pz + 28) + 0) + 2) + 1)) := ⟨_, rfl⟩
    rw [← hM3] at hW
    refine rw_iinc (lv' := [(5, .int (iN 3)), (4, .int (iN ((pz + 28) + 0))), (0, .ref (ad 0)), (1, .int (iN pz)), (2, .int (iN 0)), (3, .int (iN x))]) hx hb dX11_restThen_63 hl (k := 0) rfl (by decide) rfl (fun ls hl => ?_)
    refine lv_goto (tgt := 35) hx hb dX11_restThen_66 (by decide) ?_
    refine lv_iload hx hb dX11_restThen_35 (lv_at hl 0 rfl) ?_
    refine rw_iconst hx hb dX11_restThen_37 ?_
    refine rw_icmp_ge (tgt := 69) hx hb dX11_restThen_38 (by decide) (by decide) (by decide) (fun c => absurd c (by decide)) (fun _ => ?_)
    refine lv_aload_n hx hb dX11_restThen_41 rfl (lv_at hl 2 rfl) ?_
    refine rw_getR hx hb hts hown hW 0 lm_0 0 1 rfl fX11_7 dX11_restThen_42 ?_
    refine lv_iload hx hb dX11_restThen_45 (lv_at hl 1 rfl) ?_
    refine lv_iload hx hb dX11_restThen_47 (lv_at hl 0 rfl) ?_
    refine rw_iadd hx hb dX11_restThen_49 ?_
    refine lv_aload_n hx hb dX11_restThen_50 rfl (lv_at hl 2 rfl) ?_
    refine rw_getR hx hb hts hown hW 0 lm_0 0 1 rfl fX11_7 dX11_restThen_51 ?_
    refine lv_iload hx hb dX11_restThen_54 (lv_at hl 1 rfl) ?_
    refine lv_iload hx hb dX11_restThen_56 (lv_at hl 0 rfl) ?_
    refine rw_iadd hx hb dX11_restThen_58 ?_
    refine rw_iconst hx hb dX11_restThen_59 ?_
    refine rw_iadd hx hb dX11_restThen_60 ?_
    refine rw_iald hx hb hW hnt4 1 lm_1 (by omega) (by omega) (by decide) dX11_restThen_61 (v := (M 1 ((((pz + 28) + 0) + 3) + 1))) (by rw [hM3, upd2_ne2 (by omega), hM2, upd2_ne2 (by omega), hM1, upd2_ne2 (by omega)]) ?_
    refine rw_iast hx hb hW hnt4 1 lm_1 (v := (M 1 ((((pz + 28) + 0) + 3) + 1))) (by omega) (by omega) (by decide) dX11_restThen_62 (fun H locs hW => ?_)
    obtain ⟨M4, hM4⟩ : ∃ z, z = upd2 M3 1 (((pz + 28) + 0) + 3) (M 1 ((((pz + 28) + 0) + 3) + 1)) := ⟨_, rfl⟩
    rw [← hM4] at hW
    refine rw_iinc (lv' := [(5, .int (iN 4)), (4, .int (iN ((pz + 28) + 0))), (0, .ref (ad 0)), (1, .int (iN pz)), (2, .int (iN 0)), (3, .int (iN x))]) hx hb dX11_restThen_63 hl (k := 0) rfl (by decide) rfl (fun ls hl => ?_)
    refine lv_goto (tgt := 35) hx hb dX11_restThen_66 (by decide) ?_
    refine lv_iload hx hb dX11_restThen_35 (lv_at hl 0 rfl) ?_
    refine rw_iconst hx hb dX11_restThen_37 ?_
    refine rw_icmp_ge (tgt := 69) hx hb dX11_restThen_38 (by decide) (by decide) (by decide) (fun _ => ?_) (fun c => absurd (by decide) c)
    refine lv_aload_n hx hb dX11_restThen_69 rfl (lv_at hl 2 rfl) ?_
    refine rw_getR hx hb hts hown hW 0 lm_0 0 1 rfl fX11_7 dX11_restThen_70 ?_
    refine lv_iload hx hb dX11_restThen_73 (lv_at hl 1 rfl) ?_
    refine rw_iconst hx hb dX11_restThen_75 ?_
    refine rw_iadd hx hb dX11_restThen_76 ?_
    refine rw_iconst hx hb dX11_restThen_77 ?_
    refine rw_iast hx hb hW hnt4 1 lm_1 (v := 0) (by omega) (by omega) (by decide) dX11_restThen_78 (fun H locs hW => ?_)
    obtain ⟨M5, hM5⟩ : ∃ z, z = upd2 M4 1 (((pz + 28) + 0) + 4) 0 := ⟨_, rfl⟩
    rw [← hM5] at hW
    refine lv_aload_n hx hb dX11_restThen_79 rfl (lv_at hl 2 rfl) ?_
    refine rw_getR hx hb hts hown hW 0 lm_0 0 1 rfl fX11_7 dX11_restThen_80 ?_
    refine lv_iload hx hb dX11_restThen_83 (lv_at hl 1 rfl) ?_
    refine lv_aload_n hx hb dX11_restThen_85 rfl (lv_at hl 2 rfl) ?_
    refine rw_getR hx hb hts hown hW 0 lm_0 0 1 rfl fX11_7 dX11_restThen_86 ?_
    refine lv_iload_n hx hb dX11_restThen_89 rfl (lv_at hl 3 rfl) ?_
    refine rw_bipush hx hb dX11_restThen_90 (by decide) ?_
    refine rw_iadd hx hb dX11_restThen_92 ?_
    refine rw_iald hx hb hW hnt4 1 lm_1 (by omega) (by omega) (by decide) dX11_restThen_93 (v := (M 1 (pz + 44))) (by rw [hM5, upd2_ne2 (by omega), hM4, upd2_ne2 (by omega), hM3, upd2_ne2 (by omega), hM2, upd2_ne2 (by omega), hM1, upd2_ne2 (by omega)]) ?_
    refine rw_iadd hx hb dX11_restThen_94 ?_
    refine rw_iconst hx hb dX11_restThen_95 ?_
    refine rw_iadd hx hb dX11_restThen_96 ?_
    refine lv_dup2_11 hx hb dX11_restThen_97 rfl rfl ?_
    refine rw_iald hx hb hW hnt4 1 lm_1 (by omega) (by omega) (by decide) dX11_restThen_98 (v := (M5 1 ((((pz + 28) + 0) + (M 1 (pz + 44))) + 2))) rfl ?_
    refine lv_iload_n hx hb dX11_restThen_99 rfl (lv_at hl 5 rfl) ?_
    refine rw_iadd hx hb dX11_restThen_100 ?_
    refine rw_iast hx hb hW hnt4 1 lm_1 (v := (M5 1 ((((pz + 28) + 0) + (M 1 (pz + 44))) + 2)) + x) (by omega) (by omega) (by decide) dX11_restThen_101 (fun H locs hW => ?_)
    obtain ⟨M6, hM6⟩ : ∃ z, z = upd2 M5 1 ((((pz + 28) + 0) + (M 1 (pz + 44))) + 2) ((M5 1 ((((pz + 28) + 0) + (M 1 (pz + 44))) + 2)) + x) := ⟨_, rfl⟩
    rw [← hM6] at hW
    refine rw_vret hx hb hr hlocks hW dX11_restThen_102 (⟨rfl, ?_⟩)
    exact rest_rows (b := pz + 28 + 0) (by decide) hp.1 (by omega) hr1 hM1 hM2 hM3 hM4 hM5 hM6 (by omega) (by omega) (by omega) (by omega) (by omega) (by rw [← hr2]; omega) (by rw [Int.add_sub_assoc]) (congrArg (M 1) (by omega)) (congrArg (M 1) (by omega)) (congrArg (M 1) (by omega)) rfl
  · have hr2 : M 1 (pz + 44) + 2 = pg M pz 44 := rfl
    refine lv_iload_n hx hb dX11_restThen_0 rfl (lv_at hl 1 rfl) ?_
    refine rw_bipush hx hb dX11_restThen_1 (by decide) ?_
    refine rw_iadd hx hb dX11_restThen_3 ?_
    refine rw_bipush hx hb dX11_restThen_4 (by decide) ?_
    refine lv_iload_n hx hb dX11_restThen_6 rfl (lv_at hl 2 rfl) ?_
    refine rw_imul hx hb dX11_restThen_7 ?_
    refine rw_stk (st' := [.int (iN 8), .int (iN (pz + 28))]) rfl ?_
    refine rw_iadd hx hb dX11_restThen_8 ?_
    refine lv_istore (lv' := [(4, .int (iN ((pz + 28) + 8))), (0, .ref (ad 0)), (1, .int (iN pz)), (2, .int (iN 1)), (3, .int (iN x))]) hx hb dX11_restThen_9 hl (by decide) rfl (fun ls hl => ?_)
    refine lv_aload_n hx hb dX11_restThen_11 rfl (lv_at hl 1 rfl) ?_
    refine rw_getR hx hb hts hown hW 0 lm_0 0 1 rfl fX11_7 dX11_restThen_12 ?_
    refine lv_iload hx hb dX11_restThen_15 (lv_at hl 0 rfl) ?_
    refine lv_dup2_11 hx hb dX11_restThen_17 rfl rfl ?_
    refine rw_iald hx hb hW hnt4 1 lm_1 (by omega) (by omega) (by decide) dX11_restThen_18 (v := (M 1 ((pz + 28) + 8))) rfl ?_
    refine lv_aload_n hx hb dX11_restThen_19 rfl (lv_at hl 1 rfl) ?_
    refine rw_getR hx hb hts hown hW 0 lm_0 0 1 rfl fX11_7 dX11_restThen_20 ?_
    refine lv_iload hx hb dX11_restThen_23 (lv_at hl 0 rfl) ?_
    refine rw_iconst hx hb dX11_restThen_25 ?_
    refine rw_iadd hx hb dX11_restThen_26 ?_
    refine rw_iald hx hb hW hnt4 1 lm_1 (by omega) (by omega) (by decide) dX11_restThen_27 (v := (M 1 (((pz + 28) + 8) + 1))) rfl ?_
    refine lv_iload_n hx hb dX11_restThen_28 rfl (lv_at hl 4 rfl) ?_
    refine rw_isub hx hb dX11_restThen_29 ?_
    refine rw_iadd hx hb dX11_restThen_30 ?_
    refine rw_iast hx hb hW hnt4 1 lm_1 (v := (M 1 ((pz + 28) + 8)) + ((M 1 (((pz + 28) + 8) + 1)) - x)) (by omega) (by omega) (by decide) dX11_restThen_31 (fun H locs hW => ?_)
    obtain ⟨M7, hM7⟩ : ∃ z, z = upd2 M 1 ((pz + 28) + 8) ((M 1 ((pz + 28) + 8)) + ((M 1 (((pz + 28) + 8) + 1)) - x)) := ⟨_, rfl⟩
    rw [← hM7] at hW
    refine rw_iconst hx hb dX11_restThen_32 ?_
    refine lv_istore (lv' := [(5, .int (iN 1)), (4, .int (iN ((pz + 28) + 8))), (0, .ref (ad 0)), (1, .int (iN pz)), (2, .int (iN 1)), (3, .int (iN x))]) hx hb dX11_restThen_33 hl (by decide) rfl (fun ls hl => ?_)
    refine lv_iload hx hb dX11_restThen_35 (lv_at hl 0 rfl) ?_
    refine rw_iconst hx hb dX11_restThen_37 ?_
    refine rw_icmp_ge (tgt := 69) hx hb dX11_restThen_38 (by decide) (by decide) (by decide) (fun c => absurd c (by decide)) (fun _ => ?_)
    refine lv_aload_n hx hb dX11_restThen_41 rfl (lv_at hl 2 rfl) ?_
    refine rw_getR hx hb hts hown hW 0 lm_0 0 1 rfl fX11_7 dX11_restThen_42 ?_
    refine lv_iload hx hb dX11_restThen_45 (lv_at hl 1 rfl) ?_
    refine lv_iload hx hb dX11_restThen_47 (lv_at hl 0 rfl) ?_
    refine rw_iadd hx hb dX11_restThen_49 ?_
    refine lv_aload_n hx hb dX11_restThen_50 rfl (lv_at hl 2 rfl) ?_
    refine rw_getR hx hb hts hown hW 0 lm_0 0 1 rfl fX11_7 dX11_restThen_51 ?_
    refine lv_iload hx hb dX11_restThen_54 (lv_at hl 1 rfl) ?_
    refine lv_iload hx hb dX11_restThen_56 (lv_at hl 0 rfl) ?_
    refine rw_iadd hx hb dX11_restThen_58 ?_
    refine rw_iconst hx hb dX11_restThen_59 ?_
    refine rw_iadd hx hb dX11_restThen_60 ?_
    refine rw_iald hx hb hW hnt4 1 lm_1 (by omega) (by omega) (by decide) dX11_restThen_61 (v := (M 1 ((((pz + 28) + 8) + 1) + 1))) (by rw [hM7, upd2_ne2 (by omega)]) ?_
    refine rw_iast hx hb hW hnt4 1 lm_1 (v := (M 1 ((((pz + 28) + 8) + 1) + 1))) (by omega) (by omega) (by decide) dX11_restThen_62 (fun H locs hW => ?_)
    obtain ⟨M8, hM8⟩ : ∃ z, z = upd2 M7 1 (((pz + 28) + 8) + 1) (M 1 ((((pz + 28) + 8) + 1) + 1)) := ⟨_, rfl⟩
    rw [← hM8] at hW
    refine rw_iinc (lv' := [(5, .int (iN 2)), (4, .int (iN ((pz + 28) + 8))), (0, .ref (ad 0)), (1, .int (iN pz)), (2, .int (iN 1)), (3, .int (iN x))]) hx hb dX11_restThen_63 hl (k := 0) rfl (by decide) rfl (fun ls hl => ?_)
    refine lv_goto (tgt := 35) hx hb dX11_restThen_66 (by decide) ?_
    refine lv_iload hx hb dX11_restThen_35 (lv_at hl 0 rfl) ?_
    refine rw_iconst hx hb dX11_restThen_37 ?_
    refine rw_icmp_ge (tgt := 69) hx hb dX11_restThen_38 (by decide) (by decide) (by decide) (fun c => absurd c (by decide)) (fun _ => ?_)
    refine lv_aload_n hx hb dX11_restThen_41 rfl (lv_at hl 2 rfl) ?_
    refine rw_getR hx hb hts hown hW 0 lm_0 0 1 rfl fX11_7 dX11_restThen_42 ?_
    refine lv_iload hx hb dX11_restThen_45 (lv_at hl 1 rfl) ?_
    refine lv_iload hx hb dX11_restThen_47 (lv_at hl 0 rfl) ?_
    refine rw_iadd hx hb dX11_restThen_49 ?_
    refine lv_aload_n hx hb dX11_restThen_50 rfl (lv_at hl 2 rfl) ?_
    refine rw_getR hx hb hts hown hW 0 lm_0 0 1 rfl fX11_7 dX11_restThen_51 ?_
    refine lv_iload hx hb dX11_restThen_54 (lv_at hl 1 rfl) ?_
    refine lv_iload hx hb dX11_restThen_56 (lv_at hl 0 rfl) ?_
    refine rw_iadd hx hb dX11_restThen_58 ?_
    refine rw_iconst hx hb dX11_restThen_59 ?_
    refine rw_iadd hx hb dX11_restThen_60 ?_
    refine rw_iald hx hb hW hnt4 1 lm_1 (by omega) (by omega) (by decide) dX11_restThen_61 (v := (M 1 ((((pz + 28) + 8) + 2) + 1))) (by rw [hM8, upd2_ne2 (by omega), hM7, upd2_ne2 (by omega)]) ?_
    refine rw_iast hx hb hW hnt4 1 lm_1 (v := (M 1 ((((pz + 28) + 8) + 2) + 1))) (by omega) (by omega) (by decide) dX11_restThen_62 (fun H locs hW => ?_)
    obtain ⟨M9, hM9⟩ : ∃ z, z = upd2 M8 1 (((pz + 28) + 8) + 2) (M 1 ((((pz + 28) + 8) + 2) + 1)) := ⟨_, rfl⟩
    rw [← hM9] at hW
    refine rw_iinc (lv' := [(5, .int (iN 3)), (4, .int (iN ((pz + 28) + 8))), (0, .ref (ad 0)), (1, .int (iN pz)), (2, .int (iN 1)), (3, .int (iN x))]) hx hb dX11_restThen_63 hl (k := 0) rfl (by decide) rfl (fun ls hl => ?_)
    refine lv_goto (tgt := 35) hx hb dX11_restThen_66 (by decide) ?_
    refine lv_iload hx hb dX11_restThen_35 (lv_at hl 0 rfl) ?_
    refine rw_iconst hx hb dX11_restThen_37 ?_
    refine rw_icmp_ge (tgt := 69) hx hb dX11_restThen_38 (by decide) (by decide) (by decide) (fun c => absurd c (by decide)) (fun _ => ?_)
    refine lv_aload_n hx hb dX11_restThen_41 rfl (lv_at hl 2 rfl) ?_
    refine rw_getR hx hb hts hown hW 0 lm_0 0 1 rfl fX11_7 dX11_restThen_42 ?_
    refine lv_iload hx hb dX11_restThen_45 (lv_at hl 1 rfl) ?_
    refine lv_iload hx hb dX11_restThen_47 (lv_at hl 0 rfl) ?_
    refine rw_iadd hx hb dX11_restThen_49 ?_
    refine lv_aload_n hx hb dX11_restThen_50 rfl (lv_at hl 2 rfl) ?_
    refine rw_getR hx hb hts hown hW 0 lm_0 0 1 rfl fX11_7 dX11_restThen_51 ?_
    refine lv_iload hx hb dX11_restThen_54 (lv_at hl 1 rfl) ?_
    refine lv_iload hx hb dX11_restThen_56 (lv_at hl 0 rfl) ?_
    refine rw_iadd hx hb dX11_restThen_58 ?_
    refine rw_iconst hx hb dX11_restThen_59 ?_
    refine rw_iadd hx hb dX11_restThen_60 ?_
    refine rw_iald hx hb hW hnt4 1 lm_1 (by omega) (by omega) (by decide) dX11_restThen_61 (v := (M 1 ((((pz + 28) + 8) + 3) + 1))) (by rw [hM9, upd2_ne2 (by omega), hM8, upd2_ne2 (by omega), hM7, upd2_ne2 (by omega)]) ?_
    refine rw_iast hx hb hW hnt4 1 lm_1 (v := (M 1 ((((pz + 28) + 8) + 3) + 1))) (by omega) (by omega) (by decide) dX11_restThen_62 (fun H locs hW => ?_)
    obtain ⟨M10, hM10⟩ : ∃ z, z = upd2 M9 1 (((pz + 28) + 8) + 3) (M 1 ((((pz + 28) + 8) + 3) + 1)) := ⟨_, rfl⟩
    rw [← hM10] at hW
    refine rw_iinc (lv' := [(5, .int (iN 4)), (4, .int (iN ((pz + 28) + 8))), (0, .ref (ad 0)), (1, .int (iN pz)), (2, .int (iN 1)), (3, .int (iN x))]) hx hb dX11_restThen_63 hl (k := 0) rfl (by decide) rfl (fun ls hl => ?_)
    refine lv_goto (tgt := 35) hx hb dX11_restThen_66 (by decide) ?_
    refine lv_iload hx hb dX11_restThen_35 (lv_at hl 0 rfl) ?_
    refine rw_iconst hx hb dX11_restThen_37 ?_
    refine rw_icmp_ge (tgt := 69) hx hb dX11_restThen_38 (by decide) (by decide) (by decide) (fun _ => ?_) (fun c => absurd (by decide) c)
    refine lv_aload_n hx hb dX11_restThen_69 rfl (lv_at hl 2 rfl) ?_
    refine rw_getR hx hb hts hown hW 0 lm_0 0 1 rfl fX11_7 dX11_restThen_70 ?_
    refine lv_iload hx hb dX11_restThen_73 (lv_at hl 1 rfl) ?_
    refine rw_iconst hx hb dX11_restThen_75 ?_
    refine rw_iadd hx hb dX11_restThen_76 ?_
    refine rw_iconst hx hb dX11_restThen_77 ?_
    refine rw_iast hx hb hW hnt4 1 lm_1 (v := 0) (by omega) (by omega) (by decide) dX11_restThen_78 (fun H locs hW => ?_)
    obtain ⟨M11, hM11⟩ : ∃ z, z = upd2 M10 1 (((pz + 28) + 8) + 4) 0 := ⟨_, rfl⟩
    rw [← hM11] at hW
    refine lv_aload_n hx hb dX11_restThen_79 rfl (lv_at hl 2 rfl) ?_
    refine rw_getR hx hb hts hown hW 0 lm_0 0 1 rfl fX11_7 dX11_restThen_80 ?_
    refine lv_iload hx hb dX11_restThen_83 (lv_at hl 1 rfl) ?_
    refine lv_aload_n hx hb dX11_restThen_85 rfl (lv_at hl 2 rfl) ?_
    refine rw_getR hx hb hts hown hW 0 lm_0 0 1 rfl fX11_7 dX11_restThen_86 ?_
    refine lv_iload_n hx hb dX11_restThen_89 rfl (lv_at hl 3 rfl) ?_
    refine rw_bipush hx hb dX11_restThen_90 (by decide) ?_
    refine rw_iadd hx hb dX11_restThen_92 ?_
    refine rw_iald hx hb hW hnt4 1 lm_1 (by omega) (by omega) (by decide) dX11_restThen_93 (v := (M 1 (pz + 44))) (by rw [hM11, upd2_ne2 (by omega), hM10, upd2_ne2 (by omega), hM9, upd2_ne2 (by omega), hM8, upd2_ne2 (by omega), hM7, upd2_ne2 (by omega)]) ?_
    refine rw_iadd hx hb dX11_restThen_94 ?_
    refine rw_iconst hx hb dX11_restThen_95 ?_
    refine rw_iadd hx hb dX11_restThen_96 ?_
    refine lv_dup2_11 hx hb dX11_restThen_97 rfl rfl ?_
    refine rw_iald hx hb hW hnt4 1 lm_1 (by omega) (by omega) (by decide) dX11_restThen_98 (v := (M11 1 ((((pz + 28) + 8) + (M 1 (pz + 44))) + 2))) rfl ?_
    refine lv_iload_n hx hb dX11_restThen_99 rfl (lv_at hl 5 rfl) ?_
    refine rw_iadd hx hb dX11_restThen_100 ?_
    refine rw_iast hx hb hW hnt4 1 lm_1 (v := (M11 1 ((((pz + 28) + 8) + (M 1 (pz + 44))) + 2)) + x) (by omega) (by omega) (by decide) dX11_restThen_101 (fun H locs hW => ?_)
    obtain ⟨M12, hM12⟩ : ∃ z, z = upd2 M11 1 ((((pz + 28) + 8) + (M 1 (pz + 44))) + 2) ((M11 1 ((((pz + 28) + 8) + (M 1 (pz + 44))) + 2)) + x) := ⟨_, rfl⟩
    rw [← hM12] at hW
    refine rw_vret hx hb hr hlocks hW dX11_restThen_102 (⟨rfl, ?_⟩)
    exact rest_rows (b := pz + 28 + 8) (by decide) hp.1 (by omega) hr1 hM7 hM8 hM9 hM10 hM11 hM12 (by omega) (by omega) (by omega) (by omega) (by omega) (by rw [← hr2]; omega) (by rw [Int.add_sub_assoc]) (congrArg (M 1) (by omega)) (congrArg (M 1) (by omega)) (congrArg (M 1) (by omega)) rfl
