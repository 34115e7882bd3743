abbrev P_X11_triesBreaks (n : Int) (sm : Int) (M : Mem) : Option Value → Mem → Prop := oL (fun zz MM => zz = (bitR n.toNat (pg M 0) 1 sm).2 ∧ pg MM 188 = (bitR n.toNat (pg M 0) 1 sm).1 ∧ SameS M MM 188)
set_option maxRecDepth 100000 in
set_option maxHeartbeats 4000000 in
theorem c_X11_triesBreaks {l : Launch} {G : va_G} {ad : Nat → Nat} {CA : Nat → ClassId} {nt : Nat} (hnt : 6 ≤ nt) (n : Int) (hn : 0 ≤ n ∧ n ≤ 8) (sm : Int) (hsm : 0 ≤ sm ∧ sm ≤ 255) (M : Mem) (hI : InvF (pg M 0)) (hm : pg M 0 46 ≤ 999) : Mt l yX11_triesBreaks cX11_triesBreaks 7 (some .long) 5 121 G ad CA nt LyM [.ref (ad 0), .int (iN n), .int (iN sm)] M (P_X11_triesBreaks n sm M) := by
  refine Mt.of (by decide) (Nat.le_of_ble_eq_true rfl) (fun p e s m args below meth c hx hb hr hml hts hown hlocks hnm hW ls hl => ?_)
  have hl : lv_has ls 7 [(0, .ref (ad 0)), (1, .int (iN n)), (2, .int (iN sm))] := hl
  have hnt4 : 4 ≤ nt := by omega
  obtain ⟨H, hH⟩ : ∃ z, z = s.heap := ⟨_, rfl⟩
  obtain ⟨locs, hlo⟩ : ∃ z : List Loc, z = [] := ⟨_, rfl⟩
  rw [← hH, ← hlo] at hW ⊢
  have hC_13 : ∀ N : Nat, ∀ (wt : Int) (t : Int) (Mx : Mem) (H : Heap) (locs : List Loc) (ls : Array Slot), (n - t).toNat < N → (0 ≤ t ∧ t ≤ n) → (SameS M Mx 188) → (InvF (pg Mx 188)) → (pg Mx 188 46 ≤ 1000 + t) → (pg Mx 188 45 = pg M 0 45) → (bitR (n - t).toNat (pg Mx 188) wt (sm / pow2 t) = bitR n.toNat (pg M 0) 1 sm) → Wo G ad CA nt LyM (wA ad LyM) s Mx H locs → lv_has ls 7 [(0, .ref (ad 0)), (1, .int (iN n)), (2, .int (iN sm)), (3, .long (jN wt)), (5, .int (iN t))] → Wf l 5 121 G ad CA nt LyM (P_X11_triesBreaks n sm M) p e s m args below meth c H locs (F0 m 13 ls []) := by
    intro N
    induction N with
    | zero => intro wt t Mx H locs ls hN; exact absurd hN (Nat.not_lt_zero _)
    | succ N ih13 =>
      intro wt t Mx H locs ls hN ht hs hJ hm2 h45 hrun hW hl
      have hb3 := hI.2.2.2.1
      have hb45 : Mx 1 45 = pg M 0 45 := by rw [pg_45, Int.zero_add]; exact hs.2 45 (by decide)
      refine lv_iload hx hb dX11_triesBreaks_13 (lv_at hl 4 rfl) ?_
      refine lv_iload_n hx hb dX11_triesBreaks_15 rfl (lv_at hl 1 rfl) ?_
      refine rw_icmp_ge (tgt := 78) hx hb dX11_triesBreaks_16 (by decide) (by omega) (by omega) (fun c_16 => ?_) (fun c_16 => ?_)
      · refine lv_lload_n hx hb dX11_triesBreaks_78 rfl (lv_at hl 3 rfl) ?_
        refine rw_lret hx hb hr hlocks hW dX11_triesBreaks_79 (⟨wt, rfl, ?_⟩)
        rw [show (n - t).toNat = 0 by omega, bitR_0] at hrun
        exact ⟨by rw [← hrun], by rw [← hrun], hs⟩
      · refine lv_iload_n hx hb dX11_triesBreaks_19 rfl (lv_at hl 2 rfl) ?_
        refine lv_iload hx hb dX11_triesBreaks_20 (lv_at hl 4 rfl) ?_
        refine rw_ishr hx hb dX11_triesBreaks_22 (by omega) (by omega) (by omega) (by omega) ?_
        refine rw_iconst hx hb dX11_triesBreaks_23 ?_
        obtain ⟨qq, hqq⟩ : ∃ z, z = sm / pow2 t := ⟨_, rfl⟩
        rw [← hqq]
        have hq0 : 0 ≤ qq ∧ qq ≤ 255 := by rw [hqq]; exact pow2_div hsm.1 hsm.2
        refine rw_iand hx hb dX11_triesBreaks_24 ?_
        rw [band_one hq0.1 (by omega)]
        refine rw_iconst hx hb dX11_triesBreaks_25 ?_
        refine rw_icmp_ne (tgt := 33) hx hb dX11_triesBreaks_26 (by decide) (by omega) (by decide) (fun c_26 => ?_) (fun c_26 => ?_)
        · refine rw_iconst hx hb dX11_triesBreaks_33 ?_
          refine lv_istore (lv' := [(6, .int (iN 0)), (0, .ref (ad 0)), (1, .int (iN n)), (2, .int (iN sm)), (3, .long (jN wt)), (5, .int (iN t))]) hx hb dX11_triesBreaks_34 hl (by decide) rfl (fun ls hl => ?_)
          refine lv_lload_n hx hb dX11_triesBreaks_36 rfl (lv_at hl 4 rfl) ?_
          refine lv_iload hx hb dX11_triesBreaks_37 (lv_at hl 0 rfl) ?_
          refine rw_if_eq (tgt := 53) hx hb dX11_triesBreaks_39 (by decide) (by decide) (fun _ => ?_) (fun c => absurd (by decide) c)
          refine rw_bipush hx hb dX11_triesBreaks_53 (by decide) ?_
          refine lv_aload_n hx hb dX11_triesBreaks_55 rfl (lv_at hl 1 rfl) ?_
          refine rw_getR hx hb hts hown hW 0 lm_0 0 1 rfl fX11_7 dX11_triesBreaks_56 ?_
          refine rw_bipush hx hb dX11_triesBreaks_59 (by decide) ?_
          refine rw_iald hx hb hW hnt4 1 lm_1 (by omega) (by omega) (by decide) dX11_triesBreaks_61 (v := (pg M 0 45)) hb45 ?_
          refine rw_isub hx hb dX11_triesBreaks_62 ?_
          refine rw_i2l hx hb dX11_triesBreaks_63 (by omega) ?_
          refine rw_lmul hx hb dX11_triesBreaks_64 ?_
          refine lv_lstore_n (lv' := [(3, .long (jN (wt * (8 - (pg M 0 45))))), (6, .int (iN 0)), (0, .ref (ad 0)), (1, .int (iN n)), (2, .int (iN sm)), (5, .int (iN t))]) hx hb dX11_triesBreaks_65 rfl hl (by decide) rfl (fun ls hl => ?_)
          refine lv_aload_n hx hb dX11_triesBreaks_66 rfl (lv_at hl 2 rfl) ?_
          refine lv_iload hx hb dX11_triesBreaks_67 (lv_at hl 1 rfl) ?_
          refine rw_callV hx hb hml hts hown hW ⟨Nat.le_refl 0, Nat.le_refl 0⟩ [.int (iN 0)] 0 lm_0 rfl (c_X11_triesOne (l := l) (G := G) (ad := ad) (CA := CA) (nt := nt) (by omega) 0 (by first | omega | decide) Mx hJ) kX11_206 rfl ⟨Nat.le_of_ble_eq_true rfl, Nat.le_of_ble_eq_true rfl⟩ hl.1 rfl (Nat.le_of_ble_eq_true rfl) dX11_triesBreaks_69 (fun v1 M2 H locs hp3 hW => ?_)
          obtain ⟨rfl, hM2⟩ := hp3
          refine rw_stk (st' := []) rfl ?_
          refine rw_iinc (lv' := [(5, .int (iN (t + 1))), (3, .long (jN (wt * (8 - (pg M 0 45))))), (6, .int (iN 0)), (0, .ref (ad 0)), (1, .int (iN n)), (2, .int (iN sm))]) hx hb dX11_triesBreaks_72 hl (k := 5) rfl (by decide) rfl (fun ls hl => ?_)
          refine lv_goto (tgt := 13) hx hb dX11_triesBreaks_75 (by decide) ?_
          exact ih13 (wt * (8 - (pg M 0 45))) (t + 1) M2 H locs ls (by omega) (by omega) (hs.trans hM2.2) (by rw [hM2.1]; exact passCap_inv hJ (by omega) _) (by rw [hM2.1]; have := (passCap_min (pg Mx 188) 0).1; omega) (by rw [hM2.1, passCap_45, h45]) (by rw [hM2.1, ← hrun, show (n - t).toNat = (n - (t + 1)).toNat + 1 by omega, bitR_S, ← hqq, show qq % 2 = 0 by omega, if_neg (by decide), h45, pow2_S ht.1, ← hqq]) hW (lv_sub hl [3, 4, 5, 1, 0] rfl)
        · refine rw_iconst hx hb dX11_triesBreaks_29 ?_
          refine lv_goto (tgt := 34) hx hb dX11_triesBreaks_30 (by decide) ?_
          refine lv_istore (lv' := [(6, .int (iN 1)), (0, .ref (ad 0)), (1, .int (iN n)), (2, .int (iN sm)), (3, .long (jN wt)), (5, .int (iN t))]) hx hb dX11_triesBreaks_34 hl (by decide) rfl (fun ls hl => ?_)
          refine lv_lload_n hx hb dX11_triesBreaks_36 rfl (lv_at hl 4 rfl) ?_
          refine lv_iload hx hb dX11_triesBreaks_37 (lv_at hl 0 rfl) ?_
          refine rw_if_eq (tgt := 53) hx hb dX11_triesBreaks_39 (by decide) (by decide) (fun c => absurd c (by decide)) (fun _ => ?_)
          refine lv_aload_n hx hb dX11_triesBreaks_42 rfl (lv_at hl 1 rfl) ?_
          refine rw_getR hx hb hts hown hW 0 lm_0 0 1 rfl fX11_7 dX11_triesBreaks_43 ?_
          refine rw_bipush hx hb dX11_triesBreaks_46 (by decide) ?_
          refine rw_iald hx hb hW hnt4 1 lm_1 (by omega) (by omega) (by decide) dX11_triesBreaks_48 (v := (pg M 0 45)) hb45 ?_
          refine rw_i2l hx hb dX11_triesBreaks_49 (by omega) ?_
          refine lv_goto (tgt := 64) hx hb dX11_triesBreaks_50 (by decide) ?_
          refine rw_lmul hx hb dX11_triesBreaks_64 ?_
          refine lv_lstore_n (lv' := [(3, .long (jN (wt * (pg M 0 45)))), (6, .int (iN 1)), (0, .ref (ad 0)), (1, .int (iN n)), (2, .int (iN sm)), (5, .int (iN t))]) hx hb dX11_triesBreaks_65 rfl hl (by decide) rfl (fun ls hl => ?_)
          refine lv_aload_n hx hb dX11_triesBreaks_66 rfl (lv_at hl 2 rfl) ?_
          refine lv_iload hx hb dX11_triesBreaks_67 (lv_at hl 1 rfl) ?_
          refine rw_callV hx hb hml hts hown hW ⟨Nat.le_refl 0, Nat.le_refl 0⟩ [.int (iN 1)] 0 lm_0 rfl (c_X11_triesOne (l := l) (G := G) (ad := ad) (CA := CA) (nt := nt) (by omega) 1 (by first | omega | decide) Mx hJ) kX11_206 rfl ⟨Nat.le_of_ble_eq_true rfl, Nat.le_of_ble_eq_true rfl⟩ hl.1 rfl (Nat.le_of_ble_eq_true rfl) dX11_triesBreaks_69 (fun v4 M5 H locs hp6 hW => ?_)
          obtain ⟨rfl, hM5⟩ := hp6
          refine rw_stk (st' := []) rfl ?_
          refine rw_iinc (lv' := [(5, .int (iN (t + 1))), (3, .long (jN (wt * (pg M 0 45)))), (6, .int (iN 1)), (0, .ref (ad 0)), (1, .int (iN n)), (2, .int (iN sm))]) hx hb dX11_triesBreaks_72 hl (k := 5) rfl (by decide) rfl (fun ls hl => ?_)
          refine lv_goto (tgt := 13) hx hb dX11_triesBreaks_75 (by decide) ?_
          exact ih13 (wt * (pg M 0 45)) (t + 1) M5 H locs ls (by omega) (by omega) (hs.trans hM5.2) (by rw [hM5.1]; exact passCap_inv hJ (by omega) _) (by rw [hM5.1]; have := (passCap_min (pg Mx 188) 1).1; omega) (by rw [hM5.1, passCap_45, h45]) (by rw [hM5.1, ← hrun, show (n - t).toNat = (n - (t + 1)).toNat + 1 by omega, bitR_S, ← hqq, show qq % 2 = 1 by omega, if_pos rfl, h45, pow2_S ht.1, ← hqq]) hW (lv_sub hl [3, 4, 5, 1, 0] rfl)
  refine lv_lconst (v := jN 1) hx hb dX11_triesBreaks_0 rfl ?_
  refine lv_lstore_n (lv' := [(3, .long (jN 1)), (0, .ref (ad 0)), (1, .int (iN n)), (2, .int (iN sm))]) hx hb dX11_triesBreaks_1 rfl hl (by decide) rfl (fun ls hl => ?_)
  refine lv_aload_n hx hb dX11_triesBreaks_2 rfl (lv_at hl 1 rfl) ?_
  refine rw_iconst hx hb dX11_triesBreaks_3 ?_
  refine rw_sipush hx hb dX11_triesBreaks_4 (by decide) ?_
  refine rw_callV hx hb hml hts hown hW ⟨Nat.le_refl 0, Nat.le_refl 0⟩ [.int (iN 0), .int (iN 188)] 0 lm_0 rfl (c_X11_copies (l := l) (G := G) (ad := ad) (CA := CA) (nt := nt) (by omega) 0 188 (by first | omega | decide) (by first | omega | decide) (by first | omega | decide) M) kX11_212 rfl ⟨Nat.le_of_ble_eq_true rfl, Nat.le_of_ble_eq_true rfl⟩ hl.1 rfl (Nat.le_of_ble_eq_true rfl) dX11_triesBreaks_7 (fun v7 M8 H locs hp9 hW => ?_)
  obtain ⟨rfl, hM8⟩ := hp9
  refine rw_stk (st' := []) rfl ?_
  refine rw_iconst hx hb dX11_triesBreaks_10 ?_
  refine lv_istore (lv' := [(5, .int (iN 0)), (3, .long (jN 1)), (0, .ref (ad 0)), (1, .int (iN n)), (2, .int (iN sm))]) hx hb dX11_triesBreaks_11 hl (by decide) rfl (fun ls hl => ?_)
  exact hC_13 _ 1 0 M8 H locs ls (Nat.lt_succ_self _) (by omega) hM8.2 (by rw [hM8.1]; exact hI) (by rw [hM8.1]; omega) (by rw [hM8.1]) (by rw [hM8.1, show sm / pow2 0 = sm by rw [pow2_0, Int.ediv_one], Int.sub_zero]) hW (lv_sub hl [2, 3, 4, 1, 0] rfl)
abbrev P_X11_odds (n : Int) (i : Int) (w : Int) (M : Mem) : Option Value → Mem → Prop := oL (fun zz MM => (((0 ≤ n ∧ n ≤ 8) ∧ ((0 ≤ i ∧ i < pg M 0 47) ∨ i = 20 ∨ i = 21) ∧ 0 ≤ w ∧ w ≤ 1) ∧ zz = fracF (brS n.toNat (pg M 0) 1 (spotF (pg M 0) i)) (pow8 n) w ∧ SameS M MM 188) ∨ (¬ ((0 ≤ n ∧ n ≤ 8) ∧ ((0 ≤ i ∧ i < pg M 0 47) ∨ i = 20 ∨ i = 21) ∧ 0 ≤ w ∧ w ≤ 1) ∧ zz = -1 ∧ MM = M))
set_option maxRecDepth 100000 in
set_option maxHeartbeats 4000000 in
theorem c_X11_odds {l : Launch} {G : va_G} {ad : Nat → Nat} {CA : Nat → ClassId} {nt : Nat} (hnt : 6 ≤ nt) (n : Int) (hn9 : in32 n) (i : Int) (hi9 : in32 i) (w : Int) (hw9 : in32 w) (M : Mem) (hI : InvF (pg M 0)) (hm : pg M 0 46 ≤ 999) : Mt l yX11_odds cX11_odds 9 (some .long) 6 147 G ad CA nt LyM [.ref (ad 0), .int (iN n), .int (iN i), .int (iN w)] M (P_X11_odds n i w M) := by
  refine Mt.of (by decide) (Nat.le_of_ble_eq_true rfl) (fun p e s m args below meth c hx hb hr hml hts hown hlocks hnm hW ls hl => ?_)
  have hl : lv_has ls 9 [(0, .ref (ad 0)), (1, .int (iN n)), (2, .int (iN i)), (3, .int (iN w))] := hl
  have hnt4 : 4 ≤ nt := by omega
  obtain ⟨H, hH⟩ : ∃ z, z = s.heap := ⟨_, rfl⟩
  obtain ⟨locs, hlo⟩ : ∃ z : List Loc, z = [] := ⟨_, rfl⟩
  rw [← hH, ← hlo] at hW ⊢
  have hc := hI.1
  have h47 : pg M 0 47 = M 0 1 := rfl
  refine lv_iload_n hx hb dX11_odds_0 rfl (lv_at hl 1 rfl) ?_
  refine rw_i2l hx hb dX11_odds_1 (by omega) ?_
  refine lv_lconst (v := jN 0) hx hb dX11_odds_2 rfl ?_
  refine lv_ldc2 (v := 8) hx hb hown (hts _ (wm_17 _ (List.mem_of_getElem? (i := 11) rfl))) dX11_odds_3 ?_
  refine rw_stk (st' := [.long (jN 8), .long (jN 0), .long (jN n)]) (by rw [show (8 : Int64) = jN 8 from by decide]) ?_
  refine rw_callS hx hb hml hts hown hW ⟨Nat.le_refl 0, Nat.le_refl 0⟩ [.long (jN n), .long (jN 0), .long (jN 8)] (c_X11_in (l := l) (G := G) (ad := ad) (CA := CA) (nt := nt) n 0 8 (by first | omega | decide) (by first | omega | decide) (by first | omega | decide) M) kX11_57 rfl ⟨Nat.le_of_ble_eq_true rfl, Nat.le_of_ble_eq_true rfl⟩ hl.1 rfl (Nat.le_of_ble_eq_true rfl) dX11_odds_6 (fun v1 M2 H locs hp3 hW => ?_)
  obtain ⟨a4, rfl, hp3, hp3m⟩ := hp3
  rw [hp3m] at hW
  rcases hp3 with ⟨rfl, hp3⟩ | ⟨rfl, hp3⟩
  · refine rw_stk (st' := [.int (iN 1)]) rfl ?_
    refine rw_if_eq (tgt := 30) hx hb dX11_odds_9 (by decide) (by decide) (fun c => absurd c (by decide)) (fun _ => ?_)
    refine lv_aload_n hx hb dX11_odds_12 rfl (lv_at hl 0 rfl) ?_
    refine lv_iload_n hx hb dX11_odds_13 rfl (lv_at hl 2 rfl) ?_
    refine rw_callV hx hb hml hts hown hW ⟨Nat.le_refl 0, Nat.le_refl 0⟩ [.int (iN i)] 0 lm_0 rfl (c_X11_isSpot (l := l) (G := G) (ad := ad) (CA := CA) (nt := nt) (by omega) i (by first | omega | decide) M hc) kX11_219 rfl ⟨Nat.le_of_ble_eq_true rfl, Nat.le_of_ble_eq_true rfl⟩ hl.1 rfl (Nat.le_of_ble_eq_true rfl) dX11_odds_14 (fun v5 M6 H locs hp7 hW => ?_)
    obtain ⟨a8, rfl, hp7, hp7m⟩ := hp7
    rw [hp7m] at hW
    rcases hp7 with ⟨rfl, hp7⟩ | ⟨rfl, hp7⟩
    · refine rw_stk (st' := [.int (iN 1)]) rfl ?_
      refine rw_if_eq (tgt := 30) hx hb dX11_odds_17 (by decide) (by decide) (fun c => absurd c (by decide)) (fun _ => ?_)
      refine lv_iload_n hx hb dX11_odds_20 rfl (lv_at hl 3 rfl) ?_
      refine rw_i2l hx hb dX11_odds_21 (by omega) ?_
      refine lv_lconst (v := jN 0) hx hb dX11_odds_22 rfl ?_
      refine lv_lconst (v := jN 1) hx hb dX11_odds_23 rfl ?_
      refine rw_callS hx hb hml hts hown hW ⟨Nat.le_refl 0, Nat.le_refl 0⟩ [.long (jN w), .long (jN 0), .long (jN 1)] (c_X11_in (l := l) (G := G) (ad := ad) (CA := CA) (nt := nt) w 0 1 (by first | omega | decide) (by first | omega | decide) (by first | omega | decide) M) kX11_57 rfl ⟨Nat.le_of_ble_eq_true rfl, Nat.le_of_ble_eq_true rfl⟩ hl.1 rfl (Nat.le_of_ble_eq_true rfl) dX11_odds_24 (fun v9 M10 H locs hp11 hW => ?_)
      obtain ⟨a12, rfl, hp11, hp11m⟩ := hp11
      rw [hp11m] at hW
      rcases hp11 with ⟨rfl, hp11⟩ | ⟨rfl, hp11⟩
      · refine rw_stk (st' := [.int (iN 1)]) rfl ?_
        refine rw_if_ne (tgt := 34) hx hb dX11_odds_27 (by decide) (by decide) (fun _ => ?_) (fun c => absurd c (by decide))
        refine lv_lconst (v := jN 0) hx hb dX11_odds_34 rfl ?_
        refine lv_lstore (lv' := [(4, .long (jN 0)), (0, .ref (ad 0)), (1, .int (iN n)), (2, .int (iN i)), (3, .int (iN w))]) hx hb dX11_odds_35 hl (by decide) rfl (fun ls hl => ?_)
        have hp2 := pow2_rng8 (n := n) (by omega)
        refine rw_iconst hx hb dX11_odds_37 ?_
        refine lv_istore (lv' := [(6, .int (iN 0)), (4, .long (jN 0)), (0, .ref (ad 0)), (1, .int (iN n)), (2, .int (iN i)), (3, .int (iN w))]) hx hb dX11_odds_38 hl (by decide) rfl (fun ls hl => ?_)
        have hC_40 : ∀ N : Nat, ∀ (acc : Int) (sm : Int) (Mx : Mem) (H : Heap) (locs : List Loc) (ls : Array Slot), (pow2 n - sm).toNat < N → (0 ≤ sm ∧ sm ≤ pow2 n) → (SameS M Mx 188) → (acc = sumI (fun x => if (bitR n.toNat (pg M 0) 1 x).1 27 = i then (bitR n.toNat (pg M 0) 1 x).2 else 0) sm.toNat) → Wo G ad CA nt LyM (wA ad LyM) s Mx H locs → lv_has ls 9 [(0, .ref (ad 0)), (1, .int (iN n)), (2, .int (iN i)), (3, .int (iN w)), (4, .long (jN acc)), (6, .int (iN sm))] → Wf l 6 147 G ad CA nt LyM (P_X11_odds n i w M) p e s m args below meth c H locs (F0 m 40 ls []) := by
          intro N
          induction N with
          | zero => intro acc sm Mx H locs ls hN; exact absurd hN (Nat.not_lt_zero _)
          | succ N ih40 =>
            intro acc sm Mx H locs ls hN hsm hs hacc hW hl
            have hnow : pg Mx 0 = pg M 0 := pg_same hs (by decide)
            refine lv_iload hx hb dX11_odds_40 (lv_at hl 5 rfl) ?_
            refine rw_iconst hx hb dX11_odds_42 ?_
            refine lv_iload_n hx hb dX11_odds_43 rfl (lv_at hl 1 rfl) ?_
            refine rw_shl1 hx hb dX11_odds_44 (by omega) (by omega) ?_
            refine rw_icmp_ge (tgt := 85) hx hb dX11_odds_45 (by decide) (by omega) (by omega) (fun c_45 => ?_) (fun c_45 => ?_)
            · have hsum : acc = brS n.toNat (pg M 0) 1 (spotF (pg M 0) i) := by rw [hacc, show sm = pow2 n by omega, hp2.2.2, Int.toNat_natCast]; exact odds_sum n.toNat (pg M 0) 1 i hI (by omega) (by omega)
              have hbt := brS_top hI (n := n) (by omega) (spotF (pg M 0) i)
              have hp8 := pow8_rng (n := n) (by omega)
              refine lv_lload hx hb dX11_odds_85 (lv_at hl 4 rfl) ?_
              refine lv_iload_n hx hb dX11_odds_87 rfl (lv_at hl 1 rfl) ?_
              refine rw_callS hx hb hml hts hown hW ⟨Nat.le_refl 0, Nat.le_refl 0⟩ [.int (iN n)] (c_X11_eights (l := l) (G := G) (ad := ad) (CA := CA) (nt := nt) n (by first | omega | decide) Mx) kX11_228 rfl ⟨Nat.le_of_ble_eq_true rfl, Nat.le_of_ble_eq_true rfl⟩ hl.1 rfl (Nat.le_of_ble_eq_true rfl) dX11_odds_88 (fun v13 M14 H locs hp15 hW => ?_)
              obtain ⟨_, rfl, rfl, hp15⟩ := hp15
              rw [hp15] at hW
              refine rw_stk (st' := [.long (jN (pow8 n)), .long (jN acc)]) rfl ?_
              refine lv_iload_n hx hb dX11_odds_91 rfl (lv_at hl 3 rfl) ?_
              refine rw_callS hx hb hml hts hown hW ⟨Nat.le_refl 0, Nat.le_refl 0⟩ [.long (jN acc), .long (jN (pow8 n)), .int (iN w)] (c_X11_lowest (l := l) (G := G) (ad := ad) (CA := CA) (nt := nt) acc (pow8 n) w (by omega) (by omega) (by first | omega | decide) Mx) kX11_232 rfl ⟨Nat.le_of_ble_eq_true rfl, Nat.le_of_ble_eq_true rfl⟩ hl.1 rfl (Nat.le_of_ble_eq_true rfl) dX11_odds_92 (fun v16 M17 H locs hp18 hW => ?_)
              obtain ⟨_, rfl, rfl, hp18⟩ := hp18
              rw [hp18] at hW
              refine rw_stk (st' := [.long (jN (fracF acc (pow8 n) w))]) rfl ?_
              refine rw_lret hx hb hr hlocks hW dX11_odds_95 (⟨fracF acc (pow8 n) w, rfl, ?_⟩)
              exact Or.inl ⟨by omega, by rw [hsum], hs⟩
            · refine lv_aload_n hx hb dX11_odds_48 rfl (lv_at hl 0 rfl) ?_
              refine lv_iload_n hx hb dX11_odds_49 rfl (lv_at hl 1 rfl) ?_
              refine lv_iload hx hb dX11_odds_50 (lv_at hl 5 rfl) ?_
              refine rw_callV hx hb hml hts hown hW ⟨Nat.le_refl 0, Nat.le_refl 0⟩ [.int (iN n), .int (iN sm)] 0 lm_0 rfl (c_X11_triesBreaks (l := l) (G := G) (ad := ad) (CA := CA) (nt := nt) (by omega) n (by first | omega | decide) sm (by first | omega | decide) Mx (by rw [hnow]; exact hI) (by rw [hnow]; omega)) kX11_224 rfl ⟨Nat.le_of_ble_eq_true rfl, Nat.le_of_ble_eq_true rfl⟩ hl.1 rfl (Nat.le_of_ble_eq_true rfl) dX11_odds_52 (fun v19 M20 H locs hp21 hW => ?_)
              obtain ⟨a22, rfl, hM20⟩ := hp21
              refine rw_stk (st' := [.long (jN a22)]) rfl ?_
              rw [hnow] at hM20
              have hkr : 0 ≤ pg M20 188 27 ∧ pg M20 188 27 ≤ 21 := by rw [hM20.2.1]; exact bitR_rng n.toNat hI (by omega)
              refine lv_lstore (lv' := [(7, .long (jN a22)), (0, .ref (ad 0)), (1, .int (iN n)), (2, .int (iN i)), (3, .int (iN w)), (4, .long (jN acc)), (6, .int (iN sm))]) hx hb dX11_odds_55 hl (by decide) rfl (fun ls hl => ?_)
              refine lv_lload hx hb dX11_odds_57 (lv_at hl 5 rfl) ?_
              refine lv_aload_n hx hb dX11_odds_59 rfl (lv_at hl 1 rfl) ?_
              refine rw_sipush hx hb dX11_odds_60 (by decide) ?_
              refine rw_callV hx hb hml hts hown hW ⟨Nat.le_refl 0, Nat.le_refl 0⟩ [.int (iN 188)] 0 lm_0 rfl (c_X11_keg (l := l) (G := G) (ad := ad) (CA := CA) (nt := nt) (by omega) 188 (by first | omega | decide) M20) kX11_146 rfl ⟨Nat.le_of_ble_eq_true rfl, Nat.le_of_ble_eq_true rfl⟩ hl.1 rfl (Nat.le_of_ble_eq_true rfl) dX11_odds_63 (fun v23 M24 H locs hp25 hW => ?_)
              obtain ⟨_, rfl, rfl, hp25⟩ := hp25
              rw [hp25] at hW
              refine rw_stk (st' := [.int (iN (pg M20 188 27)), .long (jN acc)]) rfl ?_
              refine lv_iload_n hx hb dX11_odds_66 rfl (lv_at hl 3 rfl) ?_
              refine rw_icmp_ne (tgt := 75) hx hb dX11_odds_67 (by decide) (by omega) (by omega) (fun c_67 => ?_) (fun c_67 => ?_)
              · refine lv_lconst (v := jN 0) hx hb dX11_odds_75 rfl ?_
                refine rw_ladd hx hb dX11_odds_76 ?_
                refine lv_lstore (lv' := [(4, .long (jN (acc + 0))), (7, .long (jN a22)), (0, .ref (ad 0)), (1, .int (iN n)), (2, .int (iN i)), (3, .int (iN w)), (6, .int (iN sm))]) hx hb dX11_odds_77 hl (by decide) rfl (fun ls hl => ?_)
                refine rw_iinc (lv' := [(6, .int (iN (sm + 1))), (4, .long (jN (acc + 0))), (7, .long (jN a22)), (0, .ref (ad 0)), (1, .int (iN n)), (2, .int (iN i)), (3, .int (iN w))]) hx hb dX11_odds_79 hl (k := 6) rfl (by decide) rfl (fun ls hl => ?_)
                refine lv_goto (tgt := 40) hx hb dX11_odds_82 (by decide) ?_
                exact ih40 (acc + 0) (sm + 1) M20 H locs ls (by omega) (by omega) (hs.trans hM20.2.2) (by rw [show (sm + 1).toNat = sm.toNat + 1 by omega, sumI_S, show ((sm.toNat : Nat) : Int) = sm by omega, hacc, ← hM20.2.1, if_neg c_67]) hW (lv_sub hl [3, 4, 5, 6, 1, 0] rfl)
              · refine lv_lload hx hb dX11_odds_70 (lv_at hl 0 rfl) ?_
                refine lv_goto (tgt := 76) hx hb dX11_odds_72 (by decide) ?_
                refine rw_ladd hx hb dX11_odds_76 ?_
                refine lv_lstore (lv' := [(4, .long (jN (acc + a22))), (7, .long (jN a22)), (0, .ref (ad 0)), (1, .int (iN n)), (2, .int (iN i)), (3, .int (iN w)), (6, .int (iN sm))]) hx hb dX11_odds_77 hl (by decide) rfl (fun ls hl => ?_)
                refine rw_iinc (lv' := [(6, .int (iN (sm + 1))), (4, .long (jN (acc + a22))), (7, .long (jN a22)), (0, .ref (ad 0)), (1, .int (iN n)), (2, .int (iN i)), (3, .int (iN w))]) hx hb dX11_odds_79 hl (k := 6) rfl (by decide) rfl (fun ls hl => ?_)
                refine lv_goto (tgt := 40) hx hb dX11_odds_82 (by decide) ?_
                exact ih40 (acc + a22) (sm + 1) M20 H locs ls (by omega) (by omega) (hs.trans hM20.2.2) (by rw [show (sm + 1).toNat = sm.toNat + 1 by omega, sumI_S, show ((sm.toNat : Nat) : Int) = sm by omega, hacc, ← hM20.2.1, if_pos (by omega), ← hM20.1]) hW (lv_sub hl [3, 4, 5, 6, 1, 0] rfl)
        exact hC_40 _ 0 0 M H locs ls (Nat.lt_succ_self _) (by omega) SameS.rf (by rfl) hW (lv_sub hl [2, 3, 4, 5, 1, 0] rfl)
      · refine rw_stk (st' := [.int (iN 0)]) rfl ?_
        refine rw_if_ne (tgt := 34) hx hb dX11_odds_27 (by decide) (by decide) (fun c => absurd c (by decide)) (fun _ => ?_)
        refine lv_ldc2 (v := (-1)) hx hb hown (hts _ (wm_34 _ (List.mem_of_getElem? (i := 19) rfl))) dX11_odds_30 ?_
        refine rw_stk (st' := [.long (jN (-1))]) (by rw [show (-1 : Int64) = jN (-1) from by decide]) ?_
        refine rw_lret hx hb hr hlocks hW dX11_odds_33 (⟨(-1), rfl, ?_⟩)
        exact Or.inr ⟨by omega, rfl, rfl⟩
    · refine rw_stk (st' := [.int (iN 0)]) rfl ?_
      refine rw_if_eq (tgt := 30) hx hb dX11_odds_17 (by decide) (by decide) (fun _ => ?_) (fun c => absurd (by decide) c)
      refine lv_ldc2 (v := (-1)) hx hb hown (hts _ (wm_34 _ (List.mem_of_getElem? (i := 19) rfl))) dX11_odds_30 ?_
      refine rw_stk (st' := [.long (jN (-1))]) (by rw [show (-1 : Int64) = jN (-1) from by decide]) ?_
      refine rw_lret hx hb hr hlocks hW dX11_odds_33 (⟨(-1), rfl, ?_⟩)
      exact Or.inr ⟨by omega, rfl, rfl⟩
  · refine rw_stk (st' := [.int (iN 0)]) rfl ?_
    refine rw_if_eq (tgt := 30) hx hb dX11_odds_9 (by decide) (by decide) (fun _ => ?_) (fun c => absurd (by decide) c)
    refine lv_ldc2 (v := (-1)) hx hb hown (hts _ (wm_34 _ (List.mem_of_getElem? (i := 19) rfl))) dX11_odds_30 ?_
    refine rw_stk (st' := [.long (jN (-1))]) (by rw [show (-1 : Int64) = jN (-1) from by decide]) ?_
    refine rw_lret hx hb hr hlocks hW dX11_odds_33 (⟨(-1), rfl, ?_⟩)
    exact Or.inr ⟨by omega, rfl, rfl⟩
abbrev P_X11_mean (n : Int) (w : Int) (M : Mem) : Option Value → Mem → Prop := oL (fun zz MM => (((0 ≤ n ∧ n ≤ 8) ∧ 0 ≤ w ∧ w ≤ 1) ∧ zz = fracF (sumTo (brS n.toNat (pg M 0) 1) 11) (pow8 n) w ∧ SameS M MM 188) ∨ (¬ ((0 ≤ n ∧ n ≤ 8) ∧ 0 ≤ w ∧ w ≤ 1) ∧ zz = -1 ∧ MM = M))
set_option maxRecDepth 100000 in
set_option maxHeartbeats 4000000 in
theorem c_X11_mean {l : Launch} {G : va_G} {ad : Nat → Nat} {CA : Nat → ClassId} {nt : Nat} (hnt : 6 ≤ nt) (n : Int) (hn9 : in32 n) (w : Int) (hw9 : in32 w) (M : Mem) (hI : InvF (pg M 0)) (hm : pg M 0 46 ≤ 999) : Mt l yX11_mean cX11_mean 8 (some .long) 6 147 G ad CA nt LyM [.ref (ad 0), .int (iN n), .int (iN w)] M (P_X11_mean n w M) := by
  refine Mt.of (by decide) (Nat.le_of_ble_eq_true rfl) (fun p e s m args below meth c hx hb hr hml hts hown hlocks hnm hW ls hl => ?_)
  have hl : lv_has ls 8 [(0, .ref (ad 0)), (1, .int (iN n)), (2, .int (iN w))] := hl
  have hnt4 : 4 ≤ nt := by omega
  obtain ⟨H, hH⟩ : ∃ z, z = s.heap := ⟨_, rfl⟩
  obtain ⟨locs, hlo⟩ : ∃ z : List Loc, z = [] := ⟨_, rfl⟩
  rw [← hH, ← hlo] at hW ⊢
  have hc := hI.1
  have h47 : pg M 0 47 = M 0 1 := rfl
  refine lv_iload_n hx hb dX11_mean_0 rfl (lv_at hl 1 rfl) ?_
  refine rw_i2l hx hb dX11_mean_1 (by omega) ?_
  refine lv_lconst (v := jN 0) hx hb dX11_mean_2 rfl ?_
  refine lv_ldc2 (v := 8) hx hb hown (hts _ (wm_17 _ (List.mem_of_getElem? (i := 11) rfl))) dX11_mean_3 ?_
  refine rw_stk (st' := [.long (jN 8), .long (jN 0), .long (jN n)]) (by rw [show (8 : Int64) = jN 8 from by decide]) ?_
  refine rw_callS hx hb hml hts hown hW ⟨Nat.le_refl 0, Nat.le_refl 0⟩ [.long (jN n), .long (jN 0), .long (jN 8)] (c_X11_in (l := l) (G := G) (ad := ad) (CA := CA) (nt := nt) n 0 8 (by first | omega | decide) (by first | omega | decide) (by first | omega | decide) M) kX11_57 rfl ⟨Nat.le_of_ble_eq_true rfl, Nat.le_of_ble_eq_true rfl⟩ hl.1 rfl (Nat.le_of_ble_eq_true rfl) dX11_mean_6 (fun v1 M2 H locs hp3 hW => ?_)
  obtain ⟨a4, rfl, hp3, hp3m⟩ := hp3
  rw [hp3m] at hW
  rcases hp3 with ⟨rfl, hp3⟩ | ⟨rfl, hp3⟩
  · refine rw_stk (st' := [.int (iN 1)]) rfl ?_
    refine rw_if_eq (tgt := 22) hx hb dX11_mean_9 (by decide) (by decide) (fun c => absurd c (by decide)) (fun _ => ?_)
    refine lv_iload_n hx hb dX11_mean_12 rfl (lv_at hl 2 rfl) ?_
    refine rw_i2l hx hb dX11_mean_13 (by omega) ?_
    refine lv_lconst (v := jN 0) hx hb dX11_mean_14 rfl ?_
    refine lv_lconst (v := jN 1) hx hb dX11_mean_15 rfl ?_
    refine rw_callS hx hb hml hts hown hW ⟨Nat.le_refl 0, Nat.le_refl 0⟩ [.long (jN w), .long (jN 0), .long (jN 1)] (c_X11_in (l := l) (G := G) (ad := ad) (CA := CA) (nt := nt) w 0 1 (by first | omega | decide) (by first | omega | decide) (by first | omega | decide) M) kX11_57 rfl ⟨Nat.le_of_ble_eq_true rfl, Nat.le_of_ble_eq_true rfl⟩ hl.1 rfl (Nat.le_of_ble_eq_true rfl) dX11_mean_16 (fun v5 M6 H locs hp7 hW => ?_)
    obtain ⟨a8, rfl, hp7, hp7m⟩ := hp7
    rw [hp7m] at hW
    rcases hp7 with ⟨rfl, hp7⟩ | ⟨rfl, hp7⟩
    · refine rw_stk (st' := [.int (iN 1)]) rfl ?_
      refine rw_if_ne (tgt := 26) hx hb dX11_mean_19 (by decide) (by decide) (fun _ => ?_) (fun c => absurd c (by decide))
      refine lv_lconst (v := jN 0) hx hb dX11_mean_26 rfl ?_
      refine lv_lstore_n (lv' := [(3, .long (jN 0)), (0, .ref (ad 0)), (1, .int (iN n)), (2, .int (iN w))]) hx hb dX11_mean_27 rfl hl (by decide) rfl (fun ls hl => ?_)
      have hp2 := pow2_rng8 (n := n) (by omega)
      refine rw_iconst hx hb dX11_mean_28 ?_
      refine lv_istore (lv' := [(5, .int (iN 0)), (3, .long (jN 0)), (0, .ref (ad 0)), (1, .int (iN n)), (2, .int (iN w))]) hx hb dX11_mean_29 hl (by decide) rfl (fun ls hl => ?_)
      have hC_31 : ∀ N : Nat, ∀ (acc : Int) (sm : Int) (Mx : Mem) (H : Heap) (locs : List Loc) (ls : Array Slot), (pow2 n - sm).toNat < N → (0 ≤ sm ∧ sm ≤ pow2 n) → (SameS M Mx 188) → (acc = sumI (fun x => (bitR n.toNat (pg M 0) 1 x).2 * spotF (pg M 0) ((bitR n.toNat (pg M 0) 1 x).1 27)) sm.toNat) → Wo G ad CA nt LyM (wA ad LyM) s Mx H locs → lv_has ls 8 [(0, .ref (ad 0)), (1, .int (iN n)), (2, .int (iN w)), (3, .long (jN acc)), (5, .int (iN sm))] → Wf l 6 147 G ad CA nt LyM (P_X11_mean n w M) p e s m args below meth c H locs (F0 m 31 ls []) := by
        intro N
        induction N with
        | zero => intro acc sm Mx H locs ls hN; exact absurd hN (Nat.not_lt_zero _)
        | succ N ih31 =>
          intro acc sm Mx H locs ls hN hsm hs hacc hW hl
          have hnow : pg Mx 0 = pg M 0 := pg_same hs (by decide)
          refine lv_iload hx hb dX11_mean_31 (lv_at hl 4 rfl) ?_
          refine rw_iconst hx hb dX11_mean_33 ?_
          refine lv_iload_n hx hb dX11_mean_34 rfl (lv_at hl 1 rfl) ?_
          refine rw_shl1 hx hb dX11_mean_35 (by omega) (by omega) ?_
          refine rw_icmp_ge (tgt := 74) hx hb dX11_mean_36 (by decide) (by omega) (by omega) (fun c_36 => ?_) (fun c_36 => ?_)
          · have hsum : acc = sumTo (brS n.toNat (pg M 0) 1) 11 := by rw [hacc, show sm = pow2 n by omega, hp2.2.2, Int.toNat_natCast]; exact mean_sum n.toNat (pg M 0) 1 hI (by omega)
            have hbt := sumTo_rng (fun i => brS_top hI (n := n) (by omega) i)
            have hp8 := pow8_rng (n := n) (by omega)
            refine lv_lload_n hx hb dX11_mean_74 rfl (lv_at hl 3 rfl) ?_
            refine lv_iload_n hx hb dX11_mean_75 rfl (lv_at hl 1 rfl) ?_
            refine rw_callS hx hb hml hts hown hW ⟨Nat.le_refl 0, Nat.le_refl 0⟩ [.int (iN n)] (c_X11_eights (l := l) (G := G) (ad := ad) (CA := CA) (nt := nt) n (by first | omega | decide) Mx) kX11_228 rfl ⟨Nat.le_of_ble_eq_true rfl, Nat.le_of_ble_eq_true rfl⟩ hl.1 rfl (Nat.le_of_ble_eq_true rfl) dX11_mean_76 (fun v9 M10 H locs hp11 hW => ?_)
            obtain ⟨_, rfl, rfl, hp11⟩ := hp11
            rw [hp11] at hW
            refine rw_stk (st' := [.long (jN (pow8 n)), .long (jN acc)]) rfl ?_
            refine lv_iload_n hx hb dX11_mean_79 rfl (lv_at hl 2 rfl) ?_
            refine rw_callS hx hb hml hts hown hW ⟨Nat.le_refl 0, Nat.le_refl 0⟩ [.long (jN acc), .long (jN (pow8 n)), .int (iN w)] (c_X11_lowest (l := l) (G := G) (ad := ad) (CA := CA) (nt := nt) acc (pow8 n) w (by omega) (by omega) (by first | omega | decide) Mx) kX11_232 rfl ⟨Nat.le_of_ble_eq_true rfl, Nat.le_of_ble_eq_true rfl⟩ hl.1 rfl (Nat.le_of_ble_eq_true rfl) dX11_mean_80 (fun v12 M13 H locs hp14 hW => ?_)
            obtain ⟨_, rfl, rfl, hp14⟩ := hp14
            rw [hp14] at hW
            refine rw_stk (st' := [.long (jN (fracF acc (pow8 n) w))]) rfl ?_
            refine rw_lret hx hb hr hlocks hW dX11_mean_83 (⟨fracF acc (pow8 n) w, rfl, ?_⟩)
            exact Or.inl ⟨by omega, by rw [hsum], hs⟩
          · refine lv_aload_n hx hb dX11_mean_39 rfl (lv_at hl 0 rfl) ?_
            refine lv_iload_n hx hb dX11_mean_40 rfl (lv_at hl 1 rfl) ?_
            refine lv_iload hx hb dX11_mean_41 (lv_at hl 4 rfl) ?_
            refine rw_callV hx hb hml hts hown hW ⟨Nat.le_refl 0, Nat.le_refl 0⟩ [.int (iN n), .int (iN sm)] 0 lm_0 rfl (c_X11_triesBreaks (l := l) (G := G) (ad := ad) (CA := CA) (nt := nt) (by omega) n (by first | omega | decide) sm (by first | omega | decide) Mx (by rw [hnow]; exact hI) (by rw [hnow]; omega)) kX11_224 rfl ⟨Nat.le_of_ble_eq_true rfl, Nat.le_of_ble_eq_true rfl⟩ hl.1 rfl (Nat.le_of_ble_eq_true rfl) dX11_mean_43 (fun v15 M16 H locs hp17 hW => ?_)
            obtain ⟨a18, rfl, hM16⟩ := hp17
            refine rw_stk (st' := [.long (jN a18)]) rfl ?_
            rw [hnow] at hM16
            have hkr : 0 ≤ pg M16 188 27 ∧ pg M16 188 27 ≤ 21 := by rw [hM16.2.1]; exact bitR_rng n.toNat hI (by omega)
            have hpl : spotF (pg M 0) (pg M16 188 27) = (if pg M16 188 27 = 20 then -1 else if pg M16 188 27 = 21 then M16 0 1 else pg M16 188 27) + 1 := by rw [show M16 0 1 = M 0 1 from congrFun ((hs.trans hM16.2.2).1 0 (by decide)) 1, place_spot M 0]; omega
            have hc47 : M16 0 1 = M 0 1 := congrFun ((hs.trans hM16.2.2).1 0 (by decide)) 1
            refine lv_lstore (lv' := [(6, .long (jN a18)), (0, .ref (ad 0)), (1, .int (iN n)), (2, .int (iN w)), (3, .long (jN acc)), (5, .int (iN sm))]) hx hb dX11_mean_46 hl (by decide) rfl (fun ls hl => ?_)
            refine lv_lload_n hx hb dX11_mean_48 rfl (lv_at hl 4 rfl) ?_
            refine lv_lload hx hb dX11_mean_49 (lv_at hl 0 rfl) ?_
            refine lv_aload_n hx hb dX11_mean_51 rfl (lv_at hl 1 rfl) ?_
            refine lv_aload_n hx hb dX11_mean_52 rfl (lv_at hl 1 rfl) ?_
            refine rw_sipush hx hb dX11_mean_53 (by decide) ?_
            refine rw_callV hx hb hml hts hown hW ⟨Nat.le_refl 0, Nat.le_refl 0⟩ [.int (iN 188)] 0 lm_0 rfl (c_X11_keg (l := l) (G := G) (ad := ad) (CA := CA) (nt := nt) (by omega) 188 (by first | omega | decide) M16) kX11_146 rfl ⟨Nat.le_of_ble_eq_true rfl, Nat.le_of_ble_eq_true rfl⟩ hl.1 rfl (Nat.le_of_ble_eq_true rfl) dX11_mean_56 (fun v19 M20 H locs hp21 hW => ?_)
            obtain ⟨_, rfl, rfl, hp21⟩ := hp21
            rw [hp21] at hW
            refine rw_stk (st' := [.int (iN (pg M16 188 27)), .ref (ad 0), .long (jN a18), .long (jN acc)]) rfl ?_
            refine rw_callV hx hb hml hts hown hW ⟨Nat.le_refl 0, Nat.le_refl 0⟩ [.int (iN (pg M16 188 27))] 0 lm_0 rfl (c_X11_place (l := l) (G := G) (ad := ad) (CA := CA) (nt := nt) (by omega) (pg M16 188 27) (by first | omega | decide) M16) kX11_236 rfl ⟨Nat.le_of_ble_eq_true rfl, Nat.le_of_ble_eq_true rfl⟩ hl.1 rfl (Nat.le_of_ble_eq_true rfl) dX11_mean_59 (fun v22 M23 H locs hp24 hW => ?_)
            obtain ⟨_, rfl, rfl, hp24⟩ := hp24
            rw [hp24] at hW
            refine rw_stk (st' := [.int (iN (if (pg M16 188 27) = 20 then -1 else if (pg M16 188 27) = 21 then M16 0 1 else (pg M16 188 27))), .long (jN a18), .long (jN acc)]) rfl ?_
            refine rw_iconst hx hb dX11_mean_62 ?_
            refine rw_iadd hx hb dX11_mean_63 ?_
            refine rw_i2l hx hb dX11_mean_64 (by omega) ?_
            refine rw_lmul hx hb dX11_mean_65 ?_
            refine rw_ladd hx hb dX11_mean_66 ?_
            refine lv_lstore_n (lv' := [(3, .long (jN (acc + (a18 * ((if (pg M16 188 27) = 20 then -1 else if (pg M16 188 27) = 21 then M16 0 1 else (pg M16 188 27)) + 1))))), (6, .long (jN a18)), (0, .ref (ad 0)), (1, .int (iN n)), (2, .int (iN w)), (5, .int (iN sm))]) hx hb dX11_mean_67 rfl hl (by decide) rfl (fun ls hl => ?_)
            refine rw_iinc (lv' := [(5, .int (iN (sm + 1))), (3, .long (jN (acc + (a18 * ((if (pg M16 188 27) = 20 then -1 else if (pg M16 188 27) = 21 then M16 0 1 else (pg M16 188 27)) + 1))))), (6, .long (jN a18)), (0, .ref (ad 0)), (1, .int (iN n)), (2, .int (iN w))]) hx hb dX11_mean_68 hl (k := 5) rfl (by decide) rfl (fun ls hl => ?_)
            refine lv_goto (tgt := 31) hx hb dX11_mean_71 (by decide) ?_
            exact ih31 (acc + (a18 * ((if (pg M16 188 27) = 20 then -1 else if (pg M16 188 27) = 21 then M16 0 1 else (pg M16 188 27)) + 1))) (sm + 1) M16 H locs ls (by omega) (by omega) (hs.trans hM16.2.2) (by rw [show (sm + 1).toNat = sm.toNat + 1 by omega, sumI_S, show ((sm.toNat : Nat) : Int) = sm by omega, hacc, ← hM16.2.1, ← hM16.1, hpl]) hW (lv_sub hl [3, 4, 5, 1, 0] rfl)
      exact hC_31 _ 0 0 M H locs ls (Nat.lt_succ_self _) (by omega) SameS.rf (by rfl) hW (lv_sub hl [2, 3, 4, 1, 0] rfl)
    · refine rw_stk (st' := [.int (iN 0)]) rfl ?_
      refine rw_if_ne (tgt := 26) hx hb dX11_mean_19 (by decide) (by decide) (fun c => absurd c (by decide)) (fun _ => ?_)
      refine lv_ldc2 (v := (-1)) hx hb hown (hts _ (wm_34 _ (List.mem_of_getElem? (i := 19) rfl))) dX11_mean_22 ?_
      refine rw_stk (st' := [.long (jN (-1))]) (by rw [show (-1 : Int64) = jN (-1) from by decide]) ?_
      refine rw_lret hx hb hr hlocks hW dX11_mean_25 (⟨(-1), rfl, ?_⟩)
      exact Or.inr ⟨by omega, rfl, rfl⟩
  · refine rw_stk (st' := [.int (iN 0)]) rfl ?_
    refine rw_if_eq (tgt := 22) hx hb dX11_mean_9 (by decide) (by decide) (fun _ => ?_) (fun c => absurd (by decide) c)
    refine lv_ldc2 (v := (-1)) hx hb hown (hts _ (wm_34 _ (List.mem_of_getElem? (i := 19) rfl))) dX11_mean_22 ?_
    refine rw_stk (st' := [.long (jN (-1))]) (by rw [show (-1 : Int64) = jN (-1) from by decide]) ?_
    refine rw_lret hx hb hr hlocks hW dX11_mean_25 (⟨(-1), rfl, ?_⟩)
    exact Or.inr ⟨by omega, rfl, rfl⟩
