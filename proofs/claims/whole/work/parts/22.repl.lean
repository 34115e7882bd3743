abbrev P_X2_weigh (n : Int) (M : Mem) : Option Value → Mem → Prop := oV (fun MM => MM 38 2 = pow8 n ∧ (∀ i, 0 ≤ i → i < 11 → MM 121 i = brS n.toNat (fld M 1) 1 i) ∧ Same M MM 38 84)
set_option maxRecDepth 100000 in
set_option maxHeartbeats 4000000 in
theorem c_X2_weigh {l : Launch} {G : va_G} {ad : Nat → Nat} {CA : Nat → ClassId} {nt : Nat} (hnt : 6 ≤ nt) (n : Int) (hn : 0 ≤ n ∧ n ≤ 8) (M : Mem) (hI : InvF (fld M 1)) (hm : fld M 1 46 ≤ 1000) : Mt l yX2_weigh cX2_weigh 4 none 14 337 G ad CA nt LyK [.ref (ad 38), .ref (ad 1), .int (iN n)] M (P_X2_weigh n M) := by
  refine Mt.of (by decide) (Nat.le_of_ble_eq_true rfl) (fun p e s m args below meth c hx hb hr hml hts hown hlocks hnm hW ls hl => ?_)
  have hl : lv_has ls 4 [(0, .ref (ad 38)), (1, .ref (ad 1)), (2, .int (iN n))] := hl
  have hnt4 : 4 ≤ nt := by omega
  obtain ⟨H, hH⟩ : ∃ z, z = s.heap := ⟨_, rfl⟩
  obtain ⟨locs, hlo⟩ : ∃ z : List Loc, z = [] := ⟨_, rfl⟩
  rw [← hH, ← hlo] at hW ⊢
  have hC_2 : ∀ N : Nat, ∀ (i : Int) (Mx : Mem) (H : Heap) (locs : List Loc) (ls : Array Slot), (11 - i).toNat < N → (0 ≤ i ∧ i ≤ 11) → (∀ j, 0 ≤ j → j < i → Mx 121 j = 0) → (Same M Mx 121 1) → Wo G ad CA nt LyK (wA ad LyK) s Mx H locs → lv_has ls 4 [(0, .ref (ad 38)), (1, .ref (ad 1)), (2, .int (iN n)), (3, .int (iN i))] → Wf l 14 337 G ad CA nt LyK (P_X2_weigh n M) p e s m args below meth c H locs (F0 m 2 ls []) := by
    intro N
    induction N with
    | zero => intro i Mx H locs ls hN; exact absurd hN (Nat.not_lt_zero _)
    | succ N ih =>
      intro i Mx H locs ls hN hi hz hs hW hl
      refine lv_iload_n hx hb dX2_weigh_2 rfl (lv_at hl 3 rfl) ?_
      refine lv_aload_n hx hb dX2_weigh_3 rfl (lv_at hl 0 rfl) ?_
      refine rw_getR hx hb hts hown hW 38 lk_38 1 121 rfl fX2_18 dX2_weigh_4 ?_
      refine rw_alen hx hb hW 121 lk_121 (tyL_get (by omega) rfl) dX2_weigh_7 ?_
      refine rw_icmp_ge (tgt := 24) hx hb dX2_weigh_8 (by decide) (by omega) (by decide) (fun c_8 => ?_) (fun c_8 => ?_)
      · refine lv_aload_n hx hb dX2_weigh_24 rfl (lv_at hl 0 rfl) ?_
        refine lv_iload_n hx hb dX2_weigh_25 rfl (lv_at hl 2 rfl) ?_
        refine rw_callS hx hb hml hts hown hW ⟨Nat.le_refl 0, Nat.le_refl 0⟩ [.int (iN n)] (c_X2_wholeOf (l := l) (G := G) (ad := ad) (CA := CA) (nt := nt) n (by omega) Mx) kX2_26 rfl ⟨Nat.le_of_ble_eq_true rfl, Nat.le_of_ble_eq_true rfl⟩ hl.1 rfl (Nat.le_of_ble_eq_true rfl) dX2_weigh_26 (fun v1 M2 H locs hp3 hW => ?_)
        obtain ⟨_, rfl, rfl, hp3⟩ := hp3
        rw [hp3] at hW
        refine rw_stk (st' := [.long (jN (pow8 n)), .ref (ad 38)]) rfl ?_
        refine rw_putL hx hb hts hown hW 38 lk_38 2 2 rfl rfl qX2_22 (v := pow8 n) dX2_weigh_29 (fun H locs hW => ?_)
        obtain ⟨M4, hM4⟩ : ∃ z, z = upd2 Mx 38 2 (pow8 n) := ⟨_, rfl⟩
        rw [← hM4] at hW
        refine lv_aload_n hx hb dX2_weigh_32 rfl (lv_at hl 0 rfl) ?_
        refine rw_getR hx hb hts hown hW 38 lk_38 0 39 rfl fX2_12 dX2_weigh_33 ?_
        refine rw_iconst hx hb dX2_weigh_36 ?_
        refine rw_callV hx hb hml hts hown hW ⟨Nat.le_refl 0, Nat.le_refl 0⟩ [.int (iN 0)] 39 st_39.1 rfl (c_X7_stage (l := l) (G := G) (ad := ad) (CA := CA) (nt := nt) (by omega) 39 st_39 0 (by omega) M4) kX2_30 rfl ⟨Nat.le_of_ble_eq_true rfl, Nat.le_of_ble_eq_true rfl⟩ hl.1 rfl (Nat.le_of_ble_eq_true rfl) dX2_weigh_37 (fun v5 M6 H locs hp7 hW => ?_)
        obtain ⟨o0, rfl, ho0, hp7⟩ := hp7
        rw [hp7] at hW
        have hFo0 : FAt LyK o0 := by rw [ho0]; exact fat_39 (by omega)
        have hnow : fld M4 1 = fld M 1 := by rw [hM4, fld_eq8 (fun q h1 h2 => upd2_ne1 (by omega))]; exact fld_same hs (by omega)
        refine rw_stk (st' := [.ref (ad o0)]) rfl ?_
        refine lv_aload_n hx hb dX2_weigh_40 rfl (lv_at hl 1 rfl) ?_
        refine rw_callV hx hb hml hts hown hW ⟨Nat.le_refl 0, Nat.le_refl 0⟩ [.ref (ad 1)] o0 hFo0.1 rfl (c_X0_copyOf (l := l) (G := G) (ad := ad) (CA := CA) (nt := nt) (by omega) o0 hFo0 1 fk_1 (by omega) M4) kX2_34 rfl ⟨Nat.le_of_ble_eq_true rfl, Nat.le_of_ble_eq_true rfl⟩ hl.1 rfl (Nat.le_of_ble_eq_true rfl) dX2_weigh_41 (fun v8 M9 H locs hp10 hW => ?_)
        obtain ⟨rfl, hM9⟩ := hp10
        refine rw_stk (st' := []) rfl ?_
        refine lv_aload_n hx hb dX2_weigh_44 rfl (lv_at hl 0 rfl) ?_
        refine rw_iconst hx hb dX2_weigh_45 ?_
        refine lv_iload_n hx hb dX2_weigh_46 rfl (lv_at hl 2 rfl) ?_
        refine lv_lconst (v := jN 1) hx hb dX2_weigh_47 rfl ?_
        refine rw_callS hx hb hml hts hown hW ⟨Nat.le_refl 0, Nat.le_refl 0⟩ [.ref (ad 38), .int (iN 0), .int (iN n), .long (jN 1)] (c_X2_branch (l := l) (G := G) (ad := ad) (CA := CA) (nt := nt) 8 (by omega) 0 (by omega) n (by omega) 1 M9 (by rw [← ho0, hM9.1, hnow]; exact hI) (by rw [← ho0, hM9.1, hnow]; omega)) kX2_40 rfl ⟨Nat.le_of_ble_eq_true rfl, Nat.le_of_ble_eq_true rfl⟩ hl.1 rfl (Nat.le_of_ble_eq_true rfl) dX2_weigh_48 (fun v11 M12 H locs hp13 hW => ?_)
        obtain ⟨rfl, hM12⟩ := hp13
        refine rw_stk (st' := []) rfl ?_
        refine rw_vret hx hb hr hlocks hW dX2_weigh_51 (⟨rfl, ?_⟩)
        refine ⟨?_, fun i h1 h2 => ?_, fun q hq => ?_⟩
        · rw [hM12.2 38 (by omega), hM9.2 38 (by omega), hM4, upd2_eq]
        · rw [hM12.1 i h1 h2, ← ho0, hM9.1, hnow, hM9.2 121 (by omega), hM4, upd2_ne1 (by decide), hz i h1 (by omega), Int.zero_add]
        · rw [hM12.2 q (by omega), hM9.2 q (by omega), hM4, upd2_ne1 (by omega), hs q (by omega)]
      · refine lv_aload_n hx hb dX2_weigh_11 rfl (lv_at hl 0 rfl) ?_
        refine rw_getR hx hb hts hown hW 38 lk_38 1 121 rfl fX2_18 dX2_weigh_12 ?_
        refine lv_iload_n hx hb dX2_weigh_15 rfl (lv_at hl 3 rfl) ?_
        refine lv_lconst (v := jN 0) hx hb dX2_weigh_16 rfl ?_
        refine rw_last hx hb hW hnt4 121 lk_121 (v := 0) (by omega) (by omega) (by decide) dX2_weigh_17 (fun H locs hW => ?_)
        obtain ⟨M14, hM14⟩ : ∃ z, z = upd2 Mx 121 i 0 := ⟨_, rfl⟩
        rw [← hM14] at hW
        refine rw_iinc (lv' := [(3, .int (iN (i + 1))), (0, .ref (ad 38)), (1, .ref (ad 1)), (2, .int (iN n))]) hx hb dX2_weigh_18 hl (k := 3) rfl (by decide) rfl (fun ls hl => ?_)
        refine lv_goto (tgt := 2) hx hb dX2_weigh_21 (by decide) ?_
        exact ih (i + 1) M14 H locs ls (by omega) (by omega) (fun j q1 q2 => by rw [hM14, upd2_at]; split; rfl; exact hz j q1 (by omega)) (by rw [hM14]; exact hs.up (by omega) (by omega)) hW (lv_sub hl [1, 2, 3, 0] rfl)
  refine rw_iconst hx hb dX2_weigh_0 ?_
  refine lv_istore_n (lv' := [(3, .int (iN 0)), (0, .ref (ad 38)), (1, .ref (ad 1)), (2, .int (iN n))]) hx hb dX2_weigh_1 rfl hl (by decide) rfl (fun ls hl => ?_)
  exact hC_2 _ 0 M H locs ls (Nat.lt_succ_self _) (by omega) (fun j q1 q2 => absurd q2 (by omega)) Same.rf hW (lv_sub hl [1, 2, 3, 0] rfl)
abbrev P_X2_sumOfSpots (M : Mem) : Option Value → Mem → Prop := oL (fun zz MM => zz = sumTo (M 121) 11 ∧ MM = M)
set_option maxRecDepth 100000 in
set_option maxHeartbeats 4000000 in
theorem c_X2_sumOfSpots {l : Launch} {G : va_G} {ad : Nat → Nat} {CA : Nat → ClassId} {nt : Nat} (hnt : 6 ≤ nt) (M : Mem) : Mt l yX2_sumOfSpots cX2_sumOfSpots 4 (some .long) 0 0 G ad CA nt LyK [.ref (ad 38)] M (P_X2_sumOfSpots M) := by
  refine Mt.of (by decide) (Nat.le_of_ble_eq_true rfl) (fun p e s m args below meth c hx hb hr hml hts hown hlocks hnm hW ls hl => ?_)
  have hl : lv_has ls 4 [(0, .ref (ad 38))] := hl
  have hnt4 : 4 ≤ nt := by omega
  obtain ⟨H, hH⟩ : ∃ z, z = s.heap := ⟨_, rfl⟩
  obtain ⟨locs, hlo⟩ : ∃ z : List Loc, z = [] := ⟨_, rfl⟩
  rw [← hH, ← hlo] at hW ⊢
  have hC_4 : ∀ N : Nat, ∀ (acc : Int) (i : Int) (H : Heap) (locs : List Loc) (ls : Array Slot), (11 - i).toNat < N → (0 ≤ i ∧ i ≤ 11) → (acc = sumTo (M 121) i.toNat) → Wo G ad CA nt LyK (wA ad LyK) s M H locs → lv_has ls 4 [(0, .ref (ad 38)), (1, .long (jN acc)), (3, .int (iN i))] → Wf l 0 0 G ad CA nt LyK (P_X2_sumOfSpots M) p e s m args below meth c H locs (F0 m 4 ls []) := by
    intro N
    induction N with
    | zero => intro acc i H locs ls hN; exact absurd hN (Nat.not_lt_zero _)
    | succ N ih =>
      intro acc i H locs ls hN hi hacc hW hl
      refine lv_iload_n hx hb dX2_sumOfSpots_4 rfl (lv_at hl 2 rfl) ?_
      refine lv_aload_n hx hb dX2_sumOfSpots_5 rfl (lv_at hl 0 rfl) ?_
      refine rw_getR hx hb hts hown hW 38 lk_38 1 121 rfl fX2_18 dX2_sumOfSpots_6 ?_
      refine rw_alen hx hb hW 121 lk_121 (tyL_get (by omega) rfl) dX2_sumOfSpots_9 ?_
      refine rw_icmp_ge (tgt := 31) hx hb dX2_sumOfSpots_10 (by decide) (by omega) (by decide) (fun c_10 => ?_) (fun c_10 => ?_)
      · refine lv_lload_n hx hb dX2_sumOfSpots_31 rfl (lv_at hl 1 rfl) ?_
        refine rw_lret hx hb hr hlocks hW dX2_sumOfSpots_32 (⟨acc, rfl, ?_⟩)
        exact ⟨by rw [hacc, show i.toNat = 11 by omega], rfl⟩
      · refine lv_lload_n hx hb dX2_sumOfSpots_13 rfl (lv_at hl 1 rfl) ?_
        refine lv_aload_n hx hb dX2_sumOfSpots_14 rfl (lv_at hl 0 rfl) ?_
        refine rw_getR hx hb hts hown hW 38 lk_38 1 121 rfl fX2_18 dX2_sumOfSpots_15 ?_
        refine lv_iload_n hx hb dX2_sumOfSpots_18 rfl (lv_at hl 2 rfl) ?_
        refine rw_lald hx hb hW hnt4 121 lk_121 (by omega) (by omega) (by decide) dX2_sumOfSpots_19 (v := (M 121 i)) rfl ?_
        refine lv_iload_n hx hb dX2_sumOfSpots_20 rfl (lv_at hl 2 rfl) ?_
        refine rw_i2l hx hb dX2_sumOfSpots_21 (by omega) ?_
        refine rw_lmul hx hb dX2_sumOfSpots_22 ?_
        refine rw_ladd hx hb dX2_sumOfSpots_23 ?_
        refine lv_lstore_n (lv' := [(1, .long (jN (acc + ((M 121 i) * i)))), (0, .ref (ad 38)), (3, .int (iN i))]) hx hb dX2_sumOfSpots_24 rfl hl (by decide) rfl (fun ls hl => ?_)
        refine rw_iinc (lv' := [(3, .int (iN (i + 1))), (1, .long (jN (acc + ((M 121 i) * i)))), (0, .ref (ad 38))]) hx hb dX2_sumOfSpots_25 hl (k := 2) rfl (by decide) rfl (fun ls hl => ?_)
        refine lv_goto (tgt := 4) hx hb dX2_sumOfSpots_28 (by decide) ?_
        exact ih (acc + ((M 121 i) * i)) (i + 1) H locs ls (by omega) (by omega) (by rw [hacc, show (i + 1).toNat = i.toNat + 1 by omega, sumTo, show ((i.toNat : Nat) : Int) = i by omega]) hW (lv_sub hl [2, 1, 0] rfl)
  refine lv_lconst (v := jN 0) hx hb dX2_sumOfSpots_0 rfl ?_
  refine lv_lstore_n (lv' := [(1, .long (jN 0)), (0, .ref (ad 38))]) hx hb dX2_sumOfSpots_1 rfl hl (by decide) rfl (fun ls hl => ?_)
  refine rw_iconst hx hb dX2_sumOfSpots_2 ?_
  refine lv_istore_n (lv' := [(3, .int (iN 0)), (1, .long (jN 0)), (0, .ref (ad 38))]) hx hb dX2_sumOfSpots_3 rfl hl (by decide) rfl (fun ls hl => ?_)
  exact hC_4 _ 0 0 H locs ls (Nat.lt_succ_self _) (by omega) (by rfl) hW (lv_sub hl [2, 1, 0] rfl)
abbrev P_X10_commonDivisor (u : Int) (v : Int) (M : Mem) : Option Value → Mem → Prop := oL (fun zz MM => zz = gcdI u v ∧ MM = M)
set_option maxRecDepth 100000 in
set_option maxHeartbeats 4000000 in
theorem c_X10_commonDivisor {l : Launch} {G : va_G} {ad : Nat → Nat} {CA : Nat → ClassId} {nt : Nat} {Ly : List LD} (u : Int) (v : Int) (hu : 0 ≤ u ∧ u ≤ 1073741824) (hv : 0 < v ∧ v ≤ 1073741824) (M : Mem) : Mt l yX10_commonDivisor cX10_commonDivisor 7 (some .long) 0 0 G ad CA nt Ly [.long (jN u), .long (jN v)] M (P_X10_commonDivisor u v M) := by
  refine Mt.of (by decide) (Nat.le_of_ble_eq_true rfl) (fun p e s m args below meth c hx hb hr hml hts hown hlocks hnm hW ls hl => ?_)
  have hl : lv_has ls 7 [(0, .long (jN u)), (2, .long (jN v))] := hl
  obtain ⟨H, hH⟩ : ∃ z, z = s.heap := ⟨_, rfl⟩
  obtain ⟨locs, hlo⟩ : ∃ z : List Loc, z = [] := ⟨_, rfl⟩
  rw [← hH, ← hlo] at hW ⊢
  have hC_3 : ∀ N : Nat, ∀ (a : Int) (b : Int) (r : Int) (H : Heap) (locs : List Loc) (ls : Array Slot), (129 - r).toNat < N → (0 ≤ r ∧ r ≤ 128) → (0 ≤ a ∧ a ≤ 1073741824) → (0 ≤ b ∧ b ≤ 1073741824) → (r = 0 ∨ 0 < a) → (gcdI a b = gcdI u v) → (GI a b r.toNat) → Wo G ad CA nt Ly (wA ad Ly) s M H locs → lv_has ls 7 [(0, .long (jN a)), (2, .long (jN b)), (4, .int (iN r))] → Wf l 0 0 G ad CA nt Ly (P_X10_commonDivisor u v M) p e s m args below meth c H locs (F0 m 3 ls []) := by
    intro N
    induction N with
    | zero => intro a b r H locs ls hN; exact absurd hN (Nat.not_lt_zero _)
    | succ N ih =>
      intro a b r H locs ls hN hr1 ha hb1 hp hg hG hW hl
      refine lv_iload hx hb dX10_commonDivisor_3 (lv_at hl 2 rfl) ?_
      refine rw_sipush hx hb dX10_commonDivisor_5 (by decide) ?_
      refine rw_icmp_ge (tgt := 33) hx hb dX10_commonDivisor_8 (by decide) (by omega) (by decide) (fun c_8 => ?_) (fun c_8 => ?_)
      · refine lv_lload_n hx hb dX10_commonDivisor_33 rfl (lv_at hl 0 rfl) ?_
        refine rw_lret hx hb hr hlocks hW dX10_commonDivisor_34 (⟨a, rfl, ?_⟩)
        have hb0 : b = 0 := by have := hG.done; omega
        exact ⟨by rw [← hg, hb0, gcdI_0 (by omega)], rfl⟩
      · refine lv_lload_n hx hb dX10_commonDivisor_11 rfl (lv_at hl 1 rfl) ?_
        refine lv_lconst (v := jN 0) hx hb dX10_commonDivisor_12 rfl ?_
        refine rw_lcmp_eq (tgt := 33) hx hb dX10_commonDivisor_13 dX10_commonDivisor_14 (by decide) (by omega) (by decide) (fun c_13 => ?_) (fun c_13 => ?_)
        · refine lv_lload_n hx hb dX10_commonDivisor_33 rfl (lv_at hl 0 rfl) ?_
          refine rw_lret hx hb hr hlocks hW dX10_commonDivisor_34 (⟨a, rfl, ?_⟩)
          have hb0 : b = 0 := by have := hG.done; omega
          exact ⟨by rw [← hg, hb0, gcdI_0 (by omega)], rfl⟩
        · refine lv_lload_n hx hb dX10_commonDivisor_17 rfl (lv_at hl 0 rfl) ?_
          refine lv_lload_n hx hb dX10_commonDivisor_18 rfl (lv_at hl 1 rfl) ?_
          refine rw_lrem hx hb dX10_commonDivisor_19 (by omega) (by omega) (by omega) (by omega) ?_
          have hb2 : 0 ≤ a % b ∧ a % b ≤ 1073741824 := by have h1 := Int.emod_lt_of_pos a (show 0 < b by omega); have h2 := Int.emod_nonneg a (show b ≠ 0 by omega); omega
          refine lv_lstore (lv' := [(5, .long (jN (a % b))), (0, .long (jN a)), (2, .long (jN b)), (4, .int (iN r))]) hx hb dX10_commonDivisor_20 hl (by decide) rfl (fun ls hl => ?_)
          refine lv_lload_n hx hb dX10_commonDivisor_22 rfl (lv_at hl 2 rfl) ?_
          refine lv_lstore_n (lv' := [(0, .long (jN b)), (5, .long (jN (a % b))), (2, .long (jN b)), (4, .int (iN r))]) hx hb dX10_commonDivisor_23 rfl hl (by decide) rfl (fun ls hl => ?_)
          refine lv_lload hx hb dX10_commonDivisor_24 (lv_at hl 1 rfl) ?_
          refine lv_lstore_n (lv' := [(2, .long (jN (a % b))), (0, .long (jN b)), (5, .long (jN (a % b))), (4, .int (iN r))]) hx hb dX10_commonDivisor_26 rfl hl (by decide) rfl (fun ls hl => ?_)
          refine rw_iinc (lv' := [(4, .int (iN (r + 1))), (2, .long (jN (a % b))), (0, .long (jN b)), (5, .long (jN (a % b)))]) hx hb dX10_commonDivisor_27 hl (k := 3) rfl (by decide) rfl (fun ls hl => ?_)
          refine lv_goto (tgt := 3) hx hb dX10_commonDivisor_30 (by decide) ?_
          exact ih b (a % b) (r + 1) H locs ls (by omega) (by omega) (by omega) hb2 (by omega) (by rw [gcdI_step (by omega) (by omega)]; exact hg) (by rw [show (r + 1).toNat = r.toNat + 1 by omega]; exact hG.step (by omega)) hW (lv_sub hl [2, 1, 0] rfl)
  refine rw_iconst hx hb dX10_commonDivisor_0 ?_
  refine lv_istore (lv' := [(4, .int (iN 0)), (0, .long (jN u)), (2, .long (jN v))]) hx hb dX10_commonDivisor_1 hl (by decide) rfl (fun ls hl => ?_)
  exact hC_3 _ u v 0 H locs ls (Nat.lt_succ_self _) (by omega) (by omega) (by omega) (by omega) rfl (GI.start (by omega) (by omega)) hW (lv_sub hl [1, 2, 0] rfl)
abbrev P_X10_fraction (u : Int) (v : Int) (w : Int) (M : Mem) : Option Value → Mem → Prop := oL (fun zz MM => zz = fracF u v w ∧ MM = M)
set_option maxRecDepth 100000 in
set_option maxHeartbeats 4000000 in
theorem c_X10_fraction {l : Launch} {G : va_G} {ad : Nat → Nat} {CA : Nat → ClassId} {nt : Nat} {Ly : List LD} (u : Int) (v : Int) (w : Int) (hu : 0 ≤ u ∧ u ≤ 1073741824) (hv : 0 < v ∧ v ≤ 1073741824) (hw : in32 w) (M : Mem) : Mt l yX10_fraction cX10_fraction 7 (some .long) 1 26 G ad CA nt Ly [.long (jN u), .long (jN v), .int (iN w)] M (P_X10_fraction u v w M) := by
  refine Mt.of (by decide) (Nat.le_of_ble_eq_true rfl) (fun p e s m args below meth c hx hb hr hml hts hown hlocks hnm hW ls hl => ?_)
  have hl : lv_has ls 7 [(0, .long (jN u)), (2, .long (jN v)), (4, .int (iN w))] := hl
  obtain ⟨H, hH⟩ : ∃ z, z = s.heap := ⟨_, rfl⟩
  obtain ⟨locs, hlo⟩ : ∃ z : List Loc, z = [] := ⟨_, rfl⟩
  rw [← hH, ← hlo] at hW ⊢
  have hgp := gcdI_pos (a := u) hv.1
  have hgl := gcdI_le (a := u) hv.1
  refine lv_lload_n hx hb dX10_fraction_0 rfl (lv_at hl 0 rfl) ?_
  refine lv_lload_n hx hb dX10_fraction_1 rfl (lv_at hl 1 rfl) ?_
  refine rw_callS hx hb hml hts hown hW ⟨Nat.le_refl 0, Nat.le_refl 0⟩ [.long (jN u), .long (jN v)] (c_X10_commonDivisor (l := l) (G := G) (ad := ad) (CA := CA) (nt := nt) u v (by omega) (by omega) M) kX10_315 rfl ⟨Nat.le_of_ble_eq_true rfl, Nat.le_of_ble_eq_true rfl⟩ hl.1 rfl (Nat.le_of_ble_eq_true rfl) dX10_fraction_2 (fun v1 M2 H locs hp3 hW => ?_)
  obtain ⟨_, rfl, rfl, hp3⟩ := hp3
  rw [hp3] at hW
  refine rw_stk (st' := [.long (jN (gcdI u v))]) rfl ?_
  refine lv_lstore (lv' := [(5, .long (jN (gcdI u v))), (0, .long (jN u)), (2, .long (jN v)), (4, .int (iN w))]) hx hb dX10_fraction_5 hl (by decide) rfl (fun ls hl => ?_)
  refine lv_lload hx hb dX10_fraction_7 (lv_at hl 0 rfl) ?_
  refine lv_lconst (v := jN 0) hx hb dX10_fraction_9 rfl ?_
  refine rw_lcmp_gt (tgt := 25) hx hb dX10_fraction_10 dX10_fraction_11 (by decide) (by omega) (by decide) (fun c_10 => ?_) (fun c_10 => ?_)
  · refine lv_iload hx hb dX10_fraction_25 (lv_at hl 3 rfl) ?_
    refine rw_if_ne (tgt := 37) hx hb dX10_fraction_27 (by decide) (by omega) (fun c_27 => ?_) (fun c_27 => ?_)
    · refine lv_lload_n hx hb dX10_fraction_37 rfl (lv_at hl 2 rfl) ?_
      refine lv_lload hx hb dX10_fraction_38 (lv_at hl 0 rfl) ?_
      refine rw_ldiv hx hb dX10_fraction_40 (by omega) (by omega) (by omega) (by omega) ?_
      refine rw_lret hx hb hr hlocks hW dX10_fraction_41 (⟨v / (gcdI u v), rfl, ?_⟩)
      exact ⟨by unfold fracF; rw [if_neg c_27], rfl⟩
    · refine lv_lload_n hx hb dX10_fraction_30 rfl (lv_at hl 1 rfl) ?_
      refine lv_lload hx hb dX10_fraction_31 (lv_at hl 0 rfl) ?_
      refine rw_ldiv hx hb dX10_fraction_33 (by omega) (by omega) (by omega) (by omega) ?_
      refine lv_goto (tgt := 41) hx hb dX10_fraction_34 (by decide) ?_
      refine rw_lret hx hb hr hlocks hW dX10_fraction_41 (⟨u / (gcdI u v), rfl, ?_⟩)
      exact ⟨by unfold fracF; rw [if_pos c_27], rfl⟩
  · exfalso; omega
abbrev P_X4_sentIn (k : Int) (M : Mem) : Option Value → Mem → Prop := oI (fun zz MM => zz = M 206 k ∧ MM = M)
set_option maxRecDepth 100000 in
set_option maxHeartbeats 4000000 in
theorem c_X4_sentIn {l : Launch} {G : va_G} {ad : Nat → Nat} {CA : Nat → ClassId} {nt : Nat} (hnt : 6 ≤ nt) (k : Int) (hk : 0 ≤ k ∧ k < 4) (M : Mem) : Mt l yX4_sentIn cX4_sentIn 2 (some .int) 0 0 G ad CA nt LyK [.ref (ad 122), .int (iN k)] M (P_X4_sentIn k M) := by
  refine Mt.of (by decide) (Nat.le_of_ble_eq_true rfl) (fun p e s m args below meth c hx hb hr hml hts hown hlocks hnm hW ls hl => ?_)
  have hl : lv_has ls 2 [(0, .ref (ad 122)), (1, .int (iN k))] := hl
  have hnt4 : 4 ≤ nt := by omega
  obtain ⟨H, hH⟩ : ∃ z, z = s.heap := ⟨_, rfl⟩
  obtain ⟨locs, hlo⟩ : ∃ z : List Loc, z = [] := ⟨_, rfl⟩
  rw [← hH, ← hlo] at hW ⊢
  refine lv_iload_n hx hb dX4_sentIn_0 rfl (lv_at hl 1 rfl) ?_
  refine rw_if_lt (tgt := 18) hx hb dX4_sentIn_1 (by decide) (by omega) (fun c_1 => ?_) (fun c_1 => ?_)
  · exfalso; omega
  · refine lv_iload_n hx hb dX4_sentIn_4 rfl (lv_at hl 1 rfl) ?_
    refine rw_iconst hx hb dX4_sentIn_5 ?_
    refine rw_icmp_ge (tgt := 18) hx hb dX4_sentIn_6 (by decide) (by omega) (by decide) (fun c_6 => ?_) (fun c_6 => ?_)
    · exfalso; omega
    · refine lv_aload_n hx hb dX4_sentIn_9 rfl (lv_at hl 0 rfl) ?_
      refine rw_getR hx hb hts hown hW 122 lk_122 2 206 rfl fX4_22 dX4_sentIn_10 ?_
      refine lv_iload_n hx hb dX4_sentIn_13 rfl (lv_at hl 1 rfl) ?_
      refine rw_iald hx hb hW hnt4 206 lk_206 (by omega) (by omega) (by decide) dX4_sentIn_14 (v := (M 206 k)) rfl ?_
      refine lv_goto (tgt := 19) hx hb dX4_sentIn_15 (by decide) ?_
      refine rw_iret hx hb hr hlocks hW dX4_sentIn_19 (⟨(M 206 k), rfl, ?_⟩)
      exact ⟨rfl, rfl⟩
abbrev P_X4_take (o : Nat) (M : Mem) : Option Value → Mem → Prop := oV (fun MM => MM 122 5 = distF (fld M o) (M 122 3) ∧ MM 122 6 = M o 1 ∧ (∀ j, 0 ≤ j → j < 4 → MM 206 j = M 205 j) ∧ MM 122 3 = M 122 3 ∧ MM 122 4 = M 122 4 ∧ ∀ q : Nat, q ≠ 122 → q ≠ 206 → MM q = M q)
set_option maxRecDepth 100000 in
set_option maxHeartbeats 4000000 in
theorem c_X4_take {l : Launch} {G : va_G} {ad : Nat → Nat} {CA : Nat → ClassId} {nt : Nat} (hnt : 6 ≤ nt) (o : Nat) (hF : FAt LyK o) (ho : 133 ≤ o ∧ o ≤ 197) (M : Mem) (hS3 : M 122 3 = 0 ∨ M 122 3 = 1) (hc : 3 ≤ M o 0 ∧ M o 0 ≤ 9) (hk : 0 ≤ M o 1 ∧ M o 1 ≤ 21) : Mt l yX4_take cX4_take 2 none 3 62 G ad CA nt LyK [.ref (ad 122), .ref (ad o)] M (P_X4_take o M) := by
  refine Mt.of (by decide) (Nat.le_of_ble_eq_true rfl) (fun p e s m args below meth c hx hb hr hml hts hown hlocks hnm hW ls hl => ?_)
  have hl : lv_has ls 2 [(0, .ref (ad 122)), (1, .ref (ad o))] := hl
  have hnt4 : 4 ≤ nt := by omega
  obtain ⟨H, hH⟩ : ∃ z, z = s.heap := ⟨_, rfl⟩
  obtain ⟨locs, hlo⟩ : ∃ z : List Loc, z = [] := ⟨_, rfl⟩
  rw [← hH, ← hlo] at hW ⊢
  refine lv_aload_n hx hb dX4_take_0 rfl (lv_at hl 0 rfl) ?_
  refine lv_aload_n hx hb dX4_take_1 rfl (lv_at hl 1 rfl) ?_
  refine lv_aload_n hx hb dX4_take_2 rfl (lv_at hl 0 rfl) ?_
  refine rw_getI hx hb hts hown hW 122 lk_122 3 3 rfl rfl fX4_25 dX4_take_3 (v := (M 122 3)) rfl ?_
  refine rw_callV hx hb hml hts hown hW ⟨Nat.le_refl 0, Nat.le_refl 0⟩ [.int (iN (M 122 3))] o hF.1 rfl (c_X0_distanceOf (l := l) (G := G) (ad := ad) (CA := CA) (nt := nt) o hF (M 122 3) (by omega) M hc hk) kX4_73 rfl ⟨Nat.le_of_ble_eq_true rfl, Nat.le_of_ble_eq_true rfl⟩ hl.1 rfl (Nat.le_of_ble_eq_true rfl) dX4_take_6 (fun v1 M2 H locs hp3 hW => ?_)
  obtain ⟨_, rfl, rfl, hp3⟩ := hp3
  rw [hp3] at hW
  refine rw_stk (st' := [.int (iN (distF (fld M o) (M 122 3))), .ref (ad 122)]) rfl ?_
  refine rw_putI hx hb hts hown hW 122 lk_122 5 5 rfl rfl qX4_32 (v := distF (fld M o) (M 122 3)) dX4_take_9 (fun H locs hW => ?_)
  obtain ⟨M4, hM4⟩ : ∃ z, z = upd2 M 122 5 (distF (fld M o) (M 122 3)) := ⟨_, rfl⟩
  rw [← hM4] at hW
  refine lv_aload_n hx hb dX4_take_12 rfl (lv_at hl 0 rfl) ?_
  refine lv_aload_n hx hb dX4_take_13 rfl (lv_at hl 1 rfl) ?_
  refine rw_getI hx hb hts hown hW o hF.1 1 1 rfl rfl fX4_77 dX4_take_14 (v := (M o 1)) (by rw [hM4, upd2_ne1 (by omega)]) ?_
  refine rw_putI hx hb hts hown hW 122 lk_122 6 6 rfl rfl qX4_80 (v := (M o 1)) dX4_take_17 (fun H locs hW => ?_)
  obtain ⟨M5, hM5⟩ : ∃ z, z = upd2 M4 122 6 (M o 1) := ⟨_, rfl⟩
  rw [← hM5] at hW
  refine lv_aload_n hx hb dX4_take_20 rfl (lv_at hl 0 rfl) ?_
  refine rw_getR hx hb hts hown hW 122 lk_122 1 205 rfl fX4_18 dX4_take_21 ?_
  refine rw_iconst hx hb dX4_take_24 ?_
  refine lv_aload_n hx hb dX4_take_25 rfl (lv_at hl 0 rfl) ?_
  refine rw_getR hx hb hts hown hW 122 lk_122 2 206 rfl fX4_22 dX4_take_26 ?_
  refine rw_iconst hx hb dX4_take_29 ?_
  refine rw_iconst hx hb dX4_take_30 ?_
  refine rw_copy hx hb hml hl.1 hts hown hW hnt4 (index := 81) ⟨(wm_37 _ (List.mem_of_getElem? (i := 2) rfl)), (wm_15 _ (List.mem_of_getElem? (i := 16) rfl)), (wm_15 _ (List.mem_of_getElem? (i := 17) rfl)), (wm_15 _ (List.mem_of_getElem? (i := 18) rfl))⟩ 205 206 lk_205 lk_206 (n := 4) (by decide) (by decide) (by decide) ⟨Nat.le_of_ble_eq_true rfl, Nat.le_of_ble_eq_true rfl⟩ dX4_take_31 (fun H locs hW => ?_)
  obtain ⟨M6, hM6⟩ : ∃ z, z = updR M5 206 (cpyI (M5 205) (M5 206) 4) := ⟨_, rfl⟩
  rw [show ((4 : Nat) : Int) = 4 from rfl, ← hM6] at hW
  refine rw_vret hx hb hr hlocks hW dX4_take_34 (⟨rfl, ?_⟩)
  refine ⟨?_, ?_, fun j h1 h2 => ?_, ?_, ?_, fun q h1 h2 => ?_⟩
  · simp [hM4, hM5, hM6, upd2_at, updR, cpyI, show o ≠ 122 by omega]
  · simp [hM4, hM5, hM6, upd2_at, updR, cpyI, show o ≠ 122 by omega]
  · simp [hM4, hM5, hM6, upd2_at, updR, cpyI, h1, h2]
  · simp [hM4, hM5, hM6, upd2_at, updR, cpyI, show o ≠ 122 by omega]
  · simp [hM4, hM5, hM6, upd2_at, updR, cpyI, show o ≠ 122 by omega]
  · simp [hM4, hM5, hM6, updR, h2, upd2_ne1 h1]
abbrev P_X4_search (sx : Int) (n : Int) (k : Int) (pt : Int → Int) (B : BS) (M : Mem) : Option Value → Mem → Prop := oV (fun MM => MM 122 5 = (srch sx (n - k).toNat k (fld M (123 + 10 + 8 * k.toNat)) pt B).1 ∧ MM 122 6 = (srch sx (n - k).toNat k (fld M (123 + 10 + 8 * k.toNat)) pt B).2.1 ∧ (∀ j, 0 ≤ j → j < n → MM 206 j = (srch sx (n - k).toNat k (fld M (123 + 10 + 8 * k.toNat)) pt B).2.2 j) ∧ (∀ j, 0 ≤ j → j < k → MM 205 j = M 205 j) ∧ MM 122 3 = M 122 3 ∧ MM 122 4 = M 122 4 ∧ ∀ q : Nat, q ≠ 122 → q ≠ 205 → q ≠ 206 → (q < 141 + 8 * k.toNat ∨ 205 ≤ q) → MM q = M q)
set_option maxRecDepth 100000 in
set_option maxHeartbeats 4000000 in
theorem c_X4_search {l : Launch} {G : va_G} {ad : Nat → Nat} {CA : Nat → ClassId} {nt : Nat} : ∀ (d : Nat) (hnt : 6 ≤ nt) (sx : Int) (hsx : sx = 0 ∨ sx = 1) (n : Int) (k : Int) (hkk : 0 ≤ k ∧ k ≤ n ∧ n - k ≤ d) (pt : Int → Int) (B : BS) (M : Mem) (hs3 : M 122 3 = sx) (hn4 : M 122 4 = n ∧ 1 ≤ n ∧ n ≤ 4) (hI : InvF (fld M (123 + 10 + 8 * k.toNat))) (hm : fld M (123 + 10 + 8 * k.toNat) 46 + (n - k) ≤ 2000) (hB : M 122 5 = B.1 ∧ M 122 6 = B.2.1 ∧ ∀ j, 0 ≤ j → j < n → M 206 j = B.2.2 j) (hB1 : 0 ≤ B.1 ∧ B.1 ≤ 11) (hp : ∀ j, 0 ≤ j → j < k → M 205 j = pt j) (hleaf : k = n → distF (fld M (123 + 10 + 8 * k.toNat)) sx < B.1), Mt l yX4_search cX4_search 7 none (5 + d) (105 + 26 * d) G ad CA nt LyK [.ref (ad 122), .int (iN k)] M (P_X4_search sx n k pt B M) := by
  intro d
  induction d using Nat.strongRecOn with
  | ind d ihd =>
  intro hnt sx hsx n k hkk pt B M hs3 hn4 hI hm hB hB1 hp hleaf
  refine Mt.of (by decide) (Nat.le_of_ble_eq_true rfl) (fun p e s m args below meth c hx hb hr hml hts hown hlocks hnm hW ls hl => ?_)
  have hl : lv_has ls 7 [(0, .ref (ad 122)), (1, .int (iN k))] := hl
  have hnt4 : 4 ≤ nt := by omega
  obtain ⟨H, hH⟩ : ∃ z, z = s.heap := ⟨_, rfl⟩
  obtain ⟨locs, hlo⟩ : ∃ z : List Loc, z = [] := ⟨_, rfl⟩
  rw [← hH, ← hlo] at hW ⊢
  rcases hsx with rfl | rfl
  · have hC_61 : ∀ (oh : Nat) (mo : Int) (H : Heap) (locs : List Loc) (ls : Array Slot), (k < n) → (oh = 123 + 10 + 8 * k.toNat) → (FAt LyK oh) → (mo = mostF (fld M oh) 0) → Wo G ad CA nt LyK (wA ad LyK) s M H locs → lv_has ls 7 [(0, .ref (ad 122)), (1, .int (iN k)), (2, .ref (ad oh)), (3, .int (iN (n - k - 1))), (4, .int (iN mo))] → Wf l (5 + d) (105 + 26 * d) G ad CA nt LyK (P_X4_search 0 n k pt B M) p e s m args below meth c H locs (F0 m 61 ls []) := by
      intro oh mo H locs ls hkn hoh hFoh hmo hW hl
      rw [← hoh] at hI hm hleaf
      have hc := hI.c
      have hk2 := hI.k2
      have hmr := mostF_rng hI (s := 0) (by decide)
      rw [← hmo] at hmr
      refine lv_aload_n hx hb dX4_search_61 rfl (lv_at hl 0 rfl) ?_
      refine rw_getR hx hb hts hown hW 122 lk_122 0 123 rfl fX4_12 dX4_search_62 ?_
      refine lv_iload_n hx hb dX4_search_65 rfl (lv_at hl 1 rfl) ?_
      refine rw_iconst hx hb dX4_search_66 ?_
      refine rw_iadd hx hb dX4_search_67 ?_
      refine rw_callV hx hb hml hts hown hW ⟨Nat.le_refl 0, Nat.le_refl 0⟩ [.int (iN (k + 1))] 123 st_123.1 rfl (c_X7_stage (l := l) (G := G) (ad := ad) (CA := CA) (nt := nt) (by omega) 123 st_123 (k + 1) (by omega) M) kX4_35 rfl ⟨by dsimp only; omega, by dsimp only; omega⟩ hl.1 rfl (Nat.le_of_ble_eq_true rfl) dX4_search_68 (fun v1 M2 H locs hp3 hW => ?_)
      obtain ⟨on, rfl, hon, hp3⟩ := hp3
      rw [hp3] at hW
      have hFon : FAt LyK on := by rw [hon]; exact fat_123 (by omega)
      refine rw_stk (st' := [.ref (ad on)]) rfl ?_
      refine lv_astore (lv' := [(5, .ref (ad on)), (0, .ref (ad 122)), (1, .int (iN k)), (2, .ref (ad oh)), (3, .int (iN (n - k - 1))), (4, .int (iN mo))]) hx hb dX4_search_71 hl (by decide) rfl (fun ls hl => ?_)
      refine rw_iconst hx hb dX4_search_73 ?_
      refine lv_istore (lv' := [(6, .int (iN 0)), (5, .ref (ad on)), (0, .ref (ad 122)), (1, .int (iN k)), (2, .ref (ad oh)), (3, .int (iN (n - k - 1))), (4, .int (iN mo))]) hx hb dX4_search_74 hl (by decide) rfl (fun ls hl => ?_)
      have hC_76 : ∀ N : Nat, ∀ (cv : Int) (Mx : Mem) (Bx : BS) (H : Heap) (locs : List Loc) (ls : Array Slot), (mo + 1 - cv).toNat < N → (0 ≤ cv ∧ cv ≤ mo + 1) → (Bx = foldB (fun c B => srch 0 (n - k - 1).toNat (k + 1) (passBut (fld M oh) 0 c) (updI pt k c) B) cv.toNat B) → (Mx 122 5 = Bx.1) → (Mx 122 6 = Bx.2.1) → (∀ j, 0 ≤ j → j < n → Mx 206 j = Bx.2.2 j) → (0 ≤ Bx.1 ∧ Bx.1 ≤ 11) → (∀ j, 0 ≤ j → j < k → Mx 205 j = M 205 j) → (Mx 122 3 = 0) → (Mx 122 4 = n) → (∀ q : Nat, q ≠ 122 → q ≠ 205 → q ≠ 206 → (q < 141 + 8 * k.toNat ∨ 205 ≤ q) → Mx q = M q) → Wo G ad CA nt LyK (wA ad LyK) s Mx H locs → lv_has ls 7 [(0, .ref (ad 122)), (1, .int (iN k)), (2, .ref (ad oh)), (3, .int (iN (n - k - 1))), (4, .int (iN mo)), (5, .ref (ad on)), (6, .int (iN cv))] → Wf l (5 + d) (105 + 26 * d) G ad CA nt LyK (P_X4_search 0 n k pt B M) p e s m args below meth c H locs (F0 m 76 ls []) := by
        intro N
        induction N with
        | zero => intro cv Mx Bx H locs ls hN; exact absurd hN (Nat.not_lt_zero _)
        | succ N ih =>
          intro cv Mx Bx H locs ls hN hc0 hBx hb5 hb6 hb206 hbr h205 hx3 hx4 hfr hW hl
          have hfo : fld Mx oh = fld M oh := fld_eq8 (fun q h1 h2 => hfr q (by omega) (by omega) (by omega) (by omega))
          refine lv_iload hx hb dX4_search_76 (lv_at hl 6 rfl) ?_
          refine lv_iload hx hb dX4_search_78 (lv_at hl 4 rfl) ?_
          refine rw_icmp_gt (tgt := 138) hx hb dX4_search_80 (by decide) (by omega) (by omega) (fun c_80 => ?_) (fun c_80 => ?_)
          · refine rw_vret hx hb hr hlocks hW dX4_search_138 (⟨rfl, ?_⟩)
            rw [← hoh, show (n - k).toNat = (n - k - 1).toNat + 1 by omega, srch_1, ← hmo, show (mo + 1).toNat = cv.toNat by omega, ← hBx]
            exact ⟨hb5, hb6, hb206, h205, by rw [hx3, hs3], by rw [hx4, hn4.1], hfr⟩
          · refine lv_aload_n hx hb dX4_search_83 rfl (lv_at hl 0 rfl) ?_
            refine rw_getR hx hb hts hown hW 122 lk_122 1 205 rfl fX4_18 dX4_search_84 ?_
            refine lv_iload_n hx hb dX4_search_87 rfl (lv_at hl 1 rfl) ?_
            refine lv_iload hx hb dX4_search_88 (lv_at hl 6 rfl) ?_
            refine rw_iast hx hb hW hnt4 205 lk_205 (v := cv) (by omega) (by omega) (by decide) dX4_search_90 (fun H locs hW => ?_)
            obtain ⟨M4, hM4⟩ : ∃ z, z = upd2 Mx 205 k cv := ⟨_, rfl⟩
            rw [← hM4] at hW
            refine lv_aload hx hb dX4_search_91 (lv_at hl 5 rfl) ?_
            refine lv_aload_n hx hb dX4_search_93 rfl (lv_at hl 2 rfl) ?_
            refine rw_callV hx hb hml hts hown hW ⟨Nat.le_refl 0, Nat.le_refl 0⟩ [.ref (ad oh)] on hFon.1 rfl (c_X0_copyOf (l := l) (G := G) (ad := ad) (CA := CA) (nt := nt) (by omega) on hFon oh hFoh (by omega) M4) kX4_39 rfl ⟨by dsimp only; omega, by dsimp only; omega⟩ hl.1 rfl (Nat.le_of_ble_eq_true rfl) dX4_search_94 (fun v5 M6 H locs hp7 hW => ?_)
            obtain ⟨rfl, hM6⟩ := hp7
            refine rw_stk (st' := []) rfl ?_
            refine lv_aload hx hb dX4_search_97 (lv_at hl 5 rfl) ?_
            refine lv_aload_n hx hb dX4_search_99 rfl (lv_at hl 0 rfl) ?_
            refine rw_getI hx hb hts hown hW 122 lk_122 3 3 rfl rfl fX4_25 dX4_search_100 (v := 0) (by rw [hM6.2 122 (by omega), hM4, upd2_ne1 (by decide)]; exact hx3) ?_
            refine lv_iload hx hb dX4_search_103 (lv_at hl 6 rfl) ?_
            refine rw_callV hx hb hml hts hown hW ⟨Nat.le_refl 0, Nat.le_refl 0⟩ [.int (iN 0), .int (iN cv)] on hFon.1 rfl (c_X0_passByCaptainsBut (l := l) (G := G) (ad := ad) (CA := CA) (nt := nt) (by omega) on hFon 0 (by decide) cv M6 (by rw [hM6.1, hM4, fld_eq8 (fun q h1 h2 => upd2_ne1 (by omega)), hfo]; exact hI) (by rw [hM6.1, hM4, fld_eq8 (fun q h1 h2 => upd2_ne1 (by omega)), hfo]; omega)) kX4_65 rfl ⟨by dsimp only; omega, by dsimp only; omega⟩ hl.1 rfl (Nat.le_of_ble_eq_true rfl) dX4_search_105 (fun v8 M9 H locs hp10 hW => ?_)
            obtain ⟨rfl, hM9⟩ := hp10
            refine rw_stk (st' := []) rfl ?_
            have hpg : fld M9 on = passBut (fld M oh) 0 cv := by rw [hM9.1, hM6.1, hM4, fld_eq8 (fun q h1 h2 => upd2_ne1 (by omega)), hfo]
            have hpi := passBut_inv hI (by omega) (s := 0) (x := cv) (by decide) (by omega)
            have hpm := passBut_min (fld M oh) 0 cv
            have hm3 : ∀ q : Nat, q ≠ 205 → (q < on ∨ on + 8 ≤ q) → M9 q = Mx q := fun q h1 h2 => by rw [hM9.2 q h2, hM6.2 q h2, hM4]; exact upd2_ne1 h1
            have hm5 : M9 205 = upd2 Mx 205 k cv 205 := by rw [hM9.2 205 (by omega), hM6.2 205 (by omega), hM4]
            have hnr := distF_rng hpi 0
            refine lv_aload hx hb dX4_search_108 (lv_at hl 5 rfl) ?_
            refine lv_aload_n hx hb dX4_search_110 rfl (lv_at hl 0 rfl) ?_
            refine rw_getI hx hb hts hown hW 122 lk_122 3 3 rfl rfl fX4_25 dX4_search_111 (v := 0) (by rw [hM9.2 122 (by omega), hM6.2 122 (by omega), hM4, upd2_ne1 (by decide)]; exact hx3) ?_
            refine lv_iload_n hx hb dX4_search_114 rfl (lv_at hl 3 rfl) ?_
            refine rw_callV hx hb hml hts hown hW ⟨Nat.le_refl 0, Nat.le_refl 0⟩ [.int (iN 0), .int (iN (n - k - 1))] on hFon.1 rfl (c_X0_nearestOf (l := l) (G := G) (ad := ad) (CA := CA) (nt := nt) on hFon 0 (by omega) (n - k - 1) (by omega) M9 (by rw [hpg]; exact hpi)) kX4_69 rfl ⟨by dsimp only; omega, by dsimp only; omega⟩ hl.1 rfl (Nat.le_of_ble_eq_true rfl) dX4_search_115 (fun v11 M12 H locs hp13 hW => ?_)
            obtain ⟨_, rfl, rfl, hp13⟩ := hp13
            rw [hp13] at hW
            refine rw_stk (st' := [.int (iN (nearF (fld M9 on) 0 (n - k - 1)))]) rfl ?_
            have hnf := nearF_rng (f := fld M9 on) (by rw [hpg]; exact hpi) 0 (n := n - k - 1) (by omega)
            refine lv_aload_n hx hb dX4_search_118 rfl (lv_at hl 0 rfl) ?_
            refine rw_getI hx hb hts hown hW 122 lk_122 5 5 rfl rfl fX4_32 dX4_search_119 (v := Bx.1) (by rw [hM9.2 122 (by omega), hM6.2 122 (by omega), hM4, upd2_ne1 (by decide)]; exact hb5) ?_
            refine rw_icmp_ge (tgt := 132) hx hb dX4_search_122 (by decide) (by omega) (by omega) (fun c_122 => ?_) (fun c_122 => ?_)
            · have hcut := srch_cut (s := 0) (by decide) (n - k - 1).toNat (k + 1) (passBut (fld M oh) 0 cv) (updI pt k cv) Bx hpi (by omega) (by rw [show (((n - k - 1).toNat : Nat) : Int) = n - k - 1 by omega, ← hpg]; omega)
              refine rw_iinc (lv' := [(6, .int (iN (cv + 1))), (0, .ref (ad 122)), (1, .int (iN k)), (2, .ref (ad oh)), (3, .int (iN (n - k - 1))), (4, .int (iN mo)), (5, .ref (ad on))]) hx hb dX4_search_132 hl (k := 6) rfl (by decide) rfl (fun ls hl => ?_)
              refine lv_goto (tgt := 76) hx hb dX4_search_135 (by decide) ?_
              exact ih (cv + 1) M9 Bx H locs ls (by omega) (by omega) (by rw [show (cv + 1).toNat = cv.toNat + 1 by omega, foldB, ← hBx, show ((cv.toNat : Nat) : Int) = cv by omega]; exact hcut.symm) (by rw [hm3 122 (by omega) (by omega)]; exact hb5) (by rw [hm3 122 (by omega) (by omega)]; exact hb6) (fun j h1 h2 => by rw [hm3 206 (by omega) (by omega)]; exact hb206 j h1 h2) hbr (fun j h1 h2 => by rw [hm5, upd2_ne2 (by omega)]; exact h205 j h1 h2) (by rw [hm3 122 (by omega) (by omega)]; exact hx3) (by rw [hm3 122 (by omega) (by omega)]; exact hx4) (fun q h1 h2 h3 h4 => by rw [hm3 q (by omega) (by omega)]; exact hfr q h1 h2 h3 h4) hW (lv_sub hl [1, 2, 3, 4, 5, 6, 0] rfl)
            · refine lv_aload_n hx hb dX4_search_125 rfl (lv_at hl 0 rfl) ?_
              refine lv_iload_n hx hb dX4_search_126 rfl (lv_at hl 1 rfl) ?_
              refine rw_iconst hx hb dX4_search_127 ?_
              refine rw_iadd hx hb dX4_search_128 ?_
              refine rw_callS hx hb hml hts hown hW ⟨Nat.le_refl 0, Nat.le_refl 0⟩ [.ref (ad 122), .int (iN (k + 1))] (ihd (d - 1) (by omega) (by omega) 0 (by decide) n (k + 1) (by omega) (updI pt k cv) Bx M9 (by rw [hm3 122 (by omega) (by omega)]; exact hx3) ⟨by rw [hm3 122 (by omega) (by omega)]; exact hx4, hn4.2⟩ (by rw [← hon, hpg]; exact hpi) (by rw [← hon, hpg]; omega) ⟨by rw [hm3 122 (by omega) (by omega)]; exact hb5, by rw [hm3 122 (by omega) (by omega)]; exact hb6, fun j h1 h2 => by rw [hm3 206 (by omega) (by omega)]; exact hb206 j h1 h2⟩ hbr (fun j h1 h2 => by rw [hm5, upd2_at]; unfold updI; by_cases e : j = k; rw [if_pos ⟨rfl, e⟩, if_pos e]; rw [if_neg (fun z => e z.2), if_neg e, h205 j h1 (by omega)]; exact hp j h1 (by omega)) (fun e => by rw [← hon]; have h1 : nearF (fld M9 on) 0 (n - k - 1) < Bx.1 := Int.not_le.mp c_122; unfold nearF at h1; split at h1 <;> omega)) kX4_45 rfl ⟨by dsimp only; omega, by dsimp only; omega⟩ hl.1 rfl (Nat.le_of_ble_eq_true rfl) dX4_search_129 (fun v14 M15 H locs hp16 hW => ?_)
              obtain ⟨rfl, hM15⟩ := hp16
              refine rw_stk (st' := []) rfl ?_
              refine rw_iinc (lv' := [(6, .int (iN (cv + 1))), (0, .ref (ad 122)), (1, .int (iN k)), (2, .ref (ad oh)), (3, .int (iN (n - k - 1))), (4, .int (iN mo)), (5, .ref (ad on))]) hx hb dX4_search_132 hl (k := 6) rfl (by decide) rfl (fun ls hl => ?_)
              refine lv_goto (tgt := 76) hx hb dX4_search_135 (by decide) ?_
              exact ih (cv + 1) M15 (srch 0 (n - (k + 1)).toNat (k + 1) (fld M9 (123 + 10 + 8 * (k + 1).toNat)) (updI pt k cv) Bx) H locs ls (by omega) (by omega) (by rw [show (cv + 1).toNat = cv.toNat + 1 by omega, foldB, ← hBx, show ((cv.toNat : Nat) : Int) = cv by omega, ← hon, hpg, show n - (k + 1) = n - k - 1 by omega]) hM15.1 hM15.2.1 hM15.2.2.1 (by have := srch_rng (s := 0) (by decide) (n - (k + 1)).toNat (k + 1) (fld M9 (123 + 10 + 8 * (k + 1).toNat)) (updI pt k cv) Bx (by rw [← hon, hpg]; exact hpi) (by rw [← hon, hpg]; omega) hbr.1; omega) (fun j h1 h2 => by rw [hM15.2.2.2.1 j h1 (by omega), hm5, upd2_ne2 (by omega)]; exact h205 j h1 h2) (by rw [hM15.2.2.2.2.1, hm3 122 (by omega) (by omega)]; exact hx3) (by rw [hM15.2.2.2.2.2.1, hm3 122 (by omega) (by omega)]; exact hx4) (fun q h1 h2 h3 h4 => by rw [hM15.2.2.2.2.2.2 q h1 h2 h3 (by omega), hm3 q (by omega) (by omega)]; exact hfr q h1 h2 h3 h4) hW (lv_sub hl [1, 2, 3, 4, 5, 6, 0] rfl)
      exact hC_76 _ 0 M B H locs ls (Nat.lt_succ_self _) (by omega) rfl hB.1 hB.2.1 hB.2.2 hB1 (fun j _ _ => rfl) hs3 hn4.1 (fun q _ _ _ _ => rfl) hW (lv_sub hl [2, 3, 4, 5, 6, 1, 0] rfl)
    refine lv_aload_n hx hb dX4_search_0 rfl (lv_at hl 0 rfl) ?_
    refine rw_getR hx hb hts hown hW 122 lk_122 0 123 rfl fX4_12 dX4_search_1 ?_
    refine lv_iload_n hx hb dX4_search_4 rfl (lv_at hl 1 rfl) ?_
    refine rw_callV hx hb hml hts hown hW ⟨Nat.le_refl 0, Nat.le_refl 0⟩ [.int (iN k)] 123 st_123.1 rfl (c_X7_stage (l := l) (G := G) (ad := ad) (CA := CA) (nt := nt) (by omega) 123 st_123 k (by omega) M) kX4_35 rfl ⟨by dsimp only; omega, by dsimp only; omega⟩ hl.1 rfl (Nat.le_of_ble_eq_true rfl) dX4_search_5 (fun v17 M18 H locs hp19 hW => ?_)
    obtain ⟨oh, rfl, hoh, hp19⟩ := hp19
    rw [hp19] at hW
    have hFoh : FAt LyK oh := by rw [hoh]; exact fat_123 (by omega)
    rw [← hoh] at hI hm hleaf
    have hc := hI.c
    have hk2 := hI.k2
    have hf0 := hI.s0.f
    have hf1 := hI.s1.f
    refine rw_stk (st' := [.ref (ad oh)]) rfl ?_
    refine lv_astore_n (lv' := [(2, .ref (ad oh)), (0, .ref (ad 122)), (1, .int (iN k))]) hx hb dX4_search_8 rfl hl (by decide) rfl (fun ls hl => ?_)
    refine lv_iload_n hx hb dX4_search_9 rfl (lv_at hl 2 rfl) ?_
    refine lv_aload_n hx hb dX4_search_10 rfl (lv_at hl 1 rfl) ?_
    refine rw_getI hx hb hts hown hW 122 lk_122 4 4 rfl rfl fX4_29 dX4_search_11 (v := n) hn4.1 ?_
    refine rw_icmp_ge (tgt := 22) hx hb dX4_search_14 (by decide) (by omega) (by omega) (fun c_14 => ?_) (fun c_14 => ?_)
    · refine lv_aload_n hx hb dX4_search_22 rfl (lv_at hl 1 rfl) ?_
      refine lv_aload_n hx hb dX4_search_23 rfl (lv_at hl 0 rfl) ?_
      refine rw_callV hx hb hml hts hown hW ⟨Nat.le_refl 0, Nat.le_refl 0⟩ [.ref (ad oh)] 122 lk_122 rfl (c_X4_take (l := l) (G := G) (ad := ad) (CA := CA) (nt := nt) (by omega) oh hFoh (by omega) M (by omega) hc hk2) kX4_49 rfl ⟨by dsimp only; omega, by dsimp only; omega⟩ hl.1 rfl (Nat.le_of_ble_eq_true rfl) dX4_search_24 (fun v20 M21 H locs hp22 hW => ?_)
      obtain ⟨rfl, hM21⟩ := hp22
      refine rw_stk (st' := []) rfl ?_
      refine rw_vret hx hb hr hlocks hW dX4_search_27 (⟨rfl, ?_⟩)
      obtain ⟨t1, t2, t3, t4, t5, t6⟩ := hM21
      rw [← hoh, show (n - k).toNat = 0 by omega, srch_0, if_pos (hleaf (by omega))]
      exact ⟨by rw [t1, hs3], t2, fun j h1 h2 => by rw [t3 j h1 (by omega), hp j h1 (by omega)], fun j h1 h2 => by rw [t6 205 (by decide) (by decide)], t4, t5, fun q h1 h2 h3 _ => t6 q h1 h3⟩
    · refine lv_iload_n hx hb dX4_search_17 rfl (lv_at hl 2 rfl) ?_
      refine rw_iconst hx hb dX4_search_18 ?_
      refine rw_icmp_lt (tgt := 28) hx hb dX4_search_19 (by decide) (by omega) (by decide) (fun c_19 => ?_) (fun c_19 => ?_)
      · refine lv_aload_n hx hb dX4_search_28 rfl (lv_at hl 1 rfl) ?_
        refine rw_getI hx hb hts hown hW 122 lk_122 4 4 rfl rfl fX4_29 dX4_search_29 (v := n) hn4.1 ?_
        refine lv_iload_n hx hb dX4_search_32 rfl (lv_at hl 2 rfl) ?_
        refine rw_isub hx hb dX4_search_33 ?_
        refine rw_iconst hx hb dX4_search_34 ?_
        refine rw_isub hx hb dX4_search_35 ?_
        refine lv_istore_n (lv' := [(3, .int (iN ((n - k) - 1))), (2, .ref (ad oh)), (0, .ref (ad 122)), (1, .int (iN k))]) hx hb dX4_search_36 rfl hl (by decide) rfl (fun ls hl => ?_)
        refine lv_aload_n hx hb dX4_search_37 rfl (lv_at hl 1 rfl) ?_
        refine rw_callV hx hb hml hts hown hW ⟨Nat.le_refl 0, Nat.le_refl 0⟩ [] oh hFoh.1 rfl (c_X0_isOver (l := l) (G := G) (ad := ad) (CA := CA) (nt := nt) oh hFoh M hc hk2) kX4_52 rfl ⟨by dsimp only; omega, by dsimp only; omega⟩ hl.1 rfl (Nat.le_of_ble_eq_true rfl) dX4_search_38 (fun v23 M24 H locs hp25 hW => ?_)
        obtain ⟨a26, rfl, hp25, hp25m⟩ := hp25
        rw [hp25m] at hW
        rcases hp25 with ⟨rfl, hp25⟩ | ⟨rfl, hp25⟩
        · refine rw_stk (st' := [.int (iN 1)]) rfl ?_
          refine rw_if_eq (tgt := 48) hx hb dX4_search_41 (by decide) (by decide) (fun c => absurd c (by decide)) (fun _ => ?_)
          refine rw_iconst hx hb dX4_search_44 ?_
          refine lv_goto (tgt := 59) hx hb dX4_search_45 (by decide) ?_
          refine lv_istore (lv' := [(4, .int (iN 0)), (3, .int (iN ((n - k) - 1))), (2, .ref (ad oh)), (0, .ref (ad 122)), (1, .int (iN k))]) hx hb dX4_search_59 hl (by decide) rfl (fun ls hl => ?_)
          exact hC_61 oh 0 H locs ls (by omega) hoh hFoh (by unfold mostF; rw [fld_47, fld_27, if_pos (by omega)]) hW (lv_sub hl [3, 4, 2, 1, 0] rfl)
        · refine rw_stk (st' := [.int (iN 0)]) rfl ?_
          refine rw_if_eq (tgt := 48) hx hb dX4_search_41 (by decide) (by decide) (fun _ => ?_) (fun c => absurd (by decide) c)
          refine lv_aload_n hx hb dX4_search_48 rfl (lv_at hl 1 rfl) ?_
          refine lv_aload_n hx hb dX4_search_49 rfl (lv_at hl 2 rfl) ?_
          refine rw_getI hx hb hts hown hW 122 lk_122 3 3 rfl rfl fX4_25 dX4_search_50 (v := 0) hs3 ?_
          refine rw_callV hx hb hml hts hown hW ⟨Nat.le_refl 0, Nat.le_refl 0⟩ [.int (iN 0)] oh hFoh.1 rfl (c_X0_sideOf (l := l) (G := G) (ad := ad) (CA := CA) (nt := nt) oh hFoh 0 (by omega) M) kX4_56 rfl ⟨by dsimp only; omega, by dsimp only; omega⟩ hl.1 rfl (Nat.le_of_ble_eq_true rfl) dX4_search_53 (fun v27 M28 H locs hp29 hW => ?_)
          obtain ⟨_, rfl, rfl, hp29⟩ := hp29
          rw [hp29] at hW
          rw [if_pos rfl]
          refine rw_stk (st' := [.ref (ad (oh + 4))]) rfl ?_
          refine rw_getI hx hb hts hown hW (oh + 4) hFoh.2.2.2.2.1.1 0 0 rfl rfl fX4_60 dX4_search_56 (v := (M (oh + 4) 0)) rfl ?_
          refine lv_istore (lv' := [(4, .int (iN (M (oh + 4) 0))), (3, .int (iN ((n - k) - 1))), (2, .ref (ad oh)), (0, .ref (ad 122)), (1, .int (iN k))]) hx hb dX4_search_59 hl (by decide) rfl (fun ls hl => ?_)
          exact hC_61 oh (M (oh + 4) 0) H locs ls (by omega) hoh hFoh (by unfold mostF; rw [fld_47, fld_27, if_neg (by omega)]; (first | rw [sdF_0] | rw [sdF_1]); rfl) hW (lv_sub hl [3, 4, 2, 1, 0] rfl)
      · refine lv_aload_n hx hb dX4_search_22 rfl (lv_at hl 1 rfl) ?_
        refine lv_aload_n hx hb dX4_search_23 rfl (lv_at hl 0 rfl) ?_
        refine rw_callV hx hb hml hts hown hW ⟨Nat.le_refl 0, Nat.le_refl 0⟩ [.ref (ad oh)] 122 lk_122 rfl (c_X4_take (l := l) (G := G) (ad := ad) (CA := CA) (nt := nt) (by omega) oh hFoh (by omega) M (by omega) hc hk2) kX4_49 rfl ⟨by dsimp only; omega, by dsimp only; omega⟩ hl.1 rfl (Nat.le_of_ble_eq_true rfl) dX4_search_24 (fun v30 M31 H locs hp32 hW => ?_)
        obtain ⟨rfl, hM31⟩ := hp32
        refine rw_stk (st' := []) rfl ?_
        refine rw_vret hx hb hr hlocks hW dX4_search_27 (⟨rfl, ?_⟩)
        obtain ⟨t1, t2, t3, t4, t5, t6⟩ := hM31
        rw [← hoh, show (n - k).toNat = 0 by omega, srch_0, if_pos (hleaf (by omega))]
        exact ⟨by rw [t1, hs3], t2, fun j h1 h2 => by rw [t3 j h1 (by omega), hp j h1 (by omega)], fun j h1 h2 => by rw [t6 205 (by decide) (by decide)], t4, t5, fun q h1 h2 h3 _ => t6 q h1 h3⟩
  · have hC_61 : ∀ (oh : Nat) (mo : Int) (H : Heap) (locs : List Loc) (ls : Array Slot), (k < n) → (oh = 123 + 10 + 8 * k.toNat) → (FAt LyK oh) → (mo = mostF (fld M oh) 1) → Wo G ad CA nt LyK (wA ad LyK) s M H locs → lv_has ls 7 [(0, .ref (ad 122)), (1, .int (iN k)), (2, .ref (ad oh)), (3, .int (iN (n - k - 1))), (4, .int (iN mo))] → Wf l (5 + d) (105 + 26 * d) G ad CA nt LyK (P_X4_search 1 n k pt B M) p e s m args below meth c H locs (F0 m 61 ls []) := by
      intro oh mo H locs ls hkn hoh hFoh hmo hW hl
      rw [← hoh] at hI hm hleaf
      have hc := hI.c
      have hk2 := hI.k2
      have hmr := mostF_rng hI (s := 1) (by decide)
      rw [← hmo] at hmr
      refine lv_aload_n hx hb dX4_search_61 rfl (lv_at hl 0 rfl) ?_
      refine rw_getR hx hb hts hown hW 122 lk_122 0 123 rfl fX4_12 dX4_search_62 ?_
      refine lv_iload_n hx hb dX4_search_65 rfl (lv_at hl 1 rfl) ?_
      refine rw_iconst hx hb dX4_search_66 ?_
      refine rw_iadd hx hb dX4_search_67 ?_
      refine rw_callV hx hb hml hts hown hW ⟨Nat.le_refl 0, Nat.le_refl 0⟩ [.int (iN (k + 1))] 123 st_123.1 rfl (c_X7_stage (l := l) (G := G) (ad := ad) (CA := CA) (nt := nt) (by omega) 123 st_123 (k + 1) (by omega) M) kX4_35 rfl ⟨by dsimp only; omega, by dsimp only; omega⟩ hl.1 rfl (Nat.le_of_ble_eq_true rfl) dX4_search_68 (fun v33 M34 H locs hp35 hW => ?_)
      obtain ⟨on, rfl, hon, hp35⟩ := hp35
      rw [hp35] at hW
      have hFon : FAt LyK on := by rw [hon]; exact fat_123 (by omega)
      refine rw_stk (st' := [.ref (ad on)]) rfl ?_
      refine lv_astore (lv' := [(5, .ref (ad on)), (0, .ref (ad 122)), (1, .int (iN k)), (2, .ref (ad oh)), (3, .int (iN (n - k - 1))), (4, .int (iN mo))]) hx hb dX4_search_71 hl (by decide) rfl (fun ls hl => ?_)
      refine rw_iconst hx hb dX4_search_73 ?_
      refine lv_istore (lv' := [(6, .int (iN 0)), (5, .ref (ad on)), (0, .ref (ad 122)), (1, .int (iN k)), (2, .ref (ad oh)), (3, .int (iN (n - k - 1))), (4, .int (iN mo))]) hx hb dX4_search_74 hl (by decide) rfl (fun ls hl => ?_)
      have hC_76 : ∀ N : Nat, ∀ (cv : Int) (Mx : Mem) (Bx : BS) (H : Heap) (locs : List Loc) (ls : Array Slot), (mo + 1 - cv).toNat < N → (0 ≤ cv ∧ cv ≤ mo + 1) → (Bx = foldB (fun c B => srch 1 (n - k - 1).toNat (k + 1) (passBut (fld M oh) 1 c) (updI pt k c) B) cv.toNat B) → (Mx 122 5 = Bx.1) → (Mx 122 6 = Bx.2.1) → (∀ j, 0 ≤ j → j < n → Mx 206 j = Bx.2.2 j) → (0 ≤ Bx.1 ∧ Bx.1 ≤ 11) → (∀ j, 0 ≤ j → j < k → Mx 205 j = M 205 j) → (Mx 122 3 = 1) → (Mx 122 4 = n) → (∀ q : Nat, q ≠ 122 → q ≠ 205 → q ≠ 206 → (q < 141 + 8 * k.toNat ∨ 205 ≤ q) → Mx q = M q) → Wo G ad CA nt LyK (wA ad LyK) s Mx H locs → lv_has ls 7 [(0, .ref (ad 122)), (1, .int (iN k)), (2, .ref (ad oh)), (3, .int (iN (n - k - 1))), (4, .int (iN mo)), (5, .ref (ad on)), (6, .int (iN cv))] → Wf l (5 + d) (105 + 26 * d) G ad CA nt LyK (P_X4_search 1 n k pt B M) p e s m args below meth c H locs (F0 m 76 ls []) := by
        intro N
        induction N with
        | zero => intro cv Mx Bx H locs ls hN; exact absurd hN (Nat.not_lt_zero _)
        | succ N ih =>
          intro cv Mx Bx H locs ls hN hc0 hBx hb5 hb6 hb206 hbr h205 hx3 hx4 hfr hW hl
          have hfo : fld Mx oh = fld M oh := fld_eq8 (fun q h1 h2 => hfr q (by omega) (by omega) (by omega) (by omega))
          refine lv_iload hx hb dX4_search_76 (lv_at hl 6 rfl) ?_
          refine lv_iload hx hb dX4_search_78 (lv_at hl 4 rfl) ?_
          refine rw_icmp_gt (tgt := 138) hx hb dX4_search_80 (by decide) (by omega) (by omega) (fun c_80 => ?_) (fun c_80 => ?_)
          · refine rw_vret hx hb hr hlocks hW dX4_search_138 (⟨rfl, ?_⟩)
            rw [← hoh, show (n - k).toNat = (n - k - 1).toNat + 1 by omega, srch_1, ← hmo, show (mo + 1).toNat = cv.toNat by omega, ← hBx]
            exact ⟨hb5, hb6, hb206, h205, by rw [hx3, hs3], by rw [hx4, hn4.1], hfr⟩
          · refine lv_aload_n hx hb dX4_search_83 rfl (lv_at hl 0 rfl) ?_
            refine rw_getR hx hb hts hown hW 122 lk_122 1 205 rfl fX4_18 dX4_search_84 ?_
            refine lv_iload_n hx hb dX4_search_87 rfl (lv_at hl 1 rfl) ?_
            refine lv_iload hx hb dX4_search_88 (lv_at hl 6 rfl) ?_
            refine rw_iast hx hb hW hnt4 205 lk_205 (v := cv) (by omega) (by omega) (by decide) dX4_search_90 (fun H locs hW => ?_)
            obtain ⟨M36, hM36⟩ : ∃ z, z = upd2 Mx 205 k cv := ⟨_, rfl⟩
            rw [← hM36] at hW
            refine lv_aload hx hb dX4_search_91 (lv_at hl 5 rfl) ?_
            refine lv_aload_n hx hb dX4_search_93 rfl (lv_at hl 2 rfl) ?_
            refine rw_callV hx hb hml hts hown hW ⟨Nat.le_refl 0, Nat.le_refl 0⟩ [.ref (ad oh)] on hFon.1 rfl (c_X0_copyOf (l := l) (G := G) (ad := ad) (CA := CA) (nt := nt) (by omega) on hFon oh hFoh (by omega) M36) kX4_39 rfl ⟨by dsimp only; omega, by dsimp only; omega⟩ hl.1 rfl (Nat.le_of_ble_eq_true rfl) dX4_search_94 (fun v37 M38 H locs hp39 hW => ?_)
            obtain ⟨rfl, hM38⟩ := hp39
            refine rw_stk (st' := []) rfl ?_
            refine lv_aload hx hb dX4_search_97 (lv_at hl 5 rfl) ?_
            refine lv_aload_n hx hb dX4_search_99 rfl (lv_at hl 0 rfl) ?_
            refine rw_getI hx hb hts hown hW 122 lk_122 3 3 rfl rfl fX4_25 dX4_search_100 (v := 1) (by rw [hM38.2 122 (by omega), hM36, upd2_ne1 (by decide)]; exact hx3) ?_
            refine lv_iload hx hb dX4_search_103 (lv_at hl 6 rfl) ?_
            refine rw_callV hx hb hml hts hown hW ⟨Nat.le_refl 0, Nat.le_refl 0⟩ [.int (iN 1), .int (iN cv)] on hFon.1 rfl (c_X0_passByCaptainsBut (l := l) (G := G) (ad := ad) (CA := CA) (nt := nt) (by omega) on hFon 1 (by decide) cv M38 (by rw [hM38.1, hM36, fld_eq8 (fun q h1 h2 => upd2_ne1 (by omega)), hfo]; exact hI) (by rw [hM38.1, hM36, fld_eq8 (fun q h1 h2 => upd2_ne1 (by omega)), hfo]; omega)) kX4_65 rfl ⟨by dsimp only; omega, by dsimp only; omega⟩ hl.1 rfl (Nat.le_of_ble_eq_true rfl) dX4_search_105 (fun v40 M41 H locs hp42 hW => ?_)
            obtain ⟨rfl, hM41⟩ := hp42
            refine rw_stk (st' := []) rfl ?_
            have hpg : fld M41 on = passBut (fld M oh) 1 cv := by rw [hM41.1, hM38.1, hM36, fld_eq8 (fun q h1 h2 => upd2_ne1 (by omega)), hfo]
            have hpi := passBut_inv hI (by omega) (s := 1) (x := cv) (by decide) (by omega)
            have hpm := passBut_min (fld M oh) 1 cv
            have hm3 : ∀ q : Nat, q ≠ 205 → (q < on ∨ on + 8 ≤ q) → M41 q = Mx q := fun q h1 h2 => by rw [hM41.2 q h2, hM38.2 q h2, hM36]; exact upd2_ne1 h1
            have hm5 : M41 205 = upd2 Mx 205 k cv 205 := by rw [hM41.2 205 (by omega), hM38.2 205 (by omega), hM36]
            have hnr := distF_rng hpi 1
            refine lv_aload hx hb dX4_search_108 (lv_at hl 5 rfl) ?_
            refine lv_aload_n hx hb dX4_search_110 rfl (lv_at hl 0 rfl) ?_
            refine rw_getI hx hb hts hown hW 122 lk_122 3 3 rfl rfl fX4_25 dX4_search_111 (v := 1) (by rw [hM41.2 122 (by omega), hM38.2 122 (by omega), hM36, upd2_ne1 (by decide)]; exact hx3) ?_
            refine lv_iload_n hx hb dX4_search_114 rfl (lv_at hl 3 rfl) ?_
            refine rw_callV hx hb hml hts hown hW ⟨Nat.le_refl 0, Nat.le_refl 0⟩ [.int (iN 1), .int (iN (n - k - 1))] on hFon.1 rfl (c_X0_nearestOf (l := l) (G := G) (ad := ad) (CA := CA) (nt := nt) on hFon 1 (by omega) (n - k - 1) (by omega) M41 (by rw [hpg]; exact hpi)) kX4_69 rfl ⟨by dsimp only; omega, by dsimp only; omega⟩ hl.1 rfl (Nat.le_of_ble_eq_true rfl) dX4_search_115 (fun v43 M44 H locs hp45 hW => ?_)
            obtain ⟨_, rfl, rfl, hp45⟩ := hp45
            rw [hp45] at hW
            refine rw_stk (st' := [.int (iN (nearF (fld M41 on) 1 (n - k - 1)))]) rfl ?_
            have hnf := nearF_rng (f := fld M41 on) (by rw [hpg]; exact hpi) 1 (n := n - k - 1) (by omega)
            refine lv_aload_n hx hb dX4_search_118 rfl (lv_at hl 0 rfl) ?_
            refine rw_getI hx hb hts hown hW 122 lk_122 5 5 rfl rfl fX4_32 dX4_search_119 (v := Bx.1) (by rw [hM41.2 122 (by omega), hM38.2 122 (by omega), hM36, upd2_ne1 (by decide)]; exact hb5) ?_
            refine rw_icmp_ge (tgt := 132) hx hb dX4_search_122 (by decide) (by omega) (by omega) (fun c_122 => ?_) (fun c_122 => ?_)
            · have hcut := srch_cut (s := 1) (by decide) (n - k - 1).toNat (k + 1) (passBut (fld M oh) 1 cv) (updI pt k cv) Bx hpi (by omega) (by rw [show (((n - k - 1).toNat : Nat) : Int) = n - k - 1 by omega, ← hpg]; omega)
              refine rw_iinc (lv' := [(6, .int (iN (cv + 1))), (0, .ref (ad 122)), (1, .int (iN k)), (2, .ref (ad oh)), (3, .int (iN (n - k - 1))), (4, .int (iN mo)), (5, .ref (ad on))]) hx hb dX4_search_132 hl (k := 6) rfl (by decide) rfl (fun ls hl => ?_)
              refine lv_goto (tgt := 76) hx hb dX4_search_135 (by decide) ?_
              exact ih (cv + 1) M41 Bx H locs ls (by omega) (by omega) (by rw [show (cv + 1).toNat = cv.toNat + 1 by omega, foldB, ← hBx, show ((cv.toNat : Nat) : Int) = cv by omega]; exact hcut.symm) (by rw [hm3 122 (by omega) (by omega)]; exact hb5) (by rw [hm3 122 (by omega) (by omega)]; exact hb6) (fun j h1 h2 => by rw [hm3 206 (by omega) (by omega)]; exact hb206 j h1 h2) hbr (fun j h1 h2 => by rw [hm5, upd2_ne2 (by omega)]; exact h205 j h1 h2) (by rw [hm3 122 (by omega) (by omega)]; exact hx3) (by rw [hm3 122 (by omega) (by omega)]; exact hx4) (fun q h1 h2 h3 h4 => by rw [hm3 q (by omega) (by omega)]; exact hfr q h1 h2 h3 h4) hW (lv_sub hl [1, 2, 3, 4, 5, 6, 0] rfl)
            · refine lv_aload_n hx hb dX4_search_125 rfl (lv_at hl 0 rfl) ?_
              refine lv_iload_n hx hb dX4_search_126 rfl (lv_at hl 1 rfl) ?_
              refine rw_iconst hx hb dX4_search_127 ?_
              refine rw_iadd hx hb dX4_search_128 ?_
              refine rw_callS hx hb hml hts hown hW ⟨Nat.le_refl 0, Nat.le_refl 0⟩ [.ref (ad 122), .int (iN (k + 1))] (ihd (d - 1) (by omega) (by omega) 1 (by decide) n (k + 1) (by omega) (updI pt k cv) Bx M41 (by rw [hm3 122 (by omega) (by omega)]; exact hx3) ⟨by rw [hm3 122 (by omega) (by omega)]; exact hx4, hn4.2⟩ (by rw [← hon, hpg]; exact hpi) (by rw [← hon, hpg]; omega) ⟨by rw [hm3 122 (by omega) (by omega)]; exact hb5, by rw [hm3 122 (by omega) (by omega)]; exact hb6, fun j h1 h2 => by rw [hm3 206 (by omega) (by omega)]; exact hb206 j h1 h2⟩ hbr (fun j h1 h2 => by rw [hm5, upd2_at]; unfold updI; by_cases e : j = k; rw [if_pos ⟨rfl, e⟩, if_pos e]; rw [if_neg (fun z => e z.2), if_neg e, h205 j h1 (by omega)]; exact hp j h1 (by omega)) (fun e => by rw [← hon]; have h1 : nearF (fld M41 on) 1 (n - k - 1) < Bx.1 := Int.not_le.mp c_122; unfold nearF at h1; split at h1 <;> omega)) kX4_45 rfl ⟨by dsimp only; omega, by dsimp only; omega⟩ hl.1 rfl (Nat.le_of_ble_eq_true rfl) dX4_search_129 (fun v46 M47 H locs hp48 hW => ?_)
              obtain ⟨rfl, hM47⟩ := hp48
              refine rw_stk (st' := []) rfl ?_
              refine rw_iinc (lv' := [(6, .int (iN (cv + 1))), (0, .ref (ad 122)), (1, .int (iN k)), (2, .ref (ad oh)), (3, .int (iN (n - k - 1))), (4, .int (iN mo)), (5, .ref (ad on))]) hx hb dX4_search_132 hl (k := 6) rfl (by decide) rfl (fun ls hl => ?_)
              refine lv_goto (tgt := 76) hx hb dX4_search_135 (by decide) ?_
              exact ih (cv + 1) M47 (srch 1 (n - (k + 1)).toNat (k + 1) (fld M41 (123 + 10 + 8 * (k + 1).toNat)) (updI pt k cv) Bx) H locs ls (by omega) (by omega) (by rw [show (cv + 1).toNat = cv.toNat + 1 by omega, foldB, ← hBx, show ((cv.toNat : Nat) : Int) = cv by omega, ← hon, hpg, show n - (k + 1) = n - k - 1 by omega]) hM47.1 hM47.2.1 hM47.2.2.1 (by have := srch_rng (s := 1) (by decide) (n - (k + 1)).toNat (k + 1) (fld M41 (123 + 10 + 8 * (k + 1).toNat)) (updI pt k cv) Bx (by rw [← hon, hpg]; exact hpi) (by rw [← hon, hpg]; omega) hbr.1; omega) (fun j h1 h2 => by rw [hM47.2.2.2.1 j h1 (by omega), hm5, upd2_ne2 (by omega)]; exact h205 j h1 h2) (by rw [hM47.2.2.2.2.1, hm3 122 (by omega) (by omega)]; exact hx3) (by rw [hM47.2.2.2.2.2.1, hm3 122 (by omega) (by omega)]; exact hx4) (fun q h1 h2 h3 h4 => by rw [hM47.2.2.2.2.2.2 q h1 h2 h3 (by omega), hm3 q (by omega) (by omega)]; exact hfr q h1 h2 h3 h4) hW (lv_sub hl [1, 2, 3, 4, 5, 6, 0] rfl)
      exact hC_76 _ 0 M B H locs ls (Nat.lt_succ_self _) (by omega) rfl hB.1 hB.2.1 hB.2.2 hB1 (fun j _ _ => rfl) hs3 hn4.1 (fun q _ _ _ _ => rfl) hW (lv_sub hl [2, 3, 4, 5, 6, 1, 0] rfl)
    refine lv_aload_n hx hb dX4_search_0 rfl (lv_at hl 0 rfl) ?_
    refine rw_getR hx hb hts hown hW 122 lk_122 0 123 rfl fX4_12 dX4_search_1 ?_
    refine lv_iload_n hx hb dX4_search_4 rfl (lv_at hl 1 rfl) ?_
    refine rw_callV hx hb hml hts hown hW ⟨Nat.le_refl 0, Nat.le_refl 0⟩ [.int (iN k)] 123 st_123.1 rfl (c_X7_stage (l := l) (G := G) (ad := ad) (CA := CA) (nt := nt) (by omega) 123 st_123 k (by omega) M) kX4_35 rfl ⟨by dsimp only; omega, by dsimp only; omega⟩ hl.1 rfl (Nat.le_of_ble_eq_true rfl) dX4_search_5 (fun v49 M50 H locs hp51 hW => ?_)
    obtain ⟨oh, rfl, hoh, hp51⟩ := hp51
    rw [hp51] at hW
    have hFoh : FAt LyK oh := by rw [hoh]; exact fat_123 (by omega)
    rw [← hoh] at hI hm hleaf
    have hc := hI.c
    have hk2 := hI.k2
    have hf0 := hI.s0.f
    have hf1 := hI.s1.f
    refine rw_stk (st' := [.ref (ad oh)]) rfl ?_
    refine lv_astore_n (lv' := [(2, .ref (ad oh)), (0, .ref (ad 122)), (1, .int (iN k))]) hx hb dX4_search_8 rfl hl (by decide) rfl (fun ls hl => ?_)
    refine lv_iload_n hx hb dX4_search_9 rfl (lv_at hl 2 rfl) ?_
    refine lv_aload_n hx hb dX4_search_10 rfl (lv_at hl 1 rfl) ?_
    refine rw_getI hx hb hts hown hW 122 lk_122 4 4 rfl rfl fX4_29 dX4_search_11 (v := n) hn4.1 ?_
    refine rw_icmp_ge (tgt := 22) hx hb dX4_search_14 (by decide) (by omega) (by omega) (fun c_14 => ?_) (fun c_14 => ?_)
    · refine lv_aload_n hx hb dX4_search_22 rfl (lv_at hl 1 rfl) ?_
      refine lv_aload_n hx hb dX4_search_23 rfl (lv_at hl 0 rfl) ?_
      refine rw_callV hx hb hml hts hown hW ⟨Nat.le_refl 0, Nat.le_refl 0⟩ [.ref (ad oh)] 122 lk_122 rfl (c_X4_take (l := l) (G := G) (ad := ad) (CA := CA) (nt := nt) (by omega) oh hFoh (by omega) M (by omega) hc hk2) kX4_49 rfl ⟨by dsimp only; omega, by dsimp only; omega⟩ hl.1 rfl (Nat.le_of_ble_eq_true rfl) dX4_search_24 (fun v52 M53 H locs hp54 hW => ?_)
      obtain ⟨rfl, hM53⟩ := hp54
      refine rw_stk (st' := []) rfl ?_
      refine rw_vret hx hb hr hlocks hW dX4_search_27 (⟨rfl, ?_⟩)
      obtain ⟨t1, t2, t3, t4, t5, t6⟩ := hM53
      rw [← hoh, show (n - k).toNat = 0 by omega, srch_0, if_pos (hleaf (by omega))]
      exact ⟨by rw [t1, hs3], t2, fun j h1 h2 => by rw [t3 j h1 (by omega), hp j h1 (by omega)], fun j h1 h2 => by rw [t6 205 (by decide) (by decide)], t4, t5, fun q h1 h2 h3 _ => t6 q h1 h3⟩
    · refine lv_iload_n hx hb dX4_search_17 rfl (lv_at hl 2 rfl) ?_
      refine rw_iconst hx hb dX4_search_18 ?_
      refine rw_icmp_lt (tgt := 28) hx hb dX4_search_19 (by decide) (by omega) (by decide) (fun c_19 => ?_) (fun c_19 => ?_)
      · refine lv_aload_n hx hb dX4_search_28 rfl (lv_at hl 1 rfl) ?_
        refine rw_getI hx hb hts hown hW 122 lk_122 4 4 rfl rfl fX4_29 dX4_search_29 (v := n) hn4.1 ?_
        refine lv_iload_n hx hb dX4_search_32 rfl (lv_at hl 2 rfl) ?_
        refine rw_isub hx hb dX4_search_33 ?_
        refine rw_iconst hx hb dX4_search_34 ?_
        refine rw_isub hx hb dX4_search_35 ?_
        refine lv_istore_n (lv' := [(3, .int (iN ((n - k) - 1))), (2, .ref (ad oh)), (0, .ref (ad 122)), (1, .int (iN k))]) hx hb dX4_search_36 rfl hl (by decide) rfl (fun ls hl => ?_)
        refine lv_aload_n hx hb dX4_search_37 rfl (lv_at hl 1 rfl) ?_
        refine rw_callV hx hb hml hts hown hW ⟨Nat.le_refl 0, Nat.le_refl 0⟩ [] oh hFoh.1 rfl (c_X0_isOver (l := l) (G := G) (ad := ad) (CA := CA) (nt := nt) oh hFoh M hc hk2) kX4_52 rfl ⟨by dsimp only; omega, by dsimp only; omega⟩ hl.1 rfl (Nat.le_of_ble_eq_true rfl) dX4_search_38 (fun v55 M56 H locs hp57 hW => ?_)
        obtain ⟨a58, rfl, hp57, hp57m⟩ := hp57
        rw [hp57m] at hW
        rcases hp57 with ⟨rfl, hp57⟩ | ⟨rfl, hp57⟩
        · refine rw_stk (st' := [.int (iN 1)]) rfl ?_
          refine rw_if_eq (tgt := 48) hx hb dX4_search_41 (by decide) (by decide) (fun c => absurd c (by decide)) (fun _ => ?_)
          refine rw_iconst hx hb dX4_search_44 ?_
          refine lv_goto (tgt := 59) hx hb dX4_search_45 (by decide) ?_
          refine lv_istore (lv' := [(4, .int (iN 0)), (3, .int (iN ((n - k) - 1))), (2, .ref (ad oh)), (0, .ref (ad 122)), (1, .int (iN k))]) hx hb dX4_search_59 hl (by decide) rfl (fun ls hl => ?_)
          exact hC_61 oh 0 H locs ls (by omega) hoh hFoh (by unfold mostF; rw [fld_47, fld_27, if_pos (by omega)]) hW (lv_sub hl [3, 4, 2, 1, 0] rfl)
        · refine rw_stk (st' := [.int (iN 0)]) rfl ?_
          refine rw_if_eq (tgt := 48) hx hb dX4_search_41 (by decide) (by decide) (fun _ => ?_) (fun c => absurd (by decide) c)
          refine lv_aload_n hx hb dX4_search_48 rfl (lv_at hl 1 rfl) ?_
          refine lv_aload_n hx hb dX4_search_49 rfl (lv_at hl 2 rfl) ?_
          refine rw_getI hx hb hts hown hW 122 lk_122 3 3 rfl rfl fX4_25 dX4_search_50 (v := 1) hs3 ?_
          refine rw_callV hx hb hml hts hown hW ⟨Nat.le_refl 0, Nat.le_refl 0⟩ [.int (iN 1)] oh hFoh.1 rfl (c_X0_sideOf (l := l) (G := G) (ad := ad) (CA := CA) (nt := nt) oh hFoh 1 (by omega) M) kX4_56 rfl ⟨by dsimp only; omega, by dsimp only; omega⟩ hl.1 rfl (Nat.le_of_ble_eq_true rfl) dX4_search_53 (fun v59 M60 H locs hp61 hW => ?_)
          obtain ⟨_, rfl, rfl, hp61⟩ := hp61
          rw [hp61] at hW
          rw [if_neg (by decide)]
          refine rw_stk (st' := [.ref (ad (oh + 6))]) rfl ?_
          refine rw_getI hx hb hts hown hW (oh + 6) hFoh.2.2.2.2.2.1 0 0 rfl rfl fX4_60 dX4_search_56 (v := (M (oh + 6) 0)) rfl ?_
          refine lv_istore (lv' := [(4, .int (iN (M (oh + 6) 0))), (3, .int (iN ((n - k) - 1))), (2, .ref (ad oh)), (0, .ref (ad 122)), (1, .int (iN k))]) hx hb dX4_search_59 hl (by decide) rfl (fun ls hl => ?_)
          exact hC_61 oh (M (oh + 6) 0) H locs ls (by omega) hoh hFoh (by unfold mostF; rw [fld_47, fld_27, if_neg (by omega)]; (first | rw [sdF_0] | rw [sdF_1]); rfl) hW (lv_sub hl [3, 4, 2, 1, 0] rfl)
      · refine lv_aload_n hx hb dX4_search_22 rfl (lv_at hl 1 rfl) ?_
        refine lv_aload_n hx hb dX4_search_23 rfl (lv_at hl 0 rfl) ?_
        refine rw_callV hx hb hml hts hown hW ⟨Nat.le_refl 0, Nat.le_refl 0⟩ [.ref (ad oh)] 122 lk_122 rfl (c_X4_take (l := l) (G := G) (ad := ad) (CA := CA) (nt := nt) (by omega) oh hFoh (by omega) M (by omega) hc hk2) kX4_49 rfl ⟨by dsimp only; omega, by dsimp only; omega⟩ hl.1 rfl (Nat.le_of_ble_eq_true rfl) dX4_search_24 (fun v62 M63 H locs hp64 hW => ?_)
        obtain ⟨rfl, hM63⟩ := hp64
        refine rw_stk (st' := []) rfl ?_
        refine rw_vret hx hb hr hlocks hW dX4_search_27 (⟨rfl, ?_⟩)
        obtain ⟨t1, t2, t3, t4, t5, t6⟩ := hM63
        rw [← hoh, show (n - k).toNat = 0 by omega, srch_0, if_pos (hleaf (by omega))]
        exact ⟨by rw [t1, hs3], t2, fun j h1 h2 => by rw [t3 j h1 (by omega), hp j h1 (by omega)], fun j h1 h2 => by rw [t6 205 (by decide) (by decide)], t4, t5, fun q h1 h2 h3 _ => t6 q h1 h3⟩
