abbrev P_X1_leastThatHolds (sx : Int) (i : Int) (n : Int) (M : Mem) : Option Value → Mem → Prop := oI (fun zz MM => LeastF (fld M 1) sx i n zz ∧ Same M MM 30 8)
set_option maxRecDepth 100000 in
set_option maxHeartbeats 4000000 in
theorem c_X1_leastThatHolds {l : Launch} {G : va_G} {ad : Nat → Nat} {CA : Nat → ClassId} {nt : Nat} (hnt : 6 ≤ nt) (sx : Int) (hsx : sx = 0 ∨ sx = 1) (i : Int) (hi : 0 ≤ i ∧ i < 9) (n : Int) (hn : 0 ≤ n ∧ n ≤ 20) (M : Mem) (hI : InvF (fld M 1)) (hm : fld M 1 46 ≤ 1000) : Mt l yX1_leastThatHolds cX1_leastThatHolds 7 (some .int) 6 127 G ad CA nt LyK [.ref (ad 29), .ref (ad 1), .int (iN sx), .int (iN i), .int (iN n)] M (P_X1_leastThatHolds sx i n M) := by
  refine Mt.of (by decide) (Nat.le_of_ble_eq_true rfl) (fun p e s m args below meth c hx hb hr hml hts hown hlocks hnm hW ls hl => ?_)
  have hl : lv_has ls 7 [(0, .ref (ad 29)), (1, .ref (ad 1)), (2, .int (iN sx)), (3, .int (iN i)), (4, .int (iN n))] := hl
  have hnt4 : 4 ≤ nt := by omega
  obtain ⟨H, hH⟩ : ∃ z, z = s.heap := ⟨_, rfl⟩
  obtain ⟨locs, hlo⟩ : ∃ z : List Loc, z = [] := ⟨_, rfl⟩
  rw [← hH, ← hlo] at hW ⊢
  rcases hsx with rfl | rfl
  · have hC_3 : ∀ N : Nat, ∀ (t : Int) (Mx : Mem) (H : Heap) (locs : List Loc) (ls : Array Slot), (13 - t).toNat < N → (0 ≤ t ∧ t ≤ 13) → (Same M Mx 30 8) → (∀ v, 0 ≤ v → v < t → ¬ holdsF (tryF (fld M 1) 0 v) 0 i n) → Wo G ad CA nt LyK (wA ad LyK) s Mx H locs → lv_has ls 7 [(0, .ref (ad 29)), (1, .ref (ad 1)), (2, .int (iN 0)), (3, .int (iN i)), (4, .int (iN n)), (5, .int (iN t))] → Wf l 6 127 G ad CA nt LyK (P_X1_leastThatHolds 0 i n M) p e s m args below meth c H locs (F0 m 3 ls []) := by
      intro N
      induction N with
      | zero => intro t Mx H locs ls hN; exact absurd hN (Nat.not_lt_zero _)
      | succ N ih =>
        intro t Mx H locs ls hN ht hs hq hW hl
        have hnow : fld Mx 1 = fld M 1 := fld_same hs (by decide)
        refine lv_iload hx hb dX1_leastThatHolds_3 (lv_at hl 5 rfl) ?_
        refine rw_bipush hx hb dX1_leastThatHolds_5 (by decide) ?_
        refine rw_icmp_gt (tgt := 61) hx hb dX1_leastThatHolds_7 (by decide) (by omega) (by decide) (fun c_7 => ?_) (fun c_7 => ?_)
        · refine rw_bipush hx hb dX1_leastThatHolds_61 (by decide) ?_
          refine rw_iret hx hb hr hlocks hW dX1_leastThatHolds_63 (⟨(-4), rfl, ?_⟩)
          exact ⟨Or.inr ⟨rfl, fun v h1 h2 => hq v h1 (by omega)⟩, hs⟩
        · refine lv_aload_n hx hb dX1_leastThatHolds_10 rfl (lv_at hl 0 rfl) ?_
          refine rw_getR hx hb hts hown hW 29 lk_29 0 30 rfl fX1_12 dX1_leastThatHolds_11 ?_
          refine lv_aload_n hx hb dX1_leastThatHolds_14 rfl (lv_at hl 1 rfl) ?_
          refine rw_callV hx hb hml hts hown hW ⟨Nat.le_refl 0, Nat.le_refl 0⟩ [.ref (ad 1)] 30 fk_30.1 rfl (c_X0_copyOf (l := l) (G := G) (ad := ad) (CA := CA) (nt := nt) (by omega) 30 fk_30 1 fk_1 (by omega) Mx) kX1_18 rfl ⟨Nat.le_of_ble_eq_true rfl, Nat.le_of_ble_eq_true rfl⟩ hl.1 rfl (Nat.le_of_ble_eq_true rfl) dX1_leastThatHolds_15 (fun v1 M2 H locs hp3 hW => ?_)
          obtain ⟨rfl, hM2⟩ := hp3
          refine rw_stk (st' := []) rfl ?_
          refine lv_aload_n hx hb dX1_leastThatHolds_18 rfl (lv_at hl 0 rfl) ?_
          refine rw_getR hx hb hts hown hW 29 lk_29 0 30 rfl fX1_12 dX1_leastThatHolds_19 ?_
          refine lv_iload_n hx hb dX1_leastThatHolds_22 rfl (lv_at hl 2 rfl) ?_
          refine rw_callV hx hb hml hts hown hW ⟨Nat.le_refl 0, Nat.le_refl 0⟩ [.int (iN 0)] 30 fk_30.1 rfl (c_X0_sideOf (l := l) (G := G) (ad := ad) (CA := CA) (nt := nt) 30 fk_30 0 (by omega) M2) kX1_58 rfl ⟨Nat.le_of_ble_eq_true rfl, Nat.le_of_ble_eq_true rfl⟩ hl.1 rfl (Nat.le_of_ble_eq_true rfl) dX1_leastThatHolds_23 (fun v4 M5 H locs hp6 hW => ?_)
          obtain ⟨_, rfl, rfl, hp6⟩ := hp6
          rw [hp6] at hW
          rw [if_pos rfl]
          refine rw_stk (st' := [.ref (ad 34)]) rfl ?_
          refine lv_astore (lv' := [(6, .ref (ad 34)), (0, .ref (ad 29)), (1, .ref (ad 1)), (2, .int (iN 0)), (3, .int (iN i)), (4, .int (iN n)), (5, .int (iN t))]) hx hb dX1_leastThatHolds_26 hl (by decide) rfl (fun ls hl => ?_)
          refine lv_aload hx hb dX1_leastThatHolds_28 (lv_at hl 0 rfl) ?_
          refine rw_iconst hx hb dX1_leastThatHolds_30 ?_
          refine rw_putI hx hb hts hown hW 34 fk_30.2.2.2.2.1.1 3 3 rfl rfl qX1_30 (v := 2) dX1_leastThatHolds_31 (fun H locs hW => ?_)
          obtain ⟨M7, hM7⟩ : ∃ z, z = upd2 M2 34 3 2 := ⟨_, rfl⟩
          rw [← hM7] at hW
          refine lv_aload hx hb dX1_leastThatHolds_34 (lv_at hl 0 rfl) ?_
          refine lv_iload hx hb dX1_leastThatHolds_36 (lv_at hl 6 rfl) ?_
          refine rw_putI hx hb hts hown hW 34 fk_30.2.2.2.2.1.1 4 4 rfl rfl qX1_62 (v := t) dX1_leastThatHolds_38 (fun H locs hW => ?_)
          obtain ⟨M8, hM8⟩ : ∃ z, z = upd2 M7 34 4 t := ⟨_, rfl⟩
          rw [← hM8] at hW
          have e2 : fld M7 30 = setF (fld M2 30) (28 + 8 * 0 + 6) 2 := by rw [hM7]; exact fld_setside M2 30 0 3 2 4 (by decide) 6 (by decide)
          have e3 : fld M8 30 = tryF (fld M 1) 0 t := by rw [hM8, tryF, ← hnow, ← hM2.1, ← e2]; exact fld_setside M7 30 0 4 t 4 (by decide) 7 (by decide)
          have hs3 : Same M M8 30 8 := by rw [hM8, hM7]; exact ((hs.trans hM2.2).up (by decide) (by decide)).up (by decide) (by decide)
          refine lv_aload_n hx hb dX1_leastThatHolds_41 rfl (lv_at hl 1 rfl) ?_
          refine lv_iload_n hx hb dX1_leastThatHolds_42 rfl (lv_at hl 3 rfl) ?_
          refine lv_iload_n hx hb dX1_leastThatHolds_43 rfl (lv_at hl 4 rfl) ?_
          refine lv_iload hx hb dX1_leastThatHolds_44 (lv_at hl 5 rfl) ?_
          refine rw_callV hx hb hml hts hown hW ⟨Nat.le_refl 0, Nat.le_refl 0⟩ [.int (iN 0), .int (iN i), .int (iN n)] 29 lk_29 rfl (c_X1_holds (l := l) (G := G) (ad := ad) (CA := CA) (nt := nt) (by omega) 0 (by decide) i (by omega) n (by omega) M8 (by rw [e3]; exact tryF_inv hI (by decide) (by omega)) (by rw [e3, tryF_46 _ (by decide)]; omega)) kX1_65 rfl ⟨Nat.le_of_ble_eq_true rfl, Nat.le_of_ble_eq_true rfl⟩ hl.1 rfl (Nat.le_of_ble_eq_true rfl) dX1_leastThatHolds_46 (fun v9 M10 H locs hp11 hW => ?_)
          obtain ⟨a12, rfl, hp11, hM10⟩ := hp11
          rcases hp11 with ⟨rfl, hp11⟩ | ⟨rfl, hp11⟩
          · have hyes := hp11
            refine rw_stk (st' := [.int (iN 1)]) rfl ?_
            refine rw_if_eq (tgt := 55) hx hb dX1_leastThatHolds_49 (by decide) (by decide) (fun c => absurd c (by decide)) (fun _ => ?_)
            refine lv_iload hx hb dX1_leastThatHolds_52 (lv_at hl 6 rfl) ?_
            refine rw_iret hx hb hr hlocks hW dX1_leastThatHolds_54 (⟨t, rfl, ?_⟩)
            rw [e3] at hyes
            exact ⟨Or.inl ⟨ht.1, by omega, hyes, hq⟩, hs3.trans hM10⟩
          · have hno := hp11
            refine rw_stk (st' := [.int (iN 0)]) rfl ?_
            refine rw_if_eq (tgt := 55) hx hb dX1_leastThatHolds_49 (by decide) (by decide) (fun _ => ?_) (fun c => absurd (by decide) c)
            refine rw_iinc (lv' := [(5, .int (iN (t + 1))), (6, .ref (ad 34)), (0, .ref (ad 29)), (1, .ref (ad 1)), (2, .int (iN 0)), (3, .int (iN i)), (4, .int (iN n))]) hx hb dX1_leastThatHolds_55 hl (k := 6) rfl (by decide) rfl (fun ls hl => ?_)
            refine lv_goto (tgt := 3) hx hb dX1_leastThatHolds_58 (by decide) ?_
            exact ih (t + 1) M10 H locs ls (by omega) (by omega) (hs3.trans hM10) (fun v h1 h2 => by rcases Int.lt_or_le v t with q | q; exact hq v h1 q; rw [show v = t by omega, ← e3]; exact hno) hW (lv_sub hl [2, 3, 4, 5, 6, 0] rfl)
    refine rw_iconst hx hb dX1_leastThatHolds_0 ?_
    refine lv_istore (lv' := [(5, .int (iN 0)), (0, .ref (ad 29)), (1, .ref (ad 1)), (2, .int (iN 0)), (3, .int (iN i)), (4, .int (iN n))]) hx hb dX1_leastThatHolds_1 hl (by decide) rfl (fun ls hl => ?_)
    exact hC_3 _ 0 M H locs ls (Nat.lt_succ_self _) (by omega) Same.rf (fun v h1 h2 => absurd h2 (by omega)) hW (lv_sub hl [1, 2, 3, 4, 5, 0] rfl)
  · have hC_3 : ∀ N : Nat, ∀ (t : Int) (Mx : Mem) (H : Heap) (locs : List Loc) (ls : Array Slot), (13 - t).toNat < N → (0 ≤ t ∧ t ≤ 13) → (Same M Mx 30 8) → (∀ v, 0 ≤ v → v < t → ¬ holdsF (tryF (fld M 1) 1 v) 1 i n) → Wo G ad CA nt LyK (wA ad LyK) s Mx H locs → lv_has ls 7 [(0, .ref (ad 29)), (1, .ref (ad 1)), (2, .int (iN 1)), (3, .int (iN i)), (4, .int (iN n)), (5, .int (iN t))] → Wf l 6 127 G ad CA nt LyK (P_X1_leastThatHolds 1 i n M) p e s m args below meth c H locs (F0 m 3 ls []) := by
      intro N
      induction N with
      | zero => intro t Mx H locs ls hN; exact absurd hN (Nat.not_lt_zero _)
      | succ N ih =>
        intro t Mx H locs ls hN ht hs hq hW hl
        have hnow : fld Mx 1 = fld M 1 := fld_same hs (by decide)
        refine lv_iload hx hb dX1_leastThatHolds_3 (lv_at hl 5 rfl) ?_
        refine rw_bipush hx hb dX1_leastThatHolds_5 (by decide) ?_
        refine rw_icmp_gt (tgt := 61) hx hb dX1_leastThatHolds_7 (by decide) (by omega) (by decide) (fun c_7 => ?_) (fun c_7 => ?_)
        · refine rw_bipush hx hb dX1_leastThatHolds_61 (by decide) ?_
          refine rw_iret hx hb hr hlocks hW dX1_leastThatHolds_63 (⟨(-4), rfl, ?_⟩)
          exact ⟨Or.inr ⟨rfl, fun v h1 h2 => hq v h1 (by omega)⟩, hs⟩
        · refine lv_aload_n hx hb dX1_leastThatHolds_10 rfl (lv_at hl 0 rfl) ?_
          refine rw_getR hx hb hts hown hW 29 lk_29 0 30 rfl fX1_12 dX1_leastThatHolds_11 ?_
          refine lv_aload_n hx hb dX1_leastThatHolds_14 rfl (lv_at hl 1 rfl) ?_
          refine rw_callV hx hb hml hts hown hW ⟨Nat.le_refl 0, Nat.le_refl 0⟩ [.ref (ad 1)] 30 fk_30.1 rfl (c_X0_copyOf (l := l) (G := G) (ad := ad) (CA := CA) (nt := nt) (by omega) 30 fk_30 1 fk_1 (by omega) Mx) kX1_18 rfl ⟨Nat.le_of_ble_eq_true rfl, Nat.le_of_ble_eq_true rfl⟩ hl.1 rfl (Nat.le_of_ble_eq_true rfl) dX1_leastThatHolds_15 (fun v13 M14 H locs hp15 hW => ?_)
          obtain ⟨rfl, hM14⟩ := hp15
          refine rw_stk (st' := []) rfl ?_
          refine lv_aload_n hx hb dX1_leastThatHolds_18 rfl (lv_at hl 0 rfl) ?_
          refine rw_getR hx hb hts hown hW 29 lk_29 0 30 rfl fX1_12 dX1_leastThatHolds_19 ?_
          refine lv_iload_n hx hb dX1_leastThatHolds_22 rfl (lv_at hl 2 rfl) ?_
          refine rw_callV hx hb hml hts hown hW ⟨Nat.le_refl 0, Nat.le_refl 0⟩ [.int (iN 1)] 30 fk_30.1 rfl (c_X0_sideOf (l := l) (G := G) (ad := ad) (CA := CA) (nt := nt) 30 fk_30 1 (by omega) M14) kX1_58 rfl ⟨Nat.le_of_ble_eq_true rfl, Nat.le_of_ble_eq_true rfl⟩ hl.1 rfl (Nat.le_of_ble_eq_true rfl) dX1_leastThatHolds_23 (fun v16 M17 H locs hp18 hW => ?_)
          obtain ⟨_, rfl, rfl, hp18⟩ := hp18
          rw [hp18] at hW
          rw [if_neg (by decide)]
          refine rw_stk (st' := [.ref (ad 36)]) rfl ?_
          refine lv_astore (lv' := [(6, .ref (ad 36)), (0, .ref (ad 29)), (1, .ref (ad 1)), (2, .int (iN 1)), (3, .int (iN i)), (4, .int (iN n)), (5, .int (iN t))]) hx hb dX1_leastThatHolds_26 hl (by decide) rfl (fun ls hl => ?_)
          refine lv_aload hx hb dX1_leastThatHolds_28 (lv_at hl 0 rfl) ?_
          refine rw_iconst hx hb dX1_leastThatHolds_30 ?_
          refine rw_putI hx hb hts hown hW 36 fk_30.2.2.2.2.2.1 3 3 rfl rfl qX1_30 (v := 2) dX1_leastThatHolds_31 (fun H locs hW => ?_)
          obtain ⟨M19, hM19⟩ : ∃ z, z = upd2 M14 36 3 2 := ⟨_, rfl⟩
          rw [← hM19] at hW
          refine lv_aload hx hb dX1_leastThatHolds_34 (lv_at hl 0 rfl) ?_
          refine lv_iload hx hb dX1_leastThatHolds_36 (lv_at hl 6 rfl) ?_
          refine rw_putI hx hb hts hown hW 36 fk_30.2.2.2.2.2.1 4 4 rfl rfl qX1_62 (v := t) dX1_leastThatHolds_38 (fun H locs hW => ?_)
          obtain ⟨M20, hM20⟩ : ∃ z, z = upd2 M19 36 4 t := ⟨_, rfl⟩
          rw [← hM20] at hW
          have e2 : fld M19 30 = setF (fld M14 30) (28 + 8 * 1 + 6) 2 := by rw [hM19]; exact fld_setside M14 30 1 3 2 6 (by decide) 6 (by decide)
          have e3 : fld M20 30 = tryF (fld M 1) 1 t := by rw [hM20, tryF, ← hnow, ← hM14.1, ← e2]; exact fld_setside M19 30 1 4 t 6 (by decide) 7 (by decide)
          have hs3 : Same M M20 30 8 := by rw [hM20, hM19]; exact ((hs.trans hM14.2).up (by decide) (by decide)).up (by decide) (by decide)
          refine lv_aload_n hx hb dX1_leastThatHolds_41 rfl (lv_at hl 1 rfl) ?_
          refine lv_iload_n hx hb dX1_leastThatHolds_42 rfl (lv_at hl 3 rfl) ?_
          refine lv_iload_n hx hb dX1_leastThatHolds_43 rfl (lv_at hl 4 rfl) ?_
          refine lv_iload hx hb dX1_leastThatHolds_44 (lv_at hl 5 rfl) ?_
          refine rw_callV hx hb hml hts hown hW ⟨Nat.le_refl 0, Nat.le_refl 0⟩ [.int (iN 1), .int (iN i), .int (iN n)] 29 lk_29 rfl (c_X1_holds (l := l) (G := G) (ad := ad) (CA := CA) (nt := nt) (by omega) 1 (by decide) i (by omega) n (by omega) M20 (by rw [e3]; exact tryF_inv hI (by decide) (by omega)) (by rw [e3, tryF_46 _ (by decide)]; omega)) kX1_65 rfl ⟨Nat.le_of_ble_eq_true rfl, Nat.le_of_ble_eq_true rfl⟩ hl.1 rfl (Nat.le_of_ble_eq_true rfl) dX1_leastThatHolds_46 (fun v21 M22 H locs hp23 hW => ?_)
          obtain ⟨a24, rfl, hp23, hM22⟩ := hp23
          rcases hp23 with ⟨rfl, hp23⟩ | ⟨rfl, hp23⟩
          · have hyes := hp23
            refine rw_stk (st' := [.int (iN 1)]) rfl ?_
            refine rw_if_eq (tgt := 55) hx hb dX1_leastThatHolds_49 (by decide) (by decide) (fun c => absurd c (by decide)) (fun _ => ?_)
            refine lv_iload hx hb dX1_leastThatHolds_52 (lv_at hl 6 rfl) ?_
            refine rw_iret hx hb hr hlocks hW dX1_leastThatHolds_54 (⟨t, rfl, ?_⟩)
            rw [e3] at hyes
            exact ⟨Or.inl ⟨ht.1, by omega, hyes, hq⟩, hs3.trans hM22⟩
          · have hno := hp23
            refine rw_stk (st' := [.int (iN 0)]) rfl ?_
            refine rw_if_eq (tgt := 55) hx hb dX1_leastThatHolds_49 (by decide) (by decide) (fun _ => ?_) (fun c => absurd (by decide) c)
            refine rw_iinc (lv' := [(5, .int (iN (t + 1))), (6, .ref (ad 36)), (0, .ref (ad 29)), (1, .ref (ad 1)), (2, .int (iN 1)), (3, .int (iN i)), (4, .int (iN n))]) hx hb dX1_leastThatHolds_55 hl (k := 6) rfl (by decide) rfl (fun ls hl => ?_)
            refine lv_goto (tgt := 3) hx hb dX1_leastThatHolds_58 (by decide) ?_
            exact ih (t + 1) M22 H locs ls (by omega) (by omega) (hs3.trans hM22) (fun v h1 h2 => by rcases Int.lt_or_le v t with q | q; exact hq v h1 q; rw [show v = t by omega, ← e3]; exact hno) hW (lv_sub hl [2, 3, 4, 5, 6, 0] rfl)
    refine rw_iconst hx hb dX1_leastThatHolds_0 ?_
    refine lv_istore (lv' := [(5, .int (iN 0)), (0, .ref (ad 29)), (1, .ref (ad 1)), (2, .int (iN 1)), (3, .int (iN i)), (4, .int (iN n))]) hx hb dX1_leastThatHolds_1 hl (by decide) rfl (fun ls hl => ?_)
    exact hC_3 _ 0 M H locs ls (Nat.lt_succ_self _) (by omega) Same.rf (fun v h1 h2 => absurd h2 (by omega)) hW (lv_sub hl [1, 2, 3, 4, 5, 0] rfl)
abbrev P_X9_untrueIn (t : Int) (g : Int) (M : Mem) : Option Value → Mem → Prop := oI (fun zz MM => zz = ((bitsOf (lieP M t g) (M 207 2).toNat : Nat) : Int) ∧ MM = M)
set_option maxRecDepth 100000 in
set_option maxHeartbeats 4000000 in
theorem c_X9_untrueIn {l : Launch} {G : va_G} {ad : Nat → Nat} {CA : Nat → ClassId} {nt : Nat} (hnt : 6 ≤ nt) (t : Int) (ht : 0 ≤ t ∧ t ≤ 100) (g : Int) (hg : 0 ≤ g ∧ g ≤ 100) (M : Mem) (hT : toldI M) : Mt l yX9_untrueIn cX9_untrueIn 5 (some .int) 0 0 G ad CA nt LyK [.ref (ad 207), .int (iN t), .int (iN g)] M (P_X9_untrueIn t g M) := by
  refine Mt.of (by decide) (Nat.le_of_ble_eq_true rfl) (fun p e s m args below meth c hx hb hr hml hts hown hlocks hnm hW ls hl => ?_)
  have hl : lv_has ls 5 [(0, .ref (ad 207)), (1, .int (iN t)), (2, .int (iN g))] := hl
  have hnt4 : 4 ≤ nt := by omega
  obtain ⟨H, hH⟩ : ∃ z, z = s.heap := ⟨_, rfl⟩
  obtain ⟨locs, hlo⟩ : ∃ z : List Loc, z = [] := ⟨_, rfl⟩
  rw [← hH, ← hlo] at hW ⊢
  have hz := hT.1
  have hC_5 : ∀ N : Nat, ∀ (acc : Int) (k : Int) (H : Heap) (locs : List Loc) (ls : Array Slot), (9 - k).toNat < N → (0 ≤ k ∧ k ≤ M 207 2) → (acc = ((bitsOf (lieP M t g) k.toNat : Nat) : Int)) → Wo G ad CA nt LyK (wA ad LyK) s M H locs → lv_has ls 5 [(0, .ref (ad 207)), (1, .int (iN t)), (2, .int (iN g)), (3, .int (iN acc)), (4, .int (iN k))] → Wf l 0 0 G ad CA nt LyK (P_X9_untrueIn t g M) p e s m args below meth c H locs (F0 m 5 ls []) := by
    intro N
    induction N with
    | zero => intro acc k H locs ls hN; exact absurd hN (Nat.not_lt_zero _)
    | succ N ih =>
      intro acc k H locs ls hN hk hacc hW hl
      have hz := hT.1
      refine lv_iload hx hb dX9_untrueIn_5 (lv_at hl 4 rfl) ?_
      refine lv_aload_n hx hb dX9_untrueIn_7 rfl (lv_at hl 0 rfl) ?_
      refine rw_getI hx hb hts hown hW 207 lk_207 2 2 rfl rfl fX9_18 dX9_untrueIn_8 (v := (M 207 2)) rfl ?_
      refine rw_icmp_ge (tgt := 56) hx hb dX9_untrueIn_11 (by decide) (by omega) (by omega) (fun c_11 => ?_) (fun c_11 => ?_)
      · refine lv_iload_n hx hb dX9_untrueIn_56 rfl (lv_at hl 3 rfl) ?_
        refine rw_iret hx hb hr hlocks hW dX9_untrueIn_57 (⟨acc, rfl, ?_⟩)
        exact ⟨by rw [hacc, show k = M 207 2 by omega], rfl⟩
      · refine lv_iload hx hb dX9_untrueIn_14 (lv_at hl 4 rfl) ?_
        refine rw_bipush hx hb dX9_untrueIn_16 (by decide) ?_
        refine rw_icmp_ge (tgt := 56) hx hb dX9_untrueIn_18 (by decide) (by omega) (by decide) (fun c_18 => ?_) (fun c_18 => ?_)
        · refine lv_iload_n hx hb dX9_untrueIn_56 rfl (lv_at hl 3 rfl) ?_
          refine rw_iret hx hb hr hlocks hW dX9_untrueIn_57 (⟨acc, rfl, ?_⟩)
          exact ⟨by rw [hacc, show k = M 207 2 by omega], rfl⟩
        · refine lv_aload_n hx hb dX9_untrueIn_21 rfl (lv_at hl 0 rfl) ?_
          refine rw_getR hx hb hts hown hW 207 lk_207 0 208 rfl fX9_9 dX9_untrueIn_22 ?_
          refine lv_iload hx hb dX9_untrueIn_25 (lv_at hl 4 rfl) ?_
          have hr := hT.2 k hk.1 (by omega)
          refine rw_iald hx hb hW hnt4 208 lk_208 (by omega) (by omega) (by decide) dX9_untrueIn_27 (v := (M 208 k)) rfl ?_
          refine lv_iload_n hx hb dX9_untrueIn_28 rfl (lv_at hl 1 rfl) ?_
          refine rw_icmp_ne (tgt := 50) hx hb dX9_untrueIn_29 (by decide) (by omega) (by omega) (fun c_29 => ?_) (fun c_29 => ?_)
          · refine rw_iinc (lv' := [(4, .int (iN (k + 1))), (0, .ref (ad 207)), (1, .int (iN t)), (2, .int (iN g)), (3, .int (iN acc))]) hx hb dX9_untrueIn_50 hl (k := 4) rfl (by decide) rfl (fun ls hl => ?_)
            refine lv_goto (tgt := 5) hx hb dX9_untrueIn_53 (by decide) ?_
            exact ih acc (k + 1) H locs ls (by omega) (by omega) (by rw [show (k + 1).toNat = k.toNat + 1 by omega, bitsOf_skip _ (by rw [lieP_eq M t g hk.1, decide_eq_false_iff_not]; exact fun h => c_29 h.1)]; exact hacc) hW (lv_sub hl [1, 2, 3, 4, 0] rfl)
          · refine lv_aload_n hx hb dX9_untrueIn_32 rfl (lv_at hl 0 rfl) ?_
            refine rw_getR hx hb hts hown hW 207 lk_207 1 209 rfl fX9_15 dX9_untrueIn_33 ?_
            refine lv_iload hx hb dX9_untrueIn_36 (lv_at hl 4 rfl) ?_
            refine rw_iald hx hb hW hnt4 209 lk_209 (by omega) (by omega) (by decide) dX9_untrueIn_38 (v := (M 209 k)) rfl ?_
            refine lv_iload_n hx hb dX9_untrueIn_39 rfl (lv_at hl 2 rfl) ?_
            refine rw_icmp_eq (tgt := 50) hx hb dX9_untrueIn_40 (by decide) (by omega) (by omega) (fun c_40 => ?_) (fun c_40 => ?_)
            · refine rw_iinc (lv' := [(4, .int (iN (k + 1))), (0, .ref (ad 207)), (1, .int (iN t)), (2, .int (iN g)), (3, .int (iN acc))]) hx hb dX9_untrueIn_50 hl (k := 4) rfl (by decide) rfl (fun ls hl => ?_)
              refine lv_goto (tgt := 5) hx hb dX9_untrueIn_53 (by decide) ?_
              exact ih acc (k + 1) H locs ls (by omega) (by omega) (by rw [show (k + 1).toNat = k.toNat + 1 by omega, bitsOf_skip _ (by rw [lieP_eq M t g hk.1, decide_eq_false_iff_not]; exact fun h => h.2 c_40)]; exact hacc) hW (lv_sub hl [1, 2, 3, 4, 0] rfl)
            · refine lv_iload_n hx hb dX9_untrueIn_43 rfl (lv_at hl 3 rfl) ?_
              refine rw_iconst hx hb dX9_untrueIn_44 ?_
              refine lv_iload hx hb dX9_untrueIn_45 (lv_at hl 4 rfl) ?_
              refine rw_shl1 hx hb dX9_untrueIn_47 (by omega) (by omega) ?_
              refine rw_ior hx hb dX9_untrueIn_48 ?_
              refine lv_istore_n (lv' := [(3, .int (iN (bor acc (pow2 k)))), (0, .ref (ad 207)), (1, .int (iN t)), (2, .int (iN g)), (4, .int (iN k))]) hx hb dX9_untrueIn_49 rfl hl (by decide) rfl (fun ls hl => ?_)
              refine rw_iinc (lv' := [(4, .int (iN (k + 1))), (3, .int (iN (bor acc (pow2 k)))), (0, .ref (ad 207)), (1, .int (iN t)), (2, .int (iN g))]) hx hb dX9_untrueIn_50 hl (k := 4) rfl (by decide) rfl (fun ls hl => ?_)
              refine lv_goto (tgt := 5) hx hb dX9_untrueIn_53 (by decide) ?_
              exact ih (bor acc (pow2 k)) (k + 1) H locs ls (by omega) (by omega) (by rw [hacc, show (k + 1).toNat = k.toNat + 1 by omega, ← bitsOf_bor _ (by omega) (by rw [lieP_eq M t g hk.1, decide_eq_true_iff]; exact ⟨c_29, c_40⟩), show ((k.toNat : Nat) : Int) = k by omega]) hW (lv_sub hl [2, 3, 4, 1, 0] rfl)
  refine rw_iconst hx hb dX9_untrueIn_0 ?_
  refine lv_istore_n (lv' := [(3, .int (iN 0)), (0, .ref (ad 207)), (1, .int (iN t)), (2, .int (iN g))]) hx hb dX9_untrueIn_1 rfl hl (by decide) rfl (fun ls hl => ?_)
  refine rw_iconst hx hb dX9_untrueIn_2 ?_
  refine lv_istore (lv' := [(4, .int (iN 0)), (3, .int (iN 0)), (0, .ref (ad 207)), (1, .int (iN t)), (2, .int (iN g))]) hx hb dX9_untrueIn_3 hl (by decide) rfl (fun ls hl => ?_)
  exact hC_5 _ 0 0 H locs ls (Nat.lt_succ_self _) (by omega) (by rfl) hW (lv_sub hl [2, 3, 4, 1, 0] rfl)
abbrev P_X1_untrueFrom (x : Int) (M : Mem) : Option Value → Mem → Prop := oI (fun zz MM => zz = liesN (setF (fld M 1) 27 x) M ∧ Same M MM 30 8)
set_option maxRecDepth 100000 in
set_option maxHeartbeats 4000000 in
theorem c_X1_untrueFrom {l : Launch} {G : va_G} {ad : Nat → Nat} {CA : Nat → ClassId} {nt : Nat} (hnt : 6 ≤ nt) (x : Int) (M : Mem) (hI : InvF (fld M 1)) (hm : fld M 1 46 ≤ 1000) (hx1 : (0 ≤ x ∧ x < M 1 0) ∨ x = 20 ∨ x = 21) (hT : toldI M) : Mt l yX1_untrueFrom cX1_untrueFrom 6 (some .int) 5 103 G ad CA nt LyK [.ref (ad 29), .ref (ad 1), .int (iN x), .ref (ad 207)] M (P_X1_untrueFrom x M) := by
  refine Mt.of (by decide) (Nat.le_of_ble_eq_true rfl) (fun p e s m args below meth c hx hb hr hml hts hown hlocks hnm hW ls hl => ?_)
  have hl : lv_has ls 6 [(0, .ref (ad 29)), (1, .ref (ad 1)), (2, .int (iN x)), (3, .ref (ad 207))] := hl
  have hnt4 : 4 ≤ nt := by omega
  obtain ⟨H, hH⟩ : ∃ z, z = s.heap := ⟨_, rfl⟩
  obtain ⟨locs, hlo⟩ : ∃ z : List Loc, z = [] := ⟨_, rfl⟩
  rw [← hH, ← hlo] at hW ⊢
  have hc := hI.c
  have hJ0 : InvF (setF (fld M 1) 27 x) := InvF_own hI (Or.inl ⟨rfl, hx1⟩)
  have hC_22 : ∀ N : Nat, ∀ (acc : Int) (t : Int) (Mx : Mem) (H : Heap) (locs : List Loc) (ls : Array Slot), (14 - t).toNat < N → (0 ≤ t ∧ t ≤ 13) → (fld Mx 30 = capN (setF (fld M 1) 27 x) t.toNat) → (Same M Mx 30 8) → (acc = ((bitsOf (lieU (setF (fld M 1) 27 x) M t) (M 207 2).toNat : Nat) : Int)) → Wo G ad CA nt LyK (wA ad LyK) s Mx H locs → lv_has ls 6 [(0, .ref (ad 29)), (3, .ref (ad 207)), (4, .int (iN acc)), (5, .int (iN t))] → Wf l 5 103 G ad CA nt LyK (P_X1_untrueFrom x M) p e s m args below meth c H locs (F0 m 22 ls []) := by
    intro N
    induction N with
    | zero => intro acc t Mx H locs ls hN; exact absurd hN (Nat.not_lt_zero _)
    | succ N ih =>
      intro acc t Mx H locs ls hN ht hf hs hacc hW hl
      have hJ := capN_inv hJ0 t.toNat (by rw [setF_ne _ _ (by decide)]; omega)
      rw [← hf] at hJ
      have hI2 := hJ.1
      have hk2 := hI2.k2
      have hT2 : toldI Mx := by
        unfold toldI
        rw [hs 207 (by decide), hs 208 (by decide), hs 209 (by decide)]
        exact hT
      refine lv_iload hx hb dX1_untrueFrom_22 (lv_at hl 3 rfl) ?_
      refine rw_bipush hx hb dX1_untrueFrom_24 (by decide) ?_
      refine rw_icmp_gt (tgt := 61) hx hb dX1_untrueFrom_26 (by decide) (by omega) (by decide) (fun c_26 => ?_) (fun c_26 => ?_)
      · refine lv_iload hx hb dX1_untrueFrom_61 (lv_at hl 2 rfl) ?_
        refine rw_iret hx hb hr hlocks hW dX1_untrueFrom_63 (⟨acc, rfl, ?_⟩)
        have e : t = 13 := by omega
        subst e
        exact ⟨by rw [hacc]; exact lieU_all hT, hs⟩
      · refine lv_iload hx hb dX1_untrueFrom_29 (lv_at hl 2 rfl) ?_
        refine lv_aload_n hx hb dX1_untrueFrom_31 rfl (lv_at hl 1 rfl) ?_
        refine lv_iload hx hb dX1_untrueFrom_32 (lv_at hl 3 rfl) ?_
        refine lv_aload_n hx hb dX1_untrueFrom_34 rfl (lv_at hl 0 rfl) ?_
        refine rw_getR hx hb hts hown hW 29 lk_29 0 30 rfl fX1_12 dX1_untrueFrom_35 ?_
        refine rw_getI hx hb hts hown hW 30 fk_30.1 1 1 rfl rfl fX1_51 dX1_untrueFrom_38 (v := (Mx 30 1)) rfl ?_
        refine rw_callV hx hb hml hts hown hW ⟨Nat.le_refl 0, Nat.le_refl 0⟩ [.int (iN t), .int (iN (Mx 30 1))] 207 lk_207 rfl (c_X9_untrueIn (l := l) (G := G) (ad := ad) (CA := CA) (nt := nt) (by omega) t (by omega) (Mx 30 1) (by omega) Mx hT2) kX1_73 rfl ⟨Nat.le_of_ble_eq_true rfl, Nat.le_of_ble_eq_true rfl⟩ hl.1 rfl (Nat.le_of_ble_eq_true rfl) dX1_untrueFrom_41 (fun v1 M2 H locs hp3 hW => ?_)
        obtain ⟨_, rfl, rfl, hp3⟩ := hp3
        rw [hp3] at hW
        refine rw_stk (st' := [.int (iN ((bitsOf (lieP Mx t (Mx 30 1)) (Mx 207 2).toNat : Nat) : Int)), .int (iN acc)]) rfl ?_
        refine rw_ior hx hb dX1_untrueFrom_44 ?_
        refine lv_istore (lv' := [(4, .int (iN (bor acc ((bitsOf (lieP Mx t (Mx 30 1)) (Mx 207 2).toNat : Nat) : Int)))), (0, .ref (ad 29)), (3, .ref (ad 207)), (5, .int (iN t))]) hx hb dX1_untrueFrom_45 hl (by decide) rfl (fun ls hl => ?_)
        refine lv_aload_n hx hb dX1_untrueFrom_47 rfl (lv_at hl 1 rfl) ?_
        refine rw_getR hx hb hts hown hW 29 lk_29 0 30 rfl fX1_12 dX1_untrueFrom_48 ?_
        refine rw_iconst hx hb dX1_untrueFrom_51 ?_
        refine rw_callV hx hb hml hts hown hW ⟨Nat.le_refl 0, Nat.le_refl 0⟩ [.int (iN 0)] 30 fk_30.1 rfl (c_X0_passByCaptains (l := l) (G := G) (ad := ad) (CA := CA) (nt := nt) (by omega) 30 fk_30 0 (by omega) Mx hI2) kX1_47 rfl ⟨Nat.le_of_ble_eq_true rfl, Nat.le_of_ble_eq_true rfl⟩ hl.1 rfl (Nat.le_of_ble_eq_true rfl) dX1_untrueFrom_52 (fun v4 M5 H locs hp6 hW => ?_)
        obtain ⟨rfl, hM5⟩ := hp6
        refine rw_stk (st' := []) rfl ?_
        refine rw_iinc (lv' := [(5, .int (iN (t + 1))), (4, .int (iN (bor acc ((bitsOf (lieP Mx t (Mx 30 1)) (Mx 207 2).toNat : Nat) : Int)))), (0, .ref (ad 29)), (3, .ref (ad 207))]) hx hb dX1_untrueFrom_55 hl (k := 3) rfl (by decide) rfl (fun ls hl => ?_)
        refine lv_goto (tgt := 22) hx hb dX1_untrueFrom_58 (by decide) ?_
        exact ih (bor acc ((bitsOf (lieP Mx t (Mx 30 1)) (Mx 207 2).toNat : Nat) : Int)) (t + 1) M5 H locs ls (by omega) (by omega) (by rw [hM5.1, hf, show (t + 1).toNat = t.toNat + 1 by omega]; rfl) (hs.trans hM5.2) (by rw [hacc]; exact lieU_step (hs 207 (by decide)) (hs 208 (by decide)) (hs 209 (by decide)) ht.1 (by rw [← hf]; rfl) hT.1.2) hW (lv_sub hl [2, 3, 1, 0] rfl)
  refine lv_aload_n hx hb dX1_untrueFrom_0 rfl (lv_at hl 0 rfl) ?_
  refine rw_getR hx hb hts hown hW 29 lk_29 0 30 rfl fX1_12 dX1_untrueFrom_1 ?_
  refine lv_aload_n hx hb dX1_untrueFrom_4 rfl (lv_at hl 1 rfl) ?_
  refine rw_callV hx hb hml hts hown hW ⟨Nat.le_refl 0, Nat.le_refl 0⟩ [.ref (ad 1)] 30 fk_30.1 rfl (c_X0_copyOf (l := l) (G := G) (ad := ad) (CA := CA) (nt := nt) (by omega) 30 fk_30 1 fk_1 (by omega) M) kX1_18 rfl ⟨Nat.le_of_ble_eq_true rfl, Nat.le_of_ble_eq_true rfl⟩ hl.1 rfl (Nat.le_of_ble_eq_true rfl) dX1_untrueFrom_5 (fun v7 M8 H locs hp9 hW => ?_)
  obtain ⟨rfl, hM8⟩ := hp9
  refine rw_stk (st' := []) rfl ?_
  refine lv_aload_n hx hb dX1_untrueFrom_8 rfl (lv_at hl 0 rfl) ?_
  refine rw_getR hx hb hts hown hW 29 lk_29 0 30 rfl fX1_12 dX1_untrueFrom_9 ?_
  refine lv_iload_n hx hb dX1_untrueFrom_12 rfl (lv_at hl 2 rfl) ?_
  refine rw_putI hx hb hts hown hW 30 fk_30.1 1 1 rfl rfl qX1_51 (v := x) dX1_untrueFrom_13 (fun H locs hW => ?_)
  obtain ⟨M10, hM10⟩ : ∃ z, z = upd2 M8 30 1 x := ⟨_, rfl⟩
  rw [← hM10] at hW
  have e3 : fld M10 30 = setF (fld M 1) 27 x := by rw [hM10, fld_setk, hM8.1]
  have hs3 : Same M M10 30 8 := by rw [hM10]; exact hM8.2.up (by decide) (by decide)
  refine rw_iconst hx hb dX1_untrueFrom_16 ?_
  refine lv_istore (lv' := [(4, .int (iN 0)), (0, .ref (ad 29)), (1, .ref (ad 1)), (2, .int (iN x)), (3, .ref (ad 207))]) hx hb dX1_untrueFrom_17 hl (by decide) rfl (fun ls hl => ?_)
  refine rw_iconst hx hb dX1_untrueFrom_19 ?_
  refine lv_istore (lv' := [(5, .int (iN 0)), (4, .int (iN 0)), (0, .ref (ad 29)), (1, .ref (ad 1)), (2, .int (iN x)), (3, .ref (ad 207))]) hx hb dX1_untrueFrom_20 hl (by decide) rfl (fun ls hl => ?_)
  exact hC_22 _ 0 0 M10 H locs ls (Nat.lt_succ_self _) (by omega) e3 hs3 (by rw [lieU_none _ _ _ (fun k hk => (hT.2 k (by omega) (by omega)).1.1)]; rfl) hW (lv_sub hl [2, 5, 1, 0] rfl)
abbrev P_X9_add (n : Int) (g : Int) (M : Mem) : Option Value → Mem → Prop := oI (fun zz MM => BP (M 207 2 < 8) zz ∧ ((M 207 2 < 8 ∧ MM = upd2 (upd2 (upd2 M 208 (M 207 2) n) 209 (M 207 2) g) 207 2 (M 207 2 + 1)) ∨ (8 ≤ M 207 2 ∧ MM = M)))
set_option maxRecDepth 100000 in
set_option maxHeartbeats 4000000 in
theorem c_X9_add {l : Launch} {G : va_G} {ad : Nat → Nat} {CA : Nat → ClassId} {nt : Nat} (hnt : 6 ≤ nt) (n : Int) (g : Int) (M : Mem) (hT : toldI M) : Mt l yX9_add cX9_add 3 (some .boolean) 0 0 G ad CA nt LyK [.ref (ad 207), .int (iN n), .int (iN g)] M (P_X9_add n g M) := by
  refine Mt.of (by decide) (Nat.le_of_ble_eq_true rfl) (fun p e s m args below meth c hx hb hr hml hts hown hlocks hnm hW ls hl => ?_)
  have hl : lv_has ls 3 [(0, .ref (ad 207)), (1, .int (iN n)), (2, .int (iN g))] := hl
  have hnt4 : 4 ≤ nt := by omega
  obtain ⟨H, hH⟩ : ∃ z, z = s.heap := ⟨_, rfl⟩
  obtain ⟨locs, hlo⟩ : ∃ z : List Loc, z = [] := ⟨_, rfl⟩
  rw [← hH, ← hlo] at hW ⊢
  have hz := hT.1
  refine lv_aload_n hx hb dX9_add_0 rfl (lv_at hl 0 rfl) ?_
  refine rw_getI hx hb hts hown hW 207 lk_207 2 2 rfl rfl fX9_18 dX9_add_1 (v := (M 207 2)) rfl ?_
  refine rw_bipush hx hb dX9_add_4 (by decide) ?_
  refine rw_icmp_ge (tgt := 16) hx hb dX9_add_6 (by decide) (by omega) (by decide) (fun c_6 => ?_) (fun c_6 => ?_)
  · refine rw_iconst hx hb dX9_add_16 ?_
    refine rw_zret hx hb hr hlocks hW dX9_add_17 (Or.inl rfl) (⟨0, rfl, ?_⟩)
    exact ⟨BP.f (by omega), Or.inr ⟨by omega, rfl⟩⟩
  · refine lv_aload_n hx hb dX9_add_9 rfl (lv_at hl 0 rfl) ?_
    refine rw_getI hx hb hts hown hW 207 lk_207 2 2 rfl rfl fX9_18 dX9_add_10 (v := (M 207 2)) rfl ?_
    refine rw_if_ge (tgt := 18) hx hb dX9_add_13 (by decide) (by omega) (fun c_13 => ?_) (fun c_13 => ?_)
    · refine lv_aload_n hx hb dX9_add_18 rfl (lv_at hl 0 rfl) ?_
      refine rw_getR hx hb hts hown hW 207 lk_207 0 208 rfl fX9_9 dX9_add_19 ?_
      refine lv_aload_n hx hb dX9_add_22 rfl (lv_at hl 0 rfl) ?_
      refine rw_getI hx hb hts hown hW 207 lk_207 2 2 rfl rfl fX9_18 dX9_add_23 (v := (M 207 2)) rfl ?_
      refine lv_iload_n hx hb dX9_add_26 rfl (lv_at hl 1 rfl) ?_
      refine rw_iast hx hb hW hnt4 208 lk_208 (v := n) (by omega) (by omega) (by decide) dX9_add_27 (fun H locs hW => ?_)
      obtain ⟨M1, hM1⟩ : ∃ z, z = upd2 M 208 (M 207 2) n := ⟨_, rfl⟩
      rw [← hM1] at hW
      refine lv_aload_n hx hb dX9_add_28 rfl (lv_at hl 0 rfl) ?_
      refine rw_getR hx hb hts hown hW 207 lk_207 1 209 rfl fX9_15 dX9_add_29 ?_
      refine lv_aload_n hx hb dX9_add_32 rfl (lv_at hl 0 rfl) ?_
      refine rw_getI hx hb hts hown hW 207 lk_207 2 2 rfl rfl fX9_18 dX9_add_33 (v := (M 207 2)) (by rw [hM1, upd2_ne1 (by omega)]) ?_
      refine lv_iload_n hx hb dX9_add_36 rfl (lv_at hl 2 rfl) ?_
      refine rw_iast hx hb hW hnt4 209 lk_209 (v := g) (by omega) (by omega) (by decide) dX9_add_37 (fun H locs hW => ?_)
      obtain ⟨M2, hM2⟩ : ∃ z, z = upd2 M1 209 (M 207 2) g := ⟨_, rfl⟩
      rw [← hM2] at hW
      refine lv_aload_n hx hb dX9_add_38 rfl (lv_at hl 0 rfl) ?_
      refine lv_dup hx hb dX9_add_39 rfl ?_
      refine rw_getI hx hb hts hown hW 207 lk_207 2 2 rfl rfl fX9_18 dX9_add_40 (v := (M 207 2)) (by rw [hM2, upd2_ne1 (by omega), hM1, upd2_ne1 (by omega)]) ?_
      refine rw_iconst hx hb dX9_add_43 ?_
      refine rw_iadd hx hb dX9_add_44 ?_
      refine rw_putI hx hb hts hown hW 207 lk_207 2 2 rfl rfl qX9_18 (v := (M 207 2) + 1) dX9_add_45 (fun H locs hW => ?_)
      obtain ⟨M3, hM3⟩ : ∃ z, z = upd2 M2 207 2 ((M 207 2) + 1) := ⟨_, rfl⟩
      rw [← hM3] at hW
      refine rw_iconst hx hb dX9_add_48 ?_
      refine rw_zret hx hb hr hlocks hW dX9_add_49 (Or.inr rfl) (⟨1, rfl, ?_⟩)
      exact ⟨BP.t (by omega), Or.inl ⟨by omega, by rw [hM3, hM2, hM1]⟩⟩
    · exfalso; omega
abbrev P_X1_minutesBySeed (sd : Int32) (n : Int) (M : Mem) : Option Value → Mem → Prop := oI (fun zz MM => zz = playC (fld M 1) sd n.toNat ∧ fld MM 30 = playP (fld M 1) sd n.toNat ∧ Same M MM 30 8)
set_option maxRecDepth 100000 in
set_option maxHeartbeats 4000000 in
theorem c_X1_minutesBySeed {l : Launch} {G : va_G} {ad : Nat → Nat} {CA : Nat → ClassId} {nt : Nat} (hnt : 6 ≤ nt) (sd : Int32) (n : Int) (hn : 0 ≤ n ∧ n ≤ 60) (M : Mem) (hI : InvF (fld M 1)) (hm : fld M 1 46 ≤ 1000) : Mt l yX1_minutesBySeed cX1_minutesBySeed 5 (some .int) 5 103 G ad CA nt LyK [.ref (ad 29), .ref (ad 1), .int sd, .int (iN n)] M (P_X1_minutesBySeed sd n M) := by
  refine Mt.of (by decide) (Nat.le_of_ble_eq_true rfl) (fun p e s m args below meth c hx hb hr hml hts hown hlocks hnm hW ls hl => ?_)
  have hl : lv_has ls 5 [(0, .ref (ad 29)), (1, .ref (ad 1)), (2, .int sd), (3, .int (iN n))] := hl
  have hnt4 : 4 ≤ nt := by omega
  obtain ⟨H, hH⟩ : ∃ z, z = s.heap := ⟨_, rfl⟩
  obtain ⟨locs, hlo⟩ : ∃ z : List Loc, z = [] := ⟨_, rfl⟩
  rw [← hH, ← hlo] at hW ⊢
  have hC_11 : ∀ N : Nat, ∀ (sd2 : Int32) (w : Int) (Mx : Mem) (H : Heap) (locs : List Loc) (ls : Array Slot), (n - w).toNat < N → (0 ≤ w ∧ w ≤ n) → (InvF (fld Mx 30)) → (fld Mx 30 46 ≤ 1000 + w) → (Same M Mx 30 8) → (playP (fld Mx 30) sd2 (n - w).toNat = playP (fld M 1) sd n.toNat) → (w + playC (fld Mx 30) sd2 (n - w).toNat = playC (fld M 1) sd n.toNat) → Wo G ad CA nt LyK (wA ad LyK) s Mx H locs → lv_has ls 5 [(0, .ref (ad 29)), (2, .int sd2), (3, .int (iN n)), (4, .int (iN w))] → Wf l 5 103 G ad CA nt LyK (P_X1_minutesBySeed sd n M) p e s m args below meth c H locs (F0 m 11 ls []) := by
    intro N
    induction N with
    | zero => intro sd2 w Mx H locs ls hN; exact absurd hN (Nat.not_lt_zero _)
    | succ N ih =>
      intro sd2 w Mx H locs ls hN hw hJ hm2 hs hp hcn hW hl
      have hc := hJ.c
      have hk := hJ.k2
      have hb3 := hJ.b
      refine lv_iload hx hb dX1_minutesBySeed_11 (lv_at hl 3 rfl) ?_
      refine lv_iload_n hx hb dX1_minutesBySeed_13 rfl (lv_at hl 2 rfl) ?_
      refine rw_icmp_ge (tgt := 75) hx hb dX1_minutesBySeed_14 (by decide) (by omega) (by omega) (fun c_14 => ?_) (fun c_14 => ?_)
      · refine lv_iload hx hb dX1_minutesBySeed_75 (lv_at hl 3 rfl) ?_
        refine rw_iret hx hb hr hlocks hW dX1_minutesBySeed_77 (⟨w, rfl, ?_⟩)
        refine ⟨?_, ?_, hs⟩
        · rw [← hcn, show (n - w).toNat = 0 by omega, playC_0]; omega
        · rw [← hp, show (n - w).toNat = 0 by omega, playP_0]
      · refine lv_aload_n hx hb dX1_minutesBySeed_17 rfl (lv_at hl 0 rfl) ?_
        refine rw_getR hx hb hts hown hW 29 lk_29 0 30 rfl fX1_12 dX1_minutesBySeed_18 ?_
        refine rw_callV hx hb hml hts hown hW ⟨Nat.le_refl 0, Nat.le_refl 0⟩ [] 30 fk_30.1 rfl (c_X0_isOver (l := l) (G := G) (ad := ad) (CA := CA) (nt := nt) 30 fk_30 Mx hc hk) kX1_54 rfl ⟨Nat.le_of_ble_eq_true rfl, Nat.le_of_ble_eq_true rfl⟩ hl.1 rfl (Nat.le_of_ble_eq_true rfl) dX1_minutesBySeed_21 (fun v1 M2 H locs hp3 hW => ?_)
        obtain ⟨a4, rfl, hp3, hp3m⟩ := hp3
        rw [hp3m] at hW
        rcases hp3 with ⟨rfl, hp3⟩ | ⟨rfl, hp3⟩
        · refine rw_stk (st' := [.int (iN 1)]) rfl ?_
          refine rw_if_ne (tgt := 75) hx hb dX1_minutesBySeed_24 (by decide) (by decide) (fun _ => ?_) (fun c => absurd c (by decide))
          refine lv_iload hx hb dX1_minutesBySeed_75 (lv_at hl 3 rfl) ?_
          refine rw_iret hx hb hr hlocks hW dX1_minutesBySeed_77 (⟨w, rfl, ?_⟩)
          refine ⟨?_, ?_, hs⟩
          · rw [← hcn, playC_over (by rw [fld_47, fld_27]; omega)]; omega
          · rw [← hp, playP_over (by rw [fld_47, fld_27]; omega)]
        · refine rw_stk (st' := [.int (iN 0)]) rfl ?_
          refine rw_if_ne (tgt := 75) hx hb dX1_minutesBySeed_24 (by decide) (by decide) (fun c => absurd c (by decide)) (fun _ => ?_)
          refine lv_iload_n hx hb dX1_minutesBySeed_27 rfl (lv_at hl 1 rfl) ?_
          refine lv_ldc (v := 1103515245) hx hb hown (hts _ (wm_42 _ (List.mem_of_getElem? (i := 22) rfl))) dX1_minutesBySeed_28 ?_
          refine lv_imul hx hb dX1_minutesBySeed_30 ?_
          refine rw_sipush hx hb dX1_minutesBySeed_31 (by decide) ?_
          refine lv_iadd hx hb dX1_minutesBySeed_34 ?_
          rw [nextS_is]
          refine lv_istore_n (lv' := [(2, .int (nextS sd2)), (0, .ref (ad 29)), (3, .int (iN n)), (4, .int (iN w))]) hx hb dX1_minutesBySeed_35 rfl hl (by decide) rfl (fun ls hl => ?_)
          refine lv_aload_n hx hb dX1_minutesBySeed_36 rfl (lv_at hl 1 rfl) ?_
          refine rw_getR hx hb hts hown hW 29 lk_29 0 30 rfl fX1_12 dX1_minutesBySeed_37 ?_
          refine lv_iload_n hx hb dX1_minutesBySeed_40 rfl (lv_at hl 0 rfl) ?_
          refine rw_bipush hx hb dX1_minutesBySeed_41 (by decide) ?_
          refine lv_iushr hx hb dX1_minutesBySeed_43 rfl ?_
          refine rw_sipush hx hb dX1_minutesBySeed_44 (by decide) ?_
          refine lv_iand hx hb dX1_minutesBySeed_47 ?_
          rw [drawC_is]
          obtain ⟨dv, hdi, hdr, htm, hdv⟩ := outB_ex (nextS sd2)
          rw [hdi]
          refine rw_bipush hx hb dX1_minutesBySeed_48 (by decide) ?_
          refine rw_irem hx hb dX1_minutesBySeed_50 (by omega) (by decide) (by decide) rfl ?_
          refine lv_aload_n hx hb dX1_minutesBySeed_51 rfl (lv_at hl 1 rfl) ?_
          refine rw_getR hx hb hts hown hW 29 lk_29 0 30 rfl fX1_12 dX1_minutesBySeed_52 ?_
          refine rw_getI hx hb hts hown hW 30 fk_30.1 3 3 rfl rfl fX1_80 dX1_minutesBySeed_55 (v := (Mx 30 3)) rfl ?_
          refine rw_icmp_ge (tgt := 65) hx hb dX1_minutesBySeed_58 (by decide) (by omega) (by omega) (fun c_58 => ?_) (fun c_58 => ?_)
          · refine rw_iconst hx hb dX1_minutesBySeed_65 ?_
            refine rw_callV hx hb hml hts hown hW ⟨Nat.le_refl 0, Nat.le_refl 0⟩ [.int (iN 0)] 30 fk_30.1 rfl (c_X0_passByCaptains (l := l) (G := G) (ad := ad) (CA := CA) (nt := nt) (by omega) 30 fk_30 0 (by omega) Mx hJ) kX1_47 rfl ⟨Nat.le_of_ble_eq_true rfl, Nat.le_of_ble_eq_true rfl⟩ hl.1 rfl (Nat.le_of_ble_eq_true rfl) dX1_minutesBySeed_66 (fun v5 M6 H locs hp7 hW => ?_)
            obtain ⟨rfl, hM6⟩ := hp7
            refine rw_stk (st' := []) rfl ?_
            refine rw_iinc (lv' := [(4, .int (iN (w + 1))), (2, .int (nextS sd2)), (0, .ref (ad 29)), (3, .int (iN n))]) hx hb dX1_minutesBySeed_69 hl (k := 3) rfl (by decide) rfl (fun ls hl => ?_)
            refine lv_goto (tgt := 11) hx hb dX1_minutesBySeed_72 (by decide) ?_
            exact ih (nextS sd2) (w + 1) M6 H locs ls (by omega) (by omega) (by rw [hM6.1]; exact passCap_inv hJ (by omega) _) (by rw [hM6.1]; have := (passCap_min (fld Mx 30) 0).1; omega) (hs.trans hM6.2) (by rw [hM6.1, ← hp, show (n - w).toNat = (n - (w + 1)).toNat + 1 by omega, playP_step (by rw [fld_47, fld_27]; omega) (by rw [hdv, fld_45, if_neg (by omega)])]) (by rw [hM6.1, ← hcn, show (n - w).toNat = (n - (w + 1)).toNat + 1 by omega, playC_step (by rw [fld_47, fld_27]; omega) (by rw [hdv, fld_45, if_neg (by omega)])]; omega) hW (lv_sub hl [2, 1, 3, 0] rfl)
          · refine rw_iconst hx hb dX1_minutesBySeed_61 ?_
            refine lv_goto (tgt := 66) hx hb dX1_minutesBySeed_62 (by decide) ?_
            refine rw_callV hx hb hml hts hown hW ⟨Nat.le_refl 0, Nat.le_refl 0⟩ [.int (iN 1)] 30 fk_30.1 rfl (c_X0_passByCaptains (l := l) (G := G) (ad := ad) (CA := CA) (nt := nt) (by omega) 30 fk_30 1 (by omega) Mx hJ) kX1_47 rfl ⟨Nat.le_of_ble_eq_true rfl, Nat.le_of_ble_eq_true rfl⟩ hl.1 rfl (Nat.le_of_ble_eq_true rfl) dX1_minutesBySeed_66 (fun v8 M9 H locs hp10 hW => ?_)
            obtain ⟨rfl, hM9⟩ := hp10
            refine rw_stk (st' := []) rfl ?_
            refine rw_iinc (lv' := [(4, .int (iN (w + 1))), (2, .int (nextS sd2)), (0, .ref (ad 29)), (3, .int (iN n))]) hx hb dX1_minutesBySeed_69 hl (k := 3) rfl (by decide) rfl (fun ls hl => ?_)
            refine lv_goto (tgt := 11) hx hb dX1_minutesBySeed_72 (by decide) ?_
            exact ih (nextS sd2) (w + 1) M9 H locs ls (by omega) (by omega) (by rw [hM9.1]; exact passCap_inv hJ (by omega) _) (by rw [hM9.1]; have := (passCap_min (fld Mx 30) 1).1; omega) (hs.trans hM9.2) (by rw [hM9.1, ← hp, show (n - w).toNat = (n - (w + 1)).toNat + 1 by omega, playP_step (by rw [fld_47, fld_27]; omega) (by rw [hdv, fld_45, if_pos (by omega)])]) (by rw [hM9.1, ← hcn, show (n - w).toNat = (n - (w + 1)).toNat + 1 by omega, playC_step (by rw [fld_47, fld_27]; omega) (by rw [hdv, fld_45, if_pos (by omega)])]; omega) hW (lv_sub hl [2, 1, 3, 0] rfl)
  refine lv_aload_n hx hb dX1_minutesBySeed_0 rfl (lv_at hl 0 rfl) ?_
  refine rw_getR hx hb hts hown hW 29 lk_29 0 30 rfl fX1_12 dX1_minutesBySeed_1 ?_
  refine lv_aload_n hx hb dX1_minutesBySeed_4 rfl (lv_at hl 1 rfl) ?_
  refine rw_callV hx hb hml hts hown hW ⟨Nat.le_refl 0, Nat.le_refl 0⟩ [.ref (ad 1)] 30 fk_30.1 rfl (c_X0_copyOf (l := l) (G := G) (ad := ad) (CA := CA) (nt := nt) (by omega) 30 fk_30 1 fk_1 (by omega) M) kX1_18 rfl ⟨Nat.le_of_ble_eq_true rfl, Nat.le_of_ble_eq_true rfl⟩ hl.1 rfl (Nat.le_of_ble_eq_true rfl) dX1_minutesBySeed_5 (fun v11 M12 H locs hp13 hW => ?_)
  obtain ⟨rfl, hM12⟩ := hp13
  refine rw_stk (st' := []) rfl ?_
  refine rw_iconst hx hb dX1_minutesBySeed_8 ?_
  refine lv_istore (lv' := [(4, .int (iN 0)), (0, .ref (ad 29)), (1, .ref (ad 1)), (2, .int sd), (3, .int (iN n))]) hx hb dX1_minutesBySeed_9 hl (by decide) rfl (fun ls hl => ?_)
  exact hC_11 _ sd 0 M12 H locs ls (Nat.lt_succ_self _) (by omega) (by rw [hM12.1]; exact hI) (by rw [hM12.1]; omega) hM12.2 (by rw [hM12.1, Int.sub_zero]) (by rw [hM12.1, Int.sub_zero, Int.zero_add]) hW (lv_sub hl [1, 3, 4, 0] rfl)
