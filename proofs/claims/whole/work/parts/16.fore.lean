abbrev P_X1_letPass (n : Int) (M : Mem) : Option Value → Mem → Prop := oI (fun zz MM => zz = capN (fld M 30) n.toNat 27 ∧ fld MM 30 = capN (fld M 30) n.toNat ∧ Same M MM 30 8)
set_option maxRecDepth 100000 in
set_option maxHeartbeats 4000000 in
theorem c_X1_letPass {l : Launch} {G : va_G} {ad : Nat → Nat} {CA : Nat → ClassId} {nt : Nat} (hnt : 6 ≤ nt) (n : Int) (hn : 0 ≤ n ∧ n ≤ 60) (M : Mem) (hI : InvF (fld M 30)) (hm : fld M 30 46 ≤ 2000) : Mt l yX1_letPass cX1_letPass 3 (some .int) 5 103 G ad CA nt LyK [.ref (ad 29), .int (iN n)] M (P_X1_letPass n M) := by
  refine Mt.of (by decide) (Nat.le_of_ble_eq_true rfl) (fun p e s m args below meth c hx hb hr hml hts hown hlocks hnm hW ls hl => ?_)
  have hl : lv_has ls 3 [(0, .ref (ad 29)), (1, .int (iN n))] := hl
  have hnt4 : 4 ≤ nt := by omega
  obtain ⟨H, hH⟩ : ∃ z, z = s.heap := ⟨_, rfl⟩
  obtain ⟨locs, hlo⟩ : ∃ z : List Loc, z = [] := ⟨_, rfl⟩
  rw [← hH, ← hlo] at hW ⊢
  have hC_2 : ∀ N : Nat, ∀ (i : Int) (Mx : Mem) (H : Heap) (locs : List Loc) (ls : Array Slot), (n - i).toNat < N → (0 ≤ i ∧ i ≤ n) → (fld Mx 30 = capN (fld M 30) i.toNat) → (Same M Mx 30 8) → Wo G ad CA nt LyK (wA ad LyK) s Mx H locs → lv_has ls 3 [(0, .ref (ad 29)), (1, .int (iN n)), (2, .int (iN i))] → Wf l 5 103 G ad CA nt LyK (P_X1_letPass n M) p e s m args below meth c H locs (F0 m 2 ls []) := by
    intro N
    induction N with
    | zero => intro i Mx H locs ls hN; exact absurd hN (Nat.not_lt_zero _)
    | succ N ih =>
      intro i Mx H locs ls hN hi hf hs hW hl
      have hJ := capN_inv hI i.toNat (by omega)
      rw [← hf] at hJ
      have hI := hJ.1
      refine lv_iload_n hx hb dX1_letPass_2 rfl (lv_at hl 2 rfl) ?_
      refine lv_iload_n hx hb dX1_letPass_3 rfl (lv_at hl 1 rfl) ?_
      refine rw_icmp_ge (tgt := 21) hx hb dX1_letPass_4 (by decide) (by omega) (by omega) (fun c_4 => ?_) (fun c_4 => ?_)
      · refine lv_aload_n hx hb dX1_letPass_21 rfl (lv_at hl 0 rfl) ?_
        refine rw_getR hx hb hts hown hW 29 lk_29 0 30 rfl fX1_12 dX1_letPass_22 ?_
        refine rw_getI hx hb hts hown hW 30 fk_30.1 1 1 rfl rfl fX1_51 dX1_letPass_25 (v := (Mx 30 1)) rfl ?_
        refine rw_iret hx hb hr hlocks hW dX1_letPass_28 (⟨(Mx 30 1), rfl, ?_⟩)
        have e : i = n := by omega
        subst e
        exact ⟨by rw [← hf]; rfl, hf, hs⟩
      · refine lv_aload_n hx hb dX1_letPass_7 rfl (lv_at hl 0 rfl) ?_
        refine rw_getR hx hb hts hown hW 29 lk_29 0 30 rfl fX1_12 dX1_letPass_8 ?_
        refine rw_iconst hx hb dX1_letPass_11 ?_
        refine rw_callV hx hb hml hts hown hW ⟨Nat.le_refl 0, Nat.le_refl 0⟩ [.int (iN 0)] 30 fk_30.1 rfl (c_X0_passByCaptains (l := l) (G := G) (ad := ad) (CA := CA) (nt := nt) (by omega) 30 fk_30 0 (by omega) Mx hI) kX1_47 rfl ⟨Nat.le_of_ble_eq_true rfl, Nat.le_of_ble_eq_true rfl⟩ hl.1 rfl (Nat.le_of_ble_eq_true rfl) dX1_letPass_12 (fun v1 M2 H locs hp3 hW => ?_)
        obtain ⟨rfl, hM2⟩ := hp3
        refine rw_stk (st' := []) rfl ?_
        refine rw_iinc (lv' := [(2, .int (iN (i + 1))), (0, .ref (ad 29)), (1, .int (iN n))]) hx hb dX1_letPass_15 hl (k := 2) rfl (by decide) rfl (fun ls hl => ?_)
        refine lv_goto (tgt := 2) hx hb dX1_letPass_18 (by decide) ?_
        exact ih (i + 1) M2 H locs ls (by omega) (by omega) (by rw [hM2.1, hf, show (i + 1).toNat = i.toNat + 1 by omega]; rfl) (hs.trans hM2.2) hW (lv_sub hl [1, 2, 0] rfl)
  refine rw_iconst hx hb dX1_letPass_0 ?_
  refine lv_istore_n (lv' := [(2, .int (iN 0)), (0, .ref (ad 29)), (1, .int (iN n))]) hx hb dX1_letPass_1 rfl hl (by decide) rfl (fun ls hl => ?_)
  exact hC_2 _ 0 M H locs ls (Nat.lt_succ_self _) (by omega) rfl Same.rf hW (lv_sub hl [1, 2, 0] rfl)
abbrev P_X1_kegBehind (n : Int) (M : Mem) : Option Value → Mem → Prop := oI (fun zz MM => zz = capN (fld M 1) n.toNat 27 ∧ Same M MM 30 8)
set_option maxRecDepth 100000 in
set_option maxHeartbeats 4000000 in
theorem c_X1_kegBehind {l : Launch} {G : va_G} {ad : Nat → Nat} {CA : Nat → ClassId} {nt : Nat} (hnt : 6 ≤ nt) (n : Int) (hn : 0 ≤ n ∧ n ≤ 60) (M : Mem) (hI : InvF (fld M 1)) (hm : fld M 1 46 ≤ 1000) : Mt l yX1_kegBehind cX1_kegBehind 3 (some .int) 6 125 G ad CA nt LyK [.ref (ad 29), .ref (ad 1), .int (iN n)] M (P_X1_kegBehind n M) := by
  refine Mt.of (by decide) (Nat.le_of_ble_eq_true rfl) (fun p e s m args below meth c hx hb hr hml hts hown hlocks hnm hW ls hl => ?_)
  have hl : lv_has ls 3 [(0, .ref (ad 29)), (1, .ref (ad 1)), (2, .int (iN n))] := hl
  have hnt4 : 4 ≤ nt := by omega
  obtain ⟨H, hH⟩ : ∃ z, z = s.heap := ⟨_, rfl⟩
  obtain ⟨locs, hlo⟩ : ∃ z : List Loc, z = [] := ⟨_, rfl⟩
  rw [← hH, ← hlo] at hW ⊢
  refine lv_aload_n hx hb dX1_kegBehind_0 rfl (lv_at hl 0 rfl) ?_
  refine rw_getR hx hb hts hown hW 29 lk_29 0 30 rfl fX1_12 dX1_kegBehind_1 ?_
  refine lv_aload_n hx hb dX1_kegBehind_4 rfl (lv_at hl 1 rfl) ?_
  refine rw_callV hx hb hml hts hown hW ⟨Nat.le_refl 0, Nat.le_refl 0⟩ [.ref (ad 1)] 30 fk_30.1 rfl (c_X0_copyOf (l := l) (G := G) (ad := ad) (CA := CA) (nt := nt) (by omega) 30 fk_30 1 fk_1 (by omega) M) kX1_18 rfl ⟨Nat.le_of_ble_eq_true rfl, Nat.le_of_ble_eq_true rfl⟩ hl.1 rfl (Nat.le_of_ble_eq_true rfl) dX1_kegBehind_5 (fun v1 M2 H locs hp3 hW => ?_)
  obtain ⟨rfl, hM2⟩ := hp3
  refine rw_stk (st' := []) rfl ?_
  refine lv_aload_n hx hb dX1_kegBehind_8 rfl (lv_at hl 0 rfl) ?_
  refine lv_iload_n hx hb dX1_kegBehind_9 rfl (lv_at hl 2 rfl) ?_
  refine rw_callV hx hb hml hts hown hW ⟨Nat.le_refl 0, Nat.le_refl 0⟩ [.int (iN n)] 29 lk_29 rfl (c_X1_letPass (l := l) (G := G) (ad := ad) (CA := CA) (nt := nt) (by omega) n (by omega) M2 (by rw [hM2.1]; exact hI) (by rw [hM2.1]; omega)) kX1_22 rfl ⟨Nat.le_of_ble_eq_true rfl, Nat.le_of_ble_eq_true rfl⟩ hl.1 rfl (Nat.le_of_ble_eq_true rfl) dX1_kegBehind_10 (fun v4 M5 H locs hp6 hW => ?_)
  obtain ⟨a7, rfl, hM5⟩ := hp6
  refine rw_stk (st' := [.int (iN a7)]) rfl ?_
  refine rw_iret hx hb hr hlocks hW dX1_kegBehind_13 (⟨a7, rfl, ?_⟩)
  rw [hM2.1] at hM5
  exact ⟨hM5.1, hM2.2.trans hM5.2.2⟩
abbrev P_X1_kegByKinds (x : Int) (y : Int) (n : Int) (M : Mem) : Option Value → Mem → Prop := oI (fun zz MM => zz = capN (kindsF (fld M 1) x y) n.toNat 27 ∧ Same M MM 30 8)
set_option maxRecDepth 100000 in
set_option maxHeartbeats 4000000 in
theorem c_X1_kegByKinds {l : Launch} {G : va_G} {ad : Nat → Nat} {CA : Nat → ClassId} {nt : Nat} (hnt : 6 ≤ nt) (x : Int) (y : Int) (hx1 : 0 ≤ x ∧ x ≤ 4) (hy1 : 0 ≤ y ∧ y ≤ 4) (n : Int) (hn : 0 ≤ n ∧ n ≤ 60) (M : Mem) (hI : InvF (fld M 1)) (hm : fld M 1 46 ≤ 1000) : Mt l yX1_kegByKinds cX1_kegByKinds 5 (some .int) 6 125 G ad CA nt LyK [.ref (ad 29), .ref (ad 1), .int (iN x), .int (iN y), .int (iN n)] M (P_X1_kegByKinds x y n M) := by
  refine Mt.of (by decide) (Nat.le_of_ble_eq_true rfl) (fun p e s m args below meth c hx hb hr hml hts hown hlocks hnm hW ls hl => ?_)
  have hl : lv_has ls 5 [(0, .ref (ad 29)), (1, .ref (ad 1)), (2, .int (iN x)), (3, .int (iN y)), (4, .int (iN n))] := hl
  have hnt4 : 4 ≤ nt := by omega
  obtain ⟨H, hH⟩ : ∃ z, z = s.heap := ⟨_, rfl⟩
  obtain ⟨locs, hlo⟩ : ∃ z : List Loc, z = [] := ⟨_, rfl⟩
  rw [← hH, ← hlo] at hW ⊢
  refine lv_aload_n hx hb dX1_kegByKinds_0 rfl (lv_at hl 0 rfl) ?_
  refine rw_getR hx hb hts hown hW 29 lk_29 0 30 rfl fX1_12 dX1_kegByKinds_1 ?_
  refine lv_aload_n hx hb dX1_kegByKinds_4 rfl (lv_at hl 1 rfl) ?_
  refine rw_callV hx hb hml hts hown hW ⟨Nat.le_refl 0, Nat.le_refl 0⟩ [.ref (ad 1)] 30 fk_30.1 rfl (c_X0_copyOf (l := l) (G := G) (ad := ad) (CA := CA) (nt := nt) (by omega) 30 fk_30 1 fk_1 (by omega) M) kX1_18 rfl ⟨Nat.le_of_ble_eq_true rfl, Nat.le_of_ble_eq_true rfl⟩ hl.1 rfl (Nat.le_of_ble_eq_true rfl) dX1_kegByKinds_5 (fun v1 M2 H locs hp3 hW => ?_)
  obtain ⟨rfl, hM2⟩ := hp3
  refine rw_stk (st' := []) rfl ?_
  refine lv_aload_n hx hb dX1_kegByKinds_8 rfl (lv_at hl 0 rfl) ?_
  refine rw_getR hx hb hts hown hW 29 lk_29 0 30 rfl fX1_12 dX1_kegByKinds_9 ?_
  refine rw_getR hx hb hts hown hW 30 fk_30.1 8 34 rfl fX1_26 dX1_kegByKinds_12 ?_
  refine lv_iload_n hx hb dX1_kegByKinds_15 rfl (lv_at hl 2 rfl) ?_
  refine rw_putI hx hb hts hown hW 34 fk_30.2.2.2.2.1.1 3 3 rfl rfl qX1_30 (v := x) dX1_kegByKinds_16 (fun H locs hW => ?_)
  obtain ⟨M4, hM4⟩ : ∃ z, z = upd2 M2 34 3 x := ⟨_, rfl⟩
  rw [← hM4] at hW
  refine lv_aload_n hx hb dX1_kegByKinds_19 rfl (lv_at hl 0 rfl) ?_
  refine rw_getR hx hb hts hown hW 29 lk_29 0 30 rfl fX1_12 dX1_kegByKinds_20 ?_
  refine rw_getR hx hb hts hown hW 30 fk_30.1 9 36 rfl fX1_36 dX1_kegByKinds_23 ?_
  refine lv_iload_n hx hb dX1_kegByKinds_26 rfl (lv_at hl 3 rfl) ?_
  refine rw_putI hx hb hts hown hW 36 fk_30.2.2.2.2.2.1 3 3 rfl rfl qX1_30 (v := y) dX1_kegByKinds_27 (fun H locs hW => ?_)
  obtain ⟨M5, hM5⟩ : ∃ z, z = upd2 M4 36 3 y := ⟨_, rfl⟩
  rw [← hM5] at hW
  have e2 : fld M4 30 = setF (fld M2 30) 34 x := by rw [hM4]; exact fld_setside M2 30 0 3 x 4 (Or.inl ⟨rfl, rfl⟩) 6 (by decide)
  have e3 : fld M5 30 = kindsF (fld M 1) x y := by rw [hM5, kindsF, ← hM2.1, ← e2]; exact fld_setside M4 30 1 3 y 6 (Or.inr ⟨rfl, rfl⟩) 6 (by decide)
  have hs3 : Same M M5 30 8 := by rw [hM5, hM4]; exact (hM2.2.up (by decide) (by decide)).up (by decide) (by decide)
  refine lv_aload_n hx hb dX1_kegByKinds_30 rfl (lv_at hl 0 rfl) ?_
  refine lv_iload hx hb dX1_kegByKinds_31 (lv_at hl 4 rfl) ?_
  refine rw_callV hx hb hml hts hown hW ⟨Nat.le_refl 0, Nat.le_refl 0⟩ [.int (iN n)] 29 lk_29 rfl (c_X1_letPass (l := l) (G := G) (ad := ad) (CA := CA) (nt := nt) (by omega) n (by omega) M5 (by rw [e3]; exact kindsF_inv hI hx1 hy1) (by rw [e3, kindsF_46]; omega)) kX1_22 rfl ⟨Nat.le_of_ble_eq_true rfl, Nat.le_of_ble_eq_true rfl⟩ hl.1 rfl (Nat.le_of_ble_eq_true rfl) dX1_kegByKinds_33 (fun v6 M7 H locs hp8 hW => ?_)
  obtain ⟨a9, rfl, hM7⟩ := hp8
  refine rw_stk (st' := [.int (iN a9)]) rfl ?_
  refine rw_iret hx hb hr hlocks hW dX1_kegByKinds_36 (⟨a9, rfl, ?_⟩)
  rw [e3] at hM7
  exact ⟨hM7.1, hs3.trans hM7.2.2⟩
abbrev P_X1_kegWithoutHedge (i : Int) (n : Int) (M : Mem) : Option Value → Mem → Prop := oI (fun zz MM => zz = capN (setF (fld M 1) (3 * i + 2) 0) n.toNat 27 ∧ Same M MM 30 8)
set_option maxRecDepth 100000 in
set_option maxHeartbeats 4000000 in
theorem c_X1_kegWithoutHedge {l : Launch} {G : va_G} {ad : Nat → Nat} {CA : Nat → ClassId} {nt : Nat} (hnt : 6 ≤ nt) (i : Int) (hi : 0 ≤ i ∧ i < 9) (n : Int) (hn : 0 ≤ n ∧ n ≤ 60) (M : Mem) (hI : InvF (fld M 1)) (hm : fld M 1 46 ≤ 1000) : Mt l yX1_kegWithoutHedge cX1_kegWithoutHedge 4 (some .int) 6 125 G ad CA nt LyK [.ref (ad 29), .ref (ad 1), .int (iN i), .int (iN n)] M (P_X1_kegWithoutHedge i n M) := by
  refine Mt.of (by decide) (Nat.le_of_ble_eq_true rfl) (fun p e s m args below meth c hx hb hr hml hts hown hlocks hnm hW ls hl => ?_)
  have hl : lv_has ls 4 [(0, .ref (ad 29)), (1, .ref (ad 1)), (2, .int (iN i)), (3, .int (iN n))] := hl
  have hnt4 : 4 ≤ nt := by omega
  obtain ⟨H, hH⟩ : ∃ z, z = s.heap := ⟨_, rfl⟩
  obtain ⟨locs, hlo⟩ : ∃ z : List Loc, z = [] := ⟨_, rfl⟩
  rw [← hH, ← hlo] at hW ⊢
  refine lv_aload_n hx hb dX1_kegWithoutHedge_0 rfl (lv_at hl 0 rfl) ?_
  refine rw_getR hx hb hts hown hW 29 lk_29 0 30 rfl fX1_12 dX1_kegWithoutHedge_1 ?_
  refine lv_aload_n hx hb dX1_kegWithoutHedge_4 rfl (lv_at hl 1 rfl) ?_
  refine rw_callV hx hb hml hts hown hW ⟨Nat.le_refl 0, Nat.le_refl 0⟩ [.ref (ad 1)] 30 fk_30.1 rfl (c_X0_copyOf (l := l) (G := G) (ad := ad) (CA := CA) (nt := nt) (by omega) 30 fk_30 1 fk_1 (by omega) M) kX1_18 rfl ⟨Nat.le_of_ble_eq_true rfl, Nat.le_of_ble_eq_true rfl⟩ hl.1 rfl (Nat.le_of_ble_eq_true rfl) dX1_kegWithoutHedge_5 (fun v1 M2 H locs hp3 hW => ?_)
  obtain ⟨rfl, hM2⟩ := hp3
  refine rw_stk (st' := []) rfl ?_
  refine lv_aload_n hx hb dX1_kegWithoutHedge_8 rfl (lv_at hl 0 rfl) ?_
  refine rw_getR hx hb hts hown hW 29 lk_29 0 30 rfl fX1_12 dX1_kegWithoutHedge_9 ?_
  refine rw_getR hx hb hts hown hW 30 fk_30.1 7 33 rfl fX1_39 dX1_kegWithoutHedge_12 ?_
  refine lv_iload_n hx hb dX1_kegWithoutHedge_15 rfl (lv_at hl 2 rfl) ?_
  refine rw_iconst hx hb dX1_kegWithoutHedge_16 ?_
  refine rw_callN hx hb hml hts hown hW ⟨Nat.le_refl 0, Nat.le_refl 0⟩ [.ref (ad 33), .int (iN i), .int (iN 0)] (c_X10_replace (l := l) (G := G) (ad := ad) (CA := CA) (nt := nt) (by omega) 33 9 (by omega) fk_30.2.2.2.1 i 0 (by omega) M2) kX1_43 rfl ⟨Nat.le_of_ble_eq_true rfl, Nat.le_of_ble_eq_true rfl⟩ hl.1 rfl (Nat.le_of_ble_eq_true rfl) dX1_kegWithoutHedge_17 (fun v4 M5 H locs hp6 hW => ?_)
  obtain ⟨_, rfl, rfl, hM5⟩ := hp6
  refine rw_stk (st' := [.int (iN (M2 33 i))]) rfl ?_
  have e3 : fld M5 30 = setF (fld M 1) (3 * i + 2) 0 := by rw [hM5, ← hM2.1]; exact fld_setcell M2 30 i 0 3 (by omega) (Or.inr (Or.inr rfl)) 2 rfl
  have hs3 : Same M M5 30 8 := by rw [hM5]; exact hM2.2.up (by decide) (by decide)
  refine lv_pop hx hb dX1_kegWithoutHedge_20 rfl ?_
  refine lv_aload_n hx hb dX1_kegWithoutHedge_21 rfl (lv_at hl 0 rfl) ?_
  refine lv_iload_n hx hb dX1_kegWithoutHedge_22 rfl (lv_at hl 3 rfl) ?_
  refine rw_callV hx hb hml hts hown hW ⟨Nat.le_refl 0, Nat.le_refl 0⟩ [.int (iN n)] 29 lk_29 rfl (c_X1_letPass (l := l) (G := G) (ad := ad) (CA := CA) (nt := nt) (by omega) n (by omega) M5 (by rw [e3]; exact InvF_cell hI hi (by omega)) (by rw [e3, setF_ne _ _ (by omega)]; omega)) kX1_22 rfl ⟨Nat.le_of_ble_eq_true rfl, Nat.le_of_ble_eq_true rfl⟩ hl.1 rfl (Nat.le_of_ble_eq_true rfl) dX1_kegWithoutHedge_23 (fun v7 M8 H locs hp9 hW => ?_)
  obtain ⟨a10, rfl, hM8⟩ := hp9
  refine rw_stk (st' := [.int (iN a10)]) rfl ?_
  refine rw_iret hx hb hr hlocks hW dX1_kegWithoutHedge_26 (⟨a10, rfl, ?_⟩)
  rw [e3] at hM8
  exact ⟨hM8.1, hs3.trans hM8.2.2⟩
abbrev P_X1_minuteOver (M : Mem) : Option Value → Mem → Prop := oI (fun zz MM => OverF (fld M 1) zz ∧ Same M MM 30 8)
set_option maxRecDepth 100000 in
set_option maxHeartbeats 4000000 in
theorem c_X1_minuteOver {l : Launch} {G : va_G} {ad : Nat → Nat} {CA : Nat → ClassId} {nt : Nat} (hnt : 6 ≤ nt) (M : Mem) (hI : InvF (fld M 1)) (hm : fld M 1 46 ≤ 1000) : Mt l yX1_minuteOver cX1_minuteOver 3 (some .int) 5 103 G ad CA nt LyK [.ref (ad 29), .ref (ad 1)] M (P_X1_minuteOver M) := by
  refine Mt.of (by decide) (Nat.le_of_ble_eq_true rfl) (fun p e s m args below meth c hx hb hr hml hts hown hlocks hnm hW ls hl => ?_)
  have hl : lv_has ls 3 [(0, .ref (ad 29)), (1, .ref (ad 1))] := hl
  have hnt4 : 4 ≤ nt := by omega
  obtain ⟨H, hH⟩ : ∃ z, z = s.heap := ⟨_, rfl⟩
  obtain ⟨locs, hlo⟩ : ∃ z : List Loc, z = [] := ⟨_, rfl⟩
  rw [← hH, ← hlo] at hW ⊢
  have hC_10 : ∀ N : Nat, ∀ (i : Int) (Mx : Mem) (H : Heap) (locs : List Loc) (ls : Array Slot), (61 - i).toNat < N → (0 ≤ i ∧ i ≤ 61) → (fld Mx 30 = capN (fld M 1) i.toNat) → (Same M Mx 30 8) → (∀ k : Nat, (k : Int) < i → ¬ overF (capN (fld M 1) k)) → Wo G ad CA nt LyK (wA ad LyK) s Mx H locs → lv_has ls 3 [(0, .ref (ad 29)), (2, .int (iN i))] → Wf l 5 103 G ad CA nt LyK (P_X1_minuteOver M) p e s m args below meth c H locs (F0 m 10 ls []) := by
    intro N
    induction N with
    | zero => intro i Mx H locs ls hN; exact absurd hN (Nat.not_lt_zero _)
    | succ N ih =>
      intro i Mx H locs ls hN hi hf hs hq hW hl
      have hJ := capN_inv hI i.toNat (by omega)
      rw [← hf] at hJ
      have hI := hJ.1
      have hc := hI.c
      have hk := hI.k2
      refine lv_iload_n hx hb dX1_minuteOver_10 rfl (lv_at hl 1 rfl) ?_
      refine rw_bipush hx hb dX1_minuteOver_11 (by decide) ?_
      refine rw_icmp_gt (tgt := 42) hx hb dX1_minuteOver_13 (by decide) (by omega) (by decide) (fun c_13 => ?_) (fun c_13 => ?_)
      · refine rw_bipush hx hb dX1_minuteOver_42 (by decide) ?_
        refine rw_iret hx hb hr hlocks hW dX1_minuteOver_44 (⟨(-4), rfl, ?_⟩)
        exact ⟨Or.inr ⟨rfl, fun k hk => hq k (by omega)⟩, hs⟩
      · refine lv_aload_n hx hb dX1_minuteOver_16 rfl (lv_at hl 0 rfl) ?_
        refine rw_getR hx hb hts hown hW 29 lk_29 0 30 rfl fX1_12 dX1_minuteOver_17 ?_
        refine rw_callV hx hb hml hts hown hW ⟨Nat.le_refl 0, Nat.le_refl 0⟩ [] 30 fk_30.1 rfl (c_X0_isOver (l := l) (G := G) (ad := ad) (CA := CA) (nt := nt) 30 fk_30 Mx hc hk) kX1_54 rfl ⟨Nat.le_of_ble_eq_true rfl, Nat.le_of_ble_eq_true rfl⟩ hl.1 rfl (Nat.le_of_ble_eq_true rfl) dX1_minuteOver_20 (fun v1 M2 H locs hp3 hW => ?_)
        obtain ⟨a4, rfl, hp3, hp3m⟩ := hp3
        rw [hp3m] at hW
        rcases hp3 with ⟨rfl, hp3⟩ | ⟨rfl, hp3⟩
        · refine rw_stk (st' := [.int (iN 1)]) rfl ?_
          refine rw_if_eq (tgt := 28) hx hb dX1_minuteOver_23 (by decide) (by decide) (fun c => absurd c (by decide)) (fun _ => ?_)
          refine lv_iload_n hx hb dX1_minuteOver_26 rfl (lv_at hl 1 rfl) ?_
          refine rw_iret hx hb hr hlocks hW dX1_minuteOver_27 (⟨i, rfl, ?_⟩)
          refine ⟨Or.inl ⟨by omega, by omega, ?_, hq⟩, hs⟩
          rw [← hf]
          assumption
        · have hno : ¬ overF (fld Mx 30) := hp3
          refine rw_stk (st' := [.int (iN 0)]) rfl ?_
          refine rw_if_eq (tgt := 28) hx hb dX1_minuteOver_23 (by decide) (by decide) (fun _ => ?_) (fun c => absurd (by decide) c)
          refine lv_aload_n hx hb dX1_minuteOver_28 rfl (lv_at hl 0 rfl) ?_
          refine rw_getR hx hb hts hown hW 29 lk_29 0 30 rfl fX1_12 dX1_minuteOver_29 ?_
          refine rw_iconst hx hb dX1_minuteOver_32 ?_
          refine rw_callV hx hb hml hts hown hW ⟨Nat.le_refl 0, Nat.le_refl 0⟩ [.int (iN 0)] 30 fk_30.1 rfl (c_X0_passByCaptains (l := l) (G := G) (ad := ad) (CA := CA) (nt := nt) (by omega) 30 fk_30 0 (by omega) Mx hI) kX1_47 rfl ⟨Nat.le_of_ble_eq_true rfl, Nat.le_of_ble_eq_true rfl⟩ hl.1 rfl (Nat.le_of_ble_eq_true rfl) dX1_minuteOver_33 (fun v5 M6 H locs hp7 hW => ?_)
          obtain ⟨rfl, hM6⟩ := hp7
          refine rw_stk (st' := []) rfl ?_
          refine rw_iinc (lv' := [(2, .int (iN (i + 1))), (0, .ref (ad 29))]) hx hb dX1_minuteOver_36 hl (k := 1) rfl (by decide) rfl (fun ls hl => ?_)
          refine lv_goto (tgt := 10) hx hb dX1_minuteOver_39 (by decide) ?_
          exact ih (i + 1) M6 H locs ls (by omega) (by omega) (by rw [hM6.1, hf, show (i + 1).toNat = i.toNat + 1 by omega]; rfl) (hs.trans hM6.2) (fun k hk => by rcases Nat.lt_or_ge k i.toNat with q | q; exact hq k (by omega); rw [show k = i.toNat by omega, ← hf]; exact hno) hW (lv_sub hl [1, 0] rfl)
  refine lv_aload_n hx hb dX1_minuteOver_0 rfl (lv_at hl 0 rfl) ?_
  refine rw_getR hx hb hts hown hW 29 lk_29 0 30 rfl fX1_12 dX1_minuteOver_1 ?_
  refine lv_aload_n hx hb dX1_minuteOver_4 rfl (lv_at hl 1 rfl) ?_
  refine rw_callV hx hb hml hts hown hW ⟨Nat.le_refl 0, Nat.le_refl 0⟩ [.ref (ad 1)] 30 fk_30.1 rfl (c_X0_copyOf (l := l) (G := G) (ad := ad) (CA := CA) (nt := nt) (by omega) 30 fk_30 1 fk_1 (by omega) M) kX1_18 rfl ⟨Nat.le_of_ble_eq_true rfl, Nat.le_of_ble_eq_true rfl⟩ hl.1 rfl (Nat.le_of_ble_eq_true rfl) dX1_minuteOver_5 (fun v8 M9 H locs hp10 hW => ?_)
  obtain ⟨rfl, hM9⟩ := hp10
  refine rw_stk (st' := []) rfl ?_
  refine rw_iconst hx hb dX1_minuteOver_8 ?_
  refine lv_istore_n (lv' := [(2, .int (iN 0)), (0, .ref (ad 29)), (1, .ref (ad 1))]) hx hb dX1_minuteOver_9 rfl hl (by decide) rfl (fun ls hl => ?_)
  exact hC_10 _ 0 M9 H locs ls (Nat.lt_succ_self _) (by omega) hM9.1 hM9.2 (fun k hk => absurd hk (by omega)) hW (lv_sub hl [1, 0] rfl)
abbrev P_X1_holds (sx : Int) (i : Int) (n : Int) (M : Mem) : Option Value → Mem → Prop := oI (fun zz MM => BP (holdsF (fld M 30) sx i n) zz ∧ Same M MM 30 8)
set_option maxRecDepth 100000 in
set_option maxHeartbeats 4000000 in
theorem c_X1_holds {l : Launch} {G : va_G} {ad : Nat → Nat} {CA : Nat → ClassId} {nt : Nat} (hnt : 6 ≤ nt) (sx : Int) (hsx : sx = 0 ∨ sx = 1) (i : Int) (hi : 0 ≤ i ∧ i < 9) (n : Int) (hn : 0 ≤ n ∧ n ≤ 20) (M : Mem) (hI : InvF (fld M 30)) (hm : fld M 30 46 ≤ 2000) : Mt l yX1_holds cX1_holds 5 (some .boolean) 5 103 G ad CA nt LyK [.ref (ad 29), .int (iN sx), .int (iN i), .int (iN n)] M (P_X1_holds sx i n M) := by
  refine Mt.of (by decide) (Nat.le_of_ble_eq_true rfl) (fun p e s m args below meth c hx hb hr hml hts hown hlocks hnm hW ls hl => ?_)
  have hl : lv_has ls 5 [(0, .ref (ad 29)), (1, .int (iN sx)), (2, .int (iN i)), (3, .int (iN n))] := hl
  have hnt4 : 4 ≤ nt := by omega
  obtain ⟨H, hH⟩ : ∃ z, z = s.heap := ⟨_, rfl⟩
  obtain ⟨locs, hlo⟩ : ∃ z : List Loc, z = [] := ⟨_, rfl⟩
  rw [← hH, ← hlo] at hW ⊢
  have hC_3 : ∀ N : Nat, ∀ (t : Int) (Mx : Mem) (H : Heap) (locs : List Loc) (ls : Array Slot), (n - t).toNat < N → (0 ≤ t ∧ t ≤ n) → (fld Mx 30 = capN (fld M 30) t.toNat) → (Same M Mx 30 8) → (∀ k : Nat, (k : Int) < t → ¬ beyondF (capN (fld M 30) (k + 1)) sx i) → Wo G ad CA nt LyK (wA ad LyK) s Mx H locs → lv_has ls 5 [(0, .ref (ad 29)), (1, .int (iN sx)), (2, .int (iN i)), (3, .int (iN n)), (4, .int (iN t))] → Wf l 5 103 G ad CA nt LyK (P_X1_holds sx i n M) p e s m args below meth c H locs (F0 m 3 ls []) := by
    intro N
    induction N with
    | zero => intro t Mx H locs ls hN; exact absurd hN (Nat.not_lt_zero _)
    | succ N ih =>
      intro t Mx H locs ls hN ht hf hs hq hW hl
      have hJ := capN_inv hI t.toNat (by omega)
      rw [← hf] at hJ
      refine lv_iload hx hb dX1_holds_3 (lv_at hl 4 rfl) ?_
      refine lv_iload_n hx hb dX1_holds_5 rfl (lv_at hl 3 rfl) ?_
      refine rw_icmp_ge (tgt := 37) hx hb dX1_holds_6 (by decide) (by omega) (by omega) (fun c_6 => ?_) (fun c_6 => ?_)
      · refine rw_iconst hx hb dX1_holds_37 ?_
        refine rw_zret hx hb hr hlocks hW dX1_holds_38 (Or.inr rfl) (⟨1, rfl, ?_⟩)
        exact ⟨BP.t (fun k hk => hq k (by omega)), hs⟩
      · refine lv_aload_n hx hb dX1_holds_9 rfl (lv_at hl 0 rfl) ?_
        refine rw_getR hx hb hts hown hW 29 lk_29 0 30 rfl fX1_12 dX1_holds_10 ?_
        refine rw_iconst hx hb dX1_holds_13 ?_
        refine rw_callV hx hb hml hts hown hW ⟨Nat.le_refl 0, Nat.le_refl 0⟩ [.int (iN 0)] 30 fk_30.1 rfl (c_X0_passByCaptains (l := l) (G := G) (ad := ad) (CA := CA) (nt := nt) (by omega) 30 fk_30 0 (by omega) Mx hJ.1) kX1_47 rfl ⟨Nat.le_of_ble_eq_true rfl, Nat.le_of_ble_eq_true rfl⟩ hl.1 rfl (Nat.le_of_ble_eq_true rfl) dX1_holds_14 (fun v1 M2 H locs hp3 hW => ?_)
        obtain ⟨rfl, hM2⟩ := hp3
        refine rw_stk (st' := []) rfl ?_
        have e3 : fld M2 30 = capN (fld M 30) (t + 1).toNat := by rw [hM2.1, hf, show (t + 1).toNat = t.toNat + 1 by omega]; rfl
        have hJ2 := (capN_inv hI (t + 1).toNat (by omega)).1
        rw [← e3] at hJ2
        refine lv_aload_n hx hb dX1_holds_17 rfl (lv_at hl 0 rfl) ?_
        refine rw_getR hx hb hts hown hW 29 lk_29 0 30 rfl fX1_12 dX1_holds_18 ?_
        refine lv_iload_n hx hb dX1_holds_21 rfl (lv_at hl 1 rfl) ?_
        refine lv_iload_n hx hb dX1_holds_22 rfl (lv_at hl 2 rfl) ?_
        refine rw_callV hx hb hml hts hown hW ⟨Nat.le_refl 0, Nat.le_refl 0⟩ [.int (iN sx), .int (iN i)] 30 fk_30.1 rfl (c_X0_isBeyond (l := l) (G := G) (ad := ad) (CA := CA) (nt := nt) 30 fk_30 sx (by omega) i (by omega) M2 hJ2) kX1_69 rfl ⟨Nat.le_of_ble_eq_true rfl, Nat.le_of_ble_eq_true rfl⟩ hl.1 rfl (Nat.le_of_ble_eq_true rfl) dX1_holds_23 (fun v4 M5 H locs hp6 hW => ?_)
        obtain ⟨a7, rfl, hp6, hp6m⟩ := hp6
        rw [hp6m] at hW
        rcases hp6 with ⟨rfl, hp6⟩ | ⟨rfl, hp6⟩
        · have hyes : beyondF (fld M2 30) sx i := hp6
          refine rw_stk (st' := [.int (iN 1)]) rfl ?_
          refine rw_if_eq (tgt := 31) hx hb dX1_holds_26 (by decide) (by decide) (fun c => absurd c (by decide)) (fun _ => ?_)
          refine rw_iconst hx hb dX1_holds_29 ?_
          refine rw_zret hx hb hr hlocks hW dX1_holds_30 (Or.inl rfl) (⟨0, rfl, ?_⟩)
          refine ⟨BP.f (fun hh => ?_), (hs.trans hM2.2)⟩
          have := hh t.toNat (by omega)
          rw [show t.toNat + 1 = (t + 1).toNat by omega, ← e3] at this
          exact this hyes
        · have hno : ¬ beyondF (fld M2 30) sx i := hp6
          refine rw_stk (st' := [.int (iN 0)]) rfl ?_
          refine rw_if_eq (tgt := 31) hx hb dX1_holds_26 (by decide) (by decide) (fun _ => ?_) (fun c => absurd (by decide) c)
          refine rw_iinc (lv' := [(4, .int (iN (t + 1))), (0, .ref (ad 29)), (1, .int (iN sx)), (2, .int (iN i)), (3, .int (iN n))]) hx hb dX1_holds_31 hl (k := 4) rfl (by decide) rfl (fun ls hl => ?_)
          refine lv_goto (tgt := 3) hx hb dX1_holds_34 (by decide) ?_
          exact ih (t + 1) M2 H locs ls (by omega) (by omega) e3 (hs.trans hM2.2) (fun k hk => by rcases Nat.lt_or_ge k t.toNat with q | q; exact hq k (by omega); rw [show k + 1 = (t + 1).toNat by omega, ← e3]; exact hno) hW (lv_sub hl [1, 2, 3, 4, 0] rfl)
  refine rw_iconst hx hb dX1_holds_0 ?_
  refine lv_istore (lv' := [(4, .int (iN 0)), (0, .ref (ad 29)), (1, .int (iN sx)), (2, .int (iN i)), (3, .int (iN n))]) hx hb dX1_holds_1 hl (by decide) rfl (fun ls hl => ?_)
  exact hC_3 _ 0 M H locs ls (Nat.lt_succ_self _) (by omega) rfl Same.rf (fun k hk => absurd hk (by omega)) hW (lv_sub hl [1, 2, 3, 4, 0] rfl)
