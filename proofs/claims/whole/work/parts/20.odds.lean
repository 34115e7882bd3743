abbrev P_X5_renew (k : Nat) (x : Int) (n : Int) (M : Mem) : Option Value → Mem → Prop := oV (fun MM => (MM k 0 = x ∧ MM k 1 = n ∧ ∀ j, 0 ≤ j → j < 40 → MM (k + 1) j = 0) ∧ Same M MM k 2)
set_option maxRecDepth 100000 in
set_option maxHeartbeats 4000000 in
theorem c_X5_renew {l : Launch} {G : va_G} {ad : Nat → Nat} {CA : Nat → ClassId} {nt : Nat} {Ly : List LD} (hnt : 4 ≤ nt) (k : Nat) (hsh : HAt Ly k) (x : Int) (n : Int) (hn : 0 ≤ n ∧ n ≤ 40) (M : Mem) : Mt l yX5_renew cX5_renew 4 none 1 15 G ad CA nt Ly [.ref (ad k), .int (iN x), .int (iN n)] M (P_X5_renew k x n M) := by
  refine Mt.of (by decide) (Nat.le_of_ble_eq_true rfl) (fun p e s m args below meth c hx hb hr hml hts hown hlocks hnm hW ls hl => ?_)
  have hl : lv_has ls 4 [(0, .ref (ad k)), (1, .int (iN x)), (2, .int (iN n))] := hl
  have hnt4 : 4 ≤ nt := by omega
  obtain ⟨H, hH⟩ : ∃ z, z = s.heap := ⟨_, rfl⟩
  obtain ⟨locs, hlo⟩ : ∃ z : List Loc, z = [] := ⟨_, rfl⟩
  rw [← hH, ← hlo] at hW ⊢
  have hC_21 : ∀ N : Nat, ∀ (i : Int) (Mx : Mem) (H : Heap) (locs : List Loc) (ls : Array Slot), (40 - i).toNat < N → (0 ≤ i ∧ i ≤ 40) → (Mx k 0 = x) → (Mx k 1 = n) → (∀ j, 0 ≤ j → j < i → Mx (k + 1) j = 0) → (Same M Mx k 2) → Wo G ad CA nt Ly (wA ad Ly) s Mx H locs → lv_has ls 4 [(0, .ref (ad k)), (3, .int (iN i))] → Wf l 1 15 G ad CA nt Ly (P_X5_renew k x n M) p e s m args below meth c H locs (F0 m 21 ls []) := by
    intro N
    induction N with
    | zero => intro i Mx H locs ls hN; exact absurd hN (Nat.not_lt_zero _)
    | succ N ih =>
      intro i Mx H locs ls hN hi h0 h1 hz hs hW hl
      refine lv_iload_n hx hb dX5_renew_21 rfl (lv_at hl 1 rfl) ?_
      refine rw_bipush hx hb dX5_renew_22 (by decide) ?_
      refine rw_icmp_ge (tgt := 40) hx hb dX5_renew_24 (by decide) (by omega) (by decide) (fun c_24 => ?_) (fun c_24 => ?_)
      · refine rw_vret hx hb hr hlocks hW dX5_renew_40 (⟨rfl, ?_⟩)
        exact ⟨⟨h0, h1, fun j q1 q2 => hz j q1 (by omega)⟩, hs⟩
      · refine lv_aload_n hx hb dX5_renew_27 rfl (lv_at hl 0 rfl) ?_
        refine rw_getR hx hb hts hown hW k hsh.1 2 (k + 1) rfl fX5_15 dX5_renew_28 ?_
        refine lv_iload_n hx hb dX5_renew_31 rfl (lv_at hl 1 rfl) ?_
        refine rw_iconst hx hb dX5_renew_32 ?_
        refine rw_iast hx hb hW hnt4 (k + 1) hsh.2 (v := 0) (by omega) (by omega) (by decide) dX5_renew_33 (fun H locs hW => ?_)
        obtain ⟨M1, hM1⟩ : ∃ z, z = upd2 Mx (k + 1) i 0 := ⟨_, rfl⟩
        rw [← hM1] at hW
        refine rw_iinc (lv' := [(3, .int (iN (i + 1))), (0, .ref (ad k))]) hx hb dX5_renew_34 hl (k := 1) rfl (by decide) rfl (fun ls hl => ?_)
        refine lv_goto (tgt := 21) hx hb dX5_renew_37 (by decide) ?_
        exact ih (i + 1) M1 H locs ls (by omega) (by omega) (by rw [hM1, upd2_ne1 (by omega)]; exact h0) (by rw [hM1, upd2_ne1 (by omega)]; exact h1) (fun j q1 q2 => by rw [hM1, upd2_at]; split; rfl; exact hz j q1 (by omega)) (by rw [hM1]; exact hs.up (by omega) (by omega)) hW (lv_sub hl [1, 0] rfl)
  refine lv_aload_n hx hb dX5_renew_0 rfl (lv_at hl 0 rfl) ?_
  refine lv_iload_n hx hb dX5_renew_1 rfl (lv_at hl 1 rfl) ?_
  refine rw_putI hx hb hts hown hW k hsh.1 0 0 rfl rfl qX5_11 (v := x) dX5_renew_2 (fun H locs hW => ?_)
  obtain ⟨M2, hM2⟩ : ∃ z, z = upd2 M k 0 x := ⟨_, rfl⟩
  rw [← hM2] at hW
  refine lv_aload_n hx hb dX5_renew_5 rfl (lv_at hl 0 rfl) ?_
  refine rw_iconst hx hb dX5_renew_6 ?_
  refine lv_iload_n hx hb dX5_renew_7 rfl (lv_at hl 2 rfl) ?_
  refine rw_bipush hx hb dX5_renew_8 (by decide) ?_
  refine rw_min hx hb hml hl.1 hts hown (wm_44 _ (List.mem_of_getElem? (i := 16) rfl)) wmin_ok ⟨Nat.le_of_ble_eq_true rfl, Nat.le_of_ble_eq_true rfl⟩ ⟨Nat.le_refl 0, Nat.le_refl 0⟩ (by omega) (by decide) dX5_renew_10 ?_
  refine rw_max hx hb hml hl.1 hts hown (wm_44 _ (List.mem_of_getElem? (i := 17) rfl)) wmax_ok ⟨Nat.le_of_ble_eq_true rfl, Nat.le_of_ble_eq_true rfl⟩ ⟨Nat.le_refl 0, Nat.le_refl 0⟩ (by decide) (by omega) dX5_renew_13 ?_
  refine rw_putI hx hb hts hown hW k hsh.1 1 1 rfl rfl qX5_28 (v := max 0 (min n 40)) dX5_renew_16 (fun H locs hW => ?_)
  obtain ⟨M3, hM3⟩ : ∃ z, z = upd2 M2 k 1 (max 0 (min n 40)) := ⟨_, rfl⟩
  rw [← hM3] at hW
  refine rw_iconst hx hb dX5_renew_19 ?_
  refine lv_istore_n (lv' := [(3, .int (iN 0)), (0, .ref (ad k)), (1, .int (iN x)), (2, .int (iN n))]) hx hb dX5_renew_20 rfl hl (by decide) rfl (fun ls hl => ?_)
  exact hC_21 _ 0 M3 H locs ls (Nat.lt_succ_self _) (by omega) (by simp [hM2, hM3, upd2_at]) (by simp [hM2, hM3, upd2_at]; omega) (fun j q1 q2 => absurd q2 (by omega)) (by rw [hM3, hM2]; exact (upd2_Same (by omega) (by omega)).up (by omega) (by omega)) hW (lv_sub hl [1, 0] rfl)
abbrev P_X5_faultOf (k : Nat) (x : Int) (f : Int) (n : Int) (M : Mem) : Option Value → Mem → Prop := oI (fun zz MM => zz = faultF (M k 0) (M k 1) x f n ∧ MM = M)
set_option maxRecDepth 100000 in
set_option maxHeartbeats 4000000 in
theorem c_X5_faultOf {l : Launch} {G : va_G} {ad : Nat → Nat} {CA : Nat → ClassId} {nt : Nat} {Ly : List LD} (k : Nat) (hsh : HAt Ly k) (x : Int) (hx1 : in32 x) (f : Int) (hf : in32 f) (n : Int) (hn : 0 ≤ n ∧ n ≤ 2) (M : Mem) (hl1 : -1 ≤ M k 0 ∧ M k 0 ≤ 2) (hl2 : 0 ≤ M k 1 ∧ M k 1 ≤ 40) : Mt l yX5_faultOf cX5_faultOf 4 (some .int) 0 0 G ad CA nt Ly [.ref (ad k), .int (iN x), .int (iN f), .int (iN n)] M (P_X5_faultOf k x f n M) := by
  refine Mt.of (by decide) (Nat.le_of_ble_eq_true rfl) (fun p e s m args below meth c hx hb hr hml hts hown hlocks hnm hW ls hl => ?_)
  have hl : lv_has ls 4 [(0, .ref (ad k)), (1, .int (iN x)), (2, .int (iN f)), (3, .int (iN n))] := hl
  obtain ⟨H, hH⟩ : ∃ z, z = s.heap := ⟨_, rfl⟩
  obtain ⟨locs, hlo⟩ : ∃ z : List Loc, z = [] := ⟨_, rfl⟩
  rw [← hH, ← hlo] at hW ⊢
  refine lv_aload_n hx hb dX5_faultOf_0 rfl (lv_at hl 0 rfl) ?_
  refine rw_getI hx hb hts hown hW k hsh.1 0 0 rfl rfl fX5_11 dX5_faultOf_1 (v := (M k 0)) rfl ?_
  refine rw_iconst hx hb dX5_faultOf_4 ?_
  refine rw_icmp_ne (tgt := 10) hx hb dX5_faultOf_5 (by decide) (by omega) (by decide) (fun c_5 => ?_) (fun c_5 => ?_)
  · refine lv_aload_n hx hb dX5_faultOf_10 rfl (lv_at hl 0 rfl) ?_
    refine rw_getI hx hb hts hown hW k hsh.1 0 0 rfl rfl fX5_11 dX5_faultOf_11 (v := (M k 0)) rfl ?_
    refine lv_iload_n hx hb dX5_faultOf_14 rfl (lv_at hl 1 rfl) ?_
    refine rw_icmp_eq (tgt := 20) hx hb dX5_faultOf_15 (by decide) (by omega) (by omega) (fun c_15 => ?_) (fun c_15 => ?_)
    · refine lv_iload_n hx hb dX5_faultOf_20 rfl (lv_at hl 2 rfl) ?_
      refine rw_if_lt (tgt := 34) hx hb dX5_faultOf_21 (by decide) (by omega) (fun c_21 => ?_) (fun c_21 => ?_)
      · refine rw_iconst hx hb dX5_faultOf_34 ?_
        refine lv_goto (tgt := 39) hx hb dX5_faultOf_35 (by decide) ?_
        refine rw_iret hx hb hr hlocks hW dX5_faultOf_39 (⟨2, rfl, ?_⟩)
        exact ⟨by unfold faultF; split <;> (try split) <;> (try split) <;> omega, rfl⟩
      · refine lv_iload_n hx hb dX5_faultOf_24 rfl (lv_at hl 2 rfl) ?_
        refine lv_aload_n hx hb dX5_faultOf_25 rfl (lv_at hl 0 rfl) ?_
        refine rw_getI hx hb hts hown hW k hsh.1 1 1 rfl rfl fX5_28 dX5_faultOf_26 (v := (M k 1)) rfl ?_
        refine lv_iload_n hx hb dX5_faultOf_29 rfl (lv_at hl 3 rfl) ?_
        refine rw_isub hx hb dX5_faultOf_30 ?_
        refine rw_icmp_le (tgt := 38) hx hb dX5_faultOf_31 (by decide) (by omega) (by omega) (fun c_31 => ?_) (fun c_31 => ?_)
        · refine rw_iconst hx hb dX5_faultOf_38 ?_
          refine rw_iret hx hb hr hlocks hW dX5_faultOf_39 (⟨0, rfl, ?_⟩)
          exact ⟨by unfold faultF; split <;> (try split) <;> (try split) <;> omega, rfl⟩
        · refine rw_iconst hx hb dX5_faultOf_34 ?_
          refine lv_goto (tgt := 39) hx hb dX5_faultOf_35 (by decide) ?_
          refine rw_iret hx hb hr hlocks hW dX5_faultOf_39 (⟨2, rfl, ?_⟩)
          exact ⟨by unfold faultF; split <;> (try split) <;> (try split) <;> omega, rfl⟩
    · refine rw_iconst hx hb dX5_faultOf_18 ?_
      refine rw_iret hx hb hr hlocks hW dX5_faultOf_19 (⟨3, rfl, ?_⟩)
      exact ⟨by unfold faultF; split <;> (try split) <;> (try split) <;> omega, rfl⟩
  · refine rw_iconst hx hb dX5_faultOf_8 ?_
    refine rw_iret hx hb hr hlocks hW dX5_faultOf_9 (⟨1, rfl, ?_⟩)
    exact ⟨by unfold faultF; split <;> (try split) <;> (try split) <;> omega, rfl⟩
abbrev P_X5_lowestBits (k : Nat) (v : Int) (M : Mem) : Option Value → Mem → Prop := oI (fun zz MM => zz = lowB (M k 0) v ∧ MM = M)
set_option maxRecDepth 100000 in
set_option maxHeartbeats 4000000 in
theorem c_X5_lowestBits {l : Launch} {G : va_G} {ad : Nat → Nat} {CA : Nat → ClassId} {nt : Nat} {Ly : List LD} (k : Nat) (hsh : HAt Ly k) (v : Int) (M : Mem) (hl1 : -1 ≤ M k 0 ∧ M k 0 ≤ 2) : Mt l yX5_lowestBits cX5_lowestBits 2 (some .int) 0 0 G ad CA nt Ly [.ref (ad k), .int (iN v)] M (P_X5_lowestBits k v M) := by
  refine Mt.of (by decide) (Nat.le_of_ble_eq_true rfl) (fun p e s m args below meth c hx hb hr hml hts hown hlocks hnm hW ls hl => ?_)
  have hl : lv_has ls 2 [(0, .ref (ad k)), (1, .int (iN v))] := hl
  obtain ⟨H, hH⟩ : ∃ z, z = s.heap := ⟨_, rfl⟩
  obtain ⟨locs, hlo⟩ : ∃ z : List Loc, z = [] := ⟨_, rfl⟩
  rw [← hH, ← hlo] at hW ⊢
  refine lv_aload_n hx hb dX5_lowestBits_0 rfl (lv_at hl 0 rfl) ?_
  refine rw_getI hx hb hts hown hW k hsh.1 0 0 rfl rfl fX5_11 dX5_lowestBits_1 (v := (M k 0)) rfl ?_
  rcases (show ((M k 0) ≠ 0 ∧ (M k 0) ≠ 1) ∨ (M k 0) = 0 ∨ (M k 0) = 1 by omega) with c_4 | c_4 | c_4
  · refine lv_lookup (off := 34) (tgt := 38) hx hb dX5_lowestBits_4 (by decide) (by rw [iN_toInt (by omega)]; simp [Op.lookupswitch.offset]; (repeat' split) <;> omega) (by decide) ?_
    refine lv_iload_n hx hb dX5_lowestBits_38 rfl (lv_at hl 1 rfl) ?_
    refine rw_iret hx hb hr hlocks hW dX5_lowestBits_39 (⟨v, rfl, ?_⟩)
    exact ⟨by unfold lowB; rw [if_neg c_4.1, if_neg c_4.2], rfl⟩
  · refine lv_lookup (off := 28) (tgt := 32) hx hb dX5_lowestBits_4 (by decide) (by rw [iN_toInt (by omega)]; simp [Op.lookupswitch.offset]; (repeat' split) <;> omega) (by decide) ?_
    refine lv_iload_n hx hb dX5_lowestBits_32 rfl (lv_at hl 1 rfl) ?_
    refine lv_i2b hx hb dX5_lowestBits_33 rfl ?_
    rw [← iN_self ((iN v).toInt8.toInt32)]
    refine rw_iret hx hb hr hlocks hW dX5_lowestBits_34 (⟨((iN v).toInt8.toInt32).toInt, rfl, ?_⟩)
    exact ⟨by unfold lowB; rw [if_pos c_4], rfl⟩
  · refine lv_lookup (off := 31) (tgt := 35) hx hb dX5_lowestBits_4 (by decide) (by rw [iN_toInt (by omega)]; simp [Op.lookupswitch.offset]; (repeat' split) <;> omega) (by decide) ?_
    refine lv_iload_n hx hb dX5_lowestBits_35 rfl (lv_at hl 1 rfl) ?_
    refine lv_i2s hx hb dX5_lowestBits_36 rfl ?_
    rw [← iN_self ((iN v).toInt16.toInt32)]
    refine rw_iret hx hb hr hlocks hW dX5_lowestBits_37 (⟨((iN v).toInt16.toInt32).toInt, rfl, ?_⟩)
    exact ⟨by unfold lowB; rw [if_neg (by omega), if_pos c_4], rfl⟩
abbrev P_X5_write (k : Nat) (i : Int) (v : Int) (M : Mem) : Option Value → Mem → Prop := oV (fun MM => MM = if 0 ≤ i ∧ i < M k 1 then upd2 M (k + 1) i (lowB (M k 0) v) else M)
set_option maxRecDepth 100000 in
set_option maxHeartbeats 4000000 in
theorem c_X5_write {l : Launch} {G : va_G} {ad : Nat → Nat} {CA : Nat → ClassId} {nt : Nat} {Ly : List LD} (hnt : 4 ≤ nt) (k : Nat) (hsh : HAt Ly k) (i : Int) (hi : in32 i) (v : Int) (M : Mem) (hl1 : -1 ≤ M k 0 ∧ M k 0 ≤ 2) (hl2 : 0 ≤ M k 1 ∧ M k 1 ≤ 40) : Mt l yX5_write cX5_write 3 none 1 21 G ad CA nt Ly [.ref (ad k), .int (iN i), .int (iN v)] M (P_X5_write k i v M) := by
  refine Mt.of (by decide) (Nat.le_of_ble_eq_true rfl) (fun p e s m args below meth c hx hb hr hml hts hown hlocks hnm hW ls hl => ?_)
  have hl : lv_has ls 3 [(0, .ref (ad k)), (1, .int (iN i)), (2, .int (iN v))] := hl
  have hnt4 : 4 ≤ nt := by omega
  obtain ⟨H, hH⟩ : ∃ z, z = s.heap := ⟨_, rfl⟩
  obtain ⟨locs, hlo⟩ : ∃ z : List Loc, z = [] := ⟨_, rfl⟩
  rw [← hH, ← hlo] at hW ⊢
  refine lv_iload_n hx hb dX5_write_0 rfl (lv_at hl 1 rfl) ?_
  refine rw_if_lt (tgt := 29) hx hb dX5_write_1 (by decide) (by omega) (fun c_1 => ?_) (fun c_1 => ?_)
  · refine rw_vret hx hb hr hlocks hW dX5_write_29 (⟨rfl, ?_⟩)
    rw [if_neg (by omega)]
  · refine lv_iload_n hx hb dX5_write_4 rfl (lv_at hl 1 rfl) ?_
    refine lv_aload_n hx hb dX5_write_5 rfl (lv_at hl 0 rfl) ?_
    refine rw_getI hx hb hts hown hW k hsh.1 1 1 rfl rfl fX5_28 dX5_write_6 (v := (M k 1)) rfl ?_
    refine rw_icmp_ge (tgt := 29) hx hb dX5_write_9 (by decide) (by omega) (by omega) (fun c_9 => ?_) (fun c_9 => ?_)
    · refine rw_vret hx hb hr hlocks hW dX5_write_29 (⟨rfl, ?_⟩)
      rw [if_neg (by omega)]
    · refine lv_iload_n hx hb dX5_write_12 rfl (lv_at hl 1 rfl) ?_
      refine rw_bipush hx hb dX5_write_13 (by decide) ?_
      refine rw_icmp_ge (tgt := 29) hx hb dX5_write_15 (by decide) (by omega) (by decide) (fun c_15 => ?_) (fun c_15 => ?_)
      · refine rw_vret hx hb hr hlocks hW dX5_write_29 (⟨rfl, ?_⟩)
        rw [if_neg (by omega)]
      · refine lv_aload_n hx hb dX5_write_18 rfl (lv_at hl 0 rfl) ?_
        refine rw_getR hx hb hts hown hW k hsh.1 2 (k + 1) rfl fX5_15 dX5_write_19 ?_
        refine lv_iload_n hx hb dX5_write_22 rfl (lv_at hl 1 rfl) ?_
        refine lv_aload_n hx hb dX5_write_23 rfl (lv_at hl 0 rfl) ?_
        refine lv_iload_n hx hb dX5_write_24 rfl (lv_at hl 2 rfl) ?_
        refine rw_callV hx hb hml hts hown hW ⟨Nat.le_refl 0, Nat.le_refl 0⟩ [.int (iN v)] k hsh.1 rfl (c_X5_lowestBits (l := l) (G := G) (ad := ad) (CA := CA) (nt := nt) k hsh v M (by omega)) kX5_31 rfl ⟨Nat.le_of_ble_eq_true rfl, Nat.le_of_ble_eq_true rfl⟩ hl.1 rfl (Nat.le_of_ble_eq_true rfl) dX5_write_25 (fun v1 M2 H locs hp3 hW => ?_)
        obtain ⟨_, rfl, rfl, hp3⟩ := hp3
        rw [hp3] at hW
        refine rw_stk (st' := [.int (iN (lowB (M k 0) v)), .int (iN i), .ref (ad (k + 1))]) rfl ?_
        refine rw_iast hx hb hW hnt4 (k + 1) hsh.2 (v := lowB (M k 0) v) (by omega) (by omega) (by decide) dX5_write_28 (fun H locs hW => ?_)
        obtain ⟨M4, hM4⟩ : ∃ z, z = upd2 M (k + 1) i (lowB (M k 0) v) := ⟨_, rfl⟩
        rw [← hM4] at hW
        refine rw_vret hx hb hr hlocks hW dX5_write_29 (⟨rfl, ?_⟩)
        rw [if_pos (by omega), hM4]
abbrev P_X5_valueAt (k : Nat) (i : Int) (M : Mem) : Option Value → Mem → Prop := oI (fun zz MM => zz = (if 0 ≤ i ∧ i < M k 1 then M (k + 1) i else 0) ∧ MM = M)
set_option maxRecDepth 100000 in
set_option maxHeartbeats 4000000 in
theorem c_X5_valueAt {l : Launch} {G : va_G} {ad : Nat → Nat} {CA : Nat → ClassId} {nt : Nat} {Ly : List LD} (hnt : 4 ≤ nt) (k : Nat) (hsh : HAt Ly k) (i : Int) (hi : in32 i) (M : Mem) (hl2 : 0 ≤ M k 1 ∧ M k 1 ≤ 40) : Mt l yX5_valueAt cX5_valueAt 2 (some .int) 0 0 G ad CA nt Ly [.ref (ad k), .int (iN i)] M (P_X5_valueAt k i M) := by
  refine Mt.of (by decide) (Nat.le_of_ble_eq_true rfl) (fun p e s m args below meth c hx hb hr hml hts hown hlocks hnm hW ls hl => ?_)
  have hl : lv_has ls 2 [(0, .ref (ad k)), (1, .int (iN i))] := hl
  have hnt4 : 4 ≤ nt := by omega
  obtain ⟨H, hH⟩ : ∃ z, z = s.heap := ⟨_, rfl⟩
  obtain ⟨locs, hlo⟩ : ∃ z : List Loc, z = [] := ⟨_, rfl⟩
  rw [← hH, ← hlo] at hW ⊢
  refine lv_iload_n hx hb dX5_valueAt_0 rfl (lv_at hl 1 rfl) ?_
  refine rw_if_lt (tgt := 27) hx hb dX5_valueAt_1 (by decide) (by omega) (fun c_1 => ?_) (fun c_1 => ?_)
  · refine rw_iconst hx hb dX5_valueAt_27 ?_
    refine rw_iret hx hb hr hlocks hW dX5_valueAt_28 (⟨0, rfl, ?_⟩)
    exact ⟨by rw [if_neg (by omega)], rfl⟩
  · refine lv_iload_n hx hb dX5_valueAt_4 rfl (lv_at hl 1 rfl) ?_
    refine lv_aload_n hx hb dX5_valueAt_5 rfl (lv_at hl 0 rfl) ?_
    refine rw_getI hx hb hts hown hW k hsh.1 1 1 rfl rfl fX5_28 dX5_valueAt_6 (v := (M k 1)) rfl ?_
    refine rw_icmp_ge (tgt := 27) hx hb dX5_valueAt_9 (by decide) (by omega) (by omega) (fun c_9 => ?_) (fun c_9 => ?_)
    · refine rw_iconst hx hb dX5_valueAt_27 ?_
      refine rw_iret hx hb hr hlocks hW dX5_valueAt_28 (⟨0, rfl, ?_⟩)
      exact ⟨by rw [if_neg (by omega)], rfl⟩
    · refine lv_iload_n hx hb dX5_valueAt_12 rfl (lv_at hl 1 rfl) ?_
      refine rw_bipush hx hb dX5_valueAt_13 (by decide) ?_
      refine rw_icmp_ge (tgt := 27) hx hb dX5_valueAt_15 (by decide) (by omega) (by decide) (fun c_15 => ?_) (fun c_15 => ?_)
      · refine rw_iconst hx hb dX5_valueAt_27 ?_
        refine rw_iret hx hb hr hlocks hW dX5_valueAt_28 (⟨0, rfl, ?_⟩)
        exact ⟨by rw [if_neg (by omega)], rfl⟩
      · refine lv_aload_n hx hb dX5_valueAt_18 rfl (lv_at hl 0 rfl) ?_
        refine rw_getR hx hb hts hown hW k hsh.1 2 (k + 1) rfl fX5_15 dX5_valueAt_19 ?_
        refine lv_iload_n hx hb dX5_valueAt_22 rfl (lv_at hl 1 rfl) ?_
        refine rw_iald hx hb hW hnt4 (k + 1) hsh.2 (by omega) (by omega) (by decide) dX5_valueAt_23 (v := (M (k + 1) i)) rfl ?_
        refine lv_goto (tgt := 28) hx hb dX5_valueAt_24 (by decide) ?_
        refine rw_iret hx hb hr hlocks hW dX5_valueAt_28 (⟨(M (k + 1) i), rfl, ?_⟩)
        exact ⟨by rw [if_pos (by omega)], rfl⟩
abbrev P_X7_stage (ad : Nat → Nat) (t : Nat) (i : Int) (M : Mem) : Option Value → Mem → Prop := oR ad (fun zz MM => zz = t + 10 + 8 * i.toNat ∧ MM = M)
set_option maxRecDepth 100000 in
set_option maxHeartbeats 4000000 in
theorem c_X7_stage {l : Launch} {G : va_G} {ad : Nat → Nat} {CA : Nat → ClassId} {nt : Nat} {Ly : List LD} (hnt : 6 ≤ nt) (t : Nat) (hSt : StAt Ly t) (i : Int) (hi : 0 ≤ i ∧ i ≤ 8) (M : Mem) : Mt l yX7_stage cX7_stage 3 (some (.object "KegBrooks$Field")) 0 0 G ad CA nt Ly [.ref (ad t), .int (iN i)] M (P_X7_stage ad t i M) := by
  refine Mt.of (by decide) (Nat.le_of_ble_eq_true rfl) (fun p e s m args below meth c hx hb hr hml hts hown hlocks hnm hW ls hl => ?_)
  have hl : lv_has ls 3 [(0, .ref (ad t)), (1, .int (iN i))] := hl
  have hnt4 : 4 ≤ nt := by omega
  obtain ⟨H, hH⟩ : ∃ z, z = s.heap := ⟨_, rfl⟩
  obtain ⟨locs, hlo⟩ : ∃ z : List Loc, z = [] := ⟨_, rfl⟩
  rw [← hH, ← hlo] at hW ⊢
  refine lv_iload_n hx hb dX7_stage_0 rfl (lv_at hl 1 rfl) ?_
  refine rw_if_lt (tgt := 22) hx hb dX7_stage_1 (by decide) (by omega) (fun c_1 => ?_) (fun c_1 => ?_)
  · exfalso; omega
  · refine lv_iload_n hx hb dX7_stage_4 rfl (lv_at hl 1 rfl) ?_
    refine lv_aload_n hx hb dX7_stage_5 rfl (lv_at hl 0 rfl) ?_
    refine rw_getR hx hb hts hown hW t hSt.1 0 (t + 1) rfl fX7_11 dX7_stage_6 ?_
    refine rw_alen hx hb hW (t + 1) hSt.2 (tyL_get (by omega) rfl) dX7_stage_9 ?_
    refine rw_icmp_ge (tgt := 22) hx hb dX7_stage_10 (by decide) (by omega) (by decide) (fun c_10 => ?_) (fun c_10 => ?_)
    · exfalso; omega
    · refine lv_aload_n hx hb dX7_stage_13 rfl (lv_at hl 0 rfl) ?_
      refine rw_getR hx hb hts hown hW t hSt.1 0 (t + 1) rfl fX7_11 dX7_stage_14 ?_
      refine lv_iload_n hx hb dX7_stage_17 rfl (lv_at hl 1 rfl) ?_
      refine rw_aald hx hb hW (by omega) (t + 1) 4 (by decide) hSt.2 (by omega) (by omega) (by decide) (t + 10 + 8 * i.toNat) (st_get t (by omega)) dX7_stage_18 ?_
      refine lv_goto (tgt := 23) hx hb dX7_stage_19 (by decide) ?_
      refine lv_astore_n (lv' := [(2, .ref (ad (t + 10 + 8 * i.toNat))), (0, .ref (ad t)), (1, .int (iN i))]) hx hb dX7_stage_23 rfl hl (by decide) rfl (fun ls hl => ?_)
      refine lv_aload_n hx hb dX7_stage_24 rfl (lv_at hl 0 rfl) ?_
      refine lv_ifnonnull (tgt := 35) hx hb dX7_stage_25 (by decide) ?_
      refine lv_aload_n hx hb dX7_stage_35 rfl (lv_at hl 0 rfl) ?_
      refine rw_aret hx hb hr hlocks hW dX7_stage_36 (Or.inr ⟨_, rfl⟩) (⟨t + 10 + 8 * i.toNat, rfl, ?_⟩)
      exact ⟨rfl, rfl⟩
abbrev P_X2_wholeOf (n : Int) (M : Mem) : Option Value → Mem → Prop := oL (fun zz MM => zz = pow8 n ∧ MM = M)
set_option maxRecDepth 100000 in
set_option maxHeartbeats 4000000 in
theorem c_X2_wholeOf {l : Launch} {G : va_G} {ad : Nat → Nat} {CA : Nat → ClassId} {nt : Nat} (n : Int) (hn : 0 ≤ n ∧ n ≤ 8) (M : Mem) : Mt l yX2_wholeOf cX2_wholeOf 1 (some .long) 0 0 G ad CA nt LyK [.int (iN n)] M (P_X2_wholeOf n M) := by
  refine Mt.of (by decide) (Nat.le_of_ble_eq_true rfl) (fun p e s m args below meth c hx hb hr hml hts hown hlocks hnm hW ls hl => ?_)
  have hl : lv_has ls 1 [(0, .int (iN n))] := hl
  obtain ⟨H, hH⟩ : ∃ z, z = s.heap := ⟨_, rfl⟩
  obtain ⟨locs, hlo⟩ : ∃ z : List Loc, z = [] := ⟨_, rfl⟩
  rw [← hH, ← hlo] at hW ⊢
  refine lv_lconst (v := jN 1) hx hb dX2_wholeOf_0 rfl ?_
  refine rw_iconst hx hb dX2_wholeOf_1 ?_
  refine lv_iload_n hx hb dX2_wholeOf_2 rfl (lv_at hl 0 rfl) ?_
  refine rw_imul hx hb dX2_wholeOf_3 ?_
  refine rw_lshl8 hx hb dX2_wholeOf_4 (by omega) (by omega) ?_
  refine rw_lret hx hb hr hlocks hW dX2_wholeOf_5 (⟨pow8 n, rfl, ?_⟩)
  exact ⟨rfl, rfl⟩
abbrev P_X2_add (i : Int) (v : Int) (M : Mem) : Option Value → Mem → Prop := oV (fun MM => MM = upd2 M 121 i (M 121 i + v))
set_option maxRecDepth 100000 in
set_option maxHeartbeats 4000000 in
theorem c_X2_add {l : Launch} {G : va_G} {ad : Nat → Nat} {CA : Nat → ClassId} {nt : Nat} (hnt : 6 ≤ nt) (i : Int) (hi : 0 ≤ i ∧ i ≤ 10) (v : Int) (M : Mem) : Mt l yX2_add cX2_add 4 none 0 0 G ad CA nt LyK [.ref (ad 38), .int (iN i), .long (jN v)] M (P_X2_add i v M) := by
  refine Mt.of (by decide) (Nat.le_of_ble_eq_true rfl) (fun p e s m args below meth c hx hb hr hml hts hown hlocks hnm hW ls hl => ?_)
  have hl : lv_has ls 4 [(0, .ref (ad 38)), (1, .int (iN i)), (2, .long (jN v))] := hl
  have hnt4 : 4 ≤ nt := by omega
  obtain ⟨H, hH⟩ : ∃ z, z = s.heap := ⟨_, rfl⟩
  obtain ⟨locs, hlo⟩ : ∃ z : List Loc, z = [] := ⟨_, rfl⟩
  rw [← hH, ← hlo] at hW ⊢
  refine lv_iload_n hx hb dX2_add_0 rfl (lv_at hl 1 rfl) ?_
  refine rw_if_lt (tgt := 23) hx hb dX2_add_1 (by decide) (by omega) (fun c_1 => ?_) (fun c_1 => ?_)
  · exfalso; omega
  · refine lv_iload_n hx hb dX2_add_4 rfl (lv_at hl 1 rfl) ?_
    refine lv_aload_n hx hb dX2_add_5 rfl (lv_at hl 0 rfl) ?_
    refine rw_getR hx hb hts hown hW 38 lk_38 1 121 rfl fX2_18 dX2_add_6 ?_
    refine rw_alen hx hb hW 121 lk_121 (tyL_get (by omega) rfl) dX2_add_9 ?_
    refine rw_icmp_ge (tgt := 23) hx hb dX2_add_10 (by decide) (by omega) (by decide) (fun c_10 => ?_) (fun c_10 => ?_)
    · exfalso; omega
    · refine lv_aload_n hx hb dX2_add_13 rfl (lv_at hl 0 rfl) ?_
      refine rw_getR hx hb hts hown hW 38 lk_38 1 121 rfl fX2_18 dX2_add_14 ?_
      refine lv_iload_n hx hb dX2_add_17 rfl (lv_at hl 1 rfl) ?_
      refine lv_dup2_11 hx hb dX2_add_18 rfl rfl ?_
      refine rw_lald hx hb hW hnt4 121 lk_121 (by omega) (by omega) (by decide) dX2_add_19 (v := (M 121 i)) rfl ?_
      refine lv_lload_n hx hb dX2_add_20 rfl (lv_at hl 2 rfl) ?_
      refine rw_ladd hx hb dX2_add_21 ?_
      refine rw_last hx hb hW hnt4 121 lk_121 (v := (M 121 i) + v) (by omega) (by omega) (by decide) dX2_add_22 (fun H locs hW => ?_)
      obtain ⟨M1, hM1⟩ : ∃ z, z = upd2 M 121 i ((M 121 i) + v) := ⟨_, rfl⟩
      rw [← hM1] at hW
      refine rw_vret hx hb hr hlocks hW dX2_add_23 (⟨rfl, ?_⟩)
      rw [hM1]
abbrev P_X2_shareOf (i : Int) (M : Mem) : Option Value → Mem → Prop := oL (fun zz MM => zz = M 121 i ∧ MM = M)
set_option maxRecDepth 100000 in
set_option maxHeartbeats 4000000 in
theorem c_X2_shareOf {l : Launch} {G : va_G} {ad : Nat → Nat} {CA : Nat → ClassId} {nt : Nat} (hnt : 6 ≤ nt) (i : Int) (hi : 0 ≤ i ∧ i ≤ 10) (M : Mem) : Mt l yX2_shareOf cX2_shareOf 2 (some .long) 0 0 G ad CA nt LyK [.ref (ad 38), .int (iN i)] M (P_X2_shareOf i M) := by
  refine Mt.of (by decide) (Nat.le_of_ble_eq_true rfl) (fun p e s m args below meth c hx hb hr hml hts hown hlocks hnm hW ls hl => ?_)
  have hl : lv_has ls 2 [(0, .ref (ad 38)), (1, .int (iN i))] := hl
  have hnt4 : 4 ≤ nt := by omega
  obtain ⟨H, hH⟩ : ∃ z, z = s.heap := ⟨_, rfl⟩
  obtain ⟨locs, hlo⟩ : ∃ z : List Loc, z = [] := ⟨_, rfl⟩
  rw [← hH, ← hlo] at hW ⊢
  refine lv_iload_n hx hb dX2_shareOf_0 rfl (lv_at hl 1 rfl) ?_
  refine rw_if_lt (tgt := 22) hx hb dX2_shareOf_1 (by decide) (by omega) (fun c_1 => ?_) (fun c_1 => ?_)
  · exfalso; omega
  · refine lv_iload_n hx hb dX2_shareOf_4 rfl (lv_at hl 1 rfl) ?_
    refine lv_aload_n hx hb dX2_shareOf_5 rfl (lv_at hl 0 rfl) ?_
    refine rw_getR hx hb hts hown hW 38 lk_38 1 121 rfl fX2_18 dX2_shareOf_6 ?_
    refine rw_alen hx hb hW 121 lk_121 (tyL_get (by omega) rfl) dX2_shareOf_9 ?_
    refine rw_icmp_ge (tgt := 22) hx hb dX2_shareOf_10 (by decide) (by omega) (by decide) (fun c_10 => ?_) (fun c_10 => ?_)
    · exfalso; omega
    · refine lv_aload_n hx hb dX2_shareOf_13 rfl (lv_at hl 0 rfl) ?_
      refine rw_getR hx hb hts hown hW 38 lk_38 1 121 rfl fX2_18 dX2_shareOf_14 ?_
      refine lv_iload_n hx hb dX2_shareOf_17 rfl (lv_at hl 1 rfl) ?_
      refine rw_lald hx hb hW hnt4 121 lk_121 (by omega) (by omega) (by decide) dX2_shareOf_18 (v := (M 121 i)) rfl ?_
      refine lv_goto (tgt := 23) hx hb dX2_shareOf_19 (by decide) ?_
      refine rw_lret hx hb hr hlocks hW dX2_shareOf_23 (⟨(M 121 i), rfl, ?_⟩)
      exact ⟨rfl, rfl⟩
abbrev P_X2_branch (k : Int) (left : Int) (w : Int) (M : Mem) : Option Value → Mem → Prop := oV (fun MM => (∀ i, 0 ≤ i → i < 11 → MM 121 i = M 121 i + brS left.toNat (fld M (39 + 10 + 8 * k.toNat)) w i) ∧ ∀ q : Nat, q < 57 + 8 * k.toNat ∨ 122 ≤ q → MM q = M q)
set_option maxRecDepth 100000 in
set_option maxHeartbeats 4000000 in
theorem c_X2_branch {l : Launch} {G : va_G} {ad : Nat → Nat} {CA : Nat → ClassId} {nt : Nat} : ∀ (d : Nat) (hnt : 6 ≤ nt) (k : Int) (hk1 : 0 ≤ k) (left : Int) (hl1 : 0 ≤ left ∧ left ≤ d ∧ k + left ≤ 8) (w : Int) (M : Mem) (hI : InvF (fld M (39 + 10 + 8 * k.toNat))) (hm : fld M (39 + 10 + 8 * k.toNat) 46 + left ≤ 2000), Mt l yX2_branch cX2_branch 7 none (5 + d) (103 + 26 * d) G ad CA nt LyK [.ref (ad 38), .int (iN k), .int (iN left), .long (jN w)] M (P_X2_branch k left w M) := by
  intro d
  induction d using Nat.strongRecOn with
  | ind d ihd =>
  intro hnt k hk1 left hl1 w M hI hm
  refine Mt.of (by decide) (Nat.le_of_ble_eq_true rfl) (fun p e s m args below meth c hx hb hr hml hts hown hlocks hnm hW ls hl => ?_)
  have hl : lv_has ls 7 [(0, .ref (ad 38)), (1, .int (iN k)), (2, .int (iN left)), (3, .long (jN w))] := hl
  have hnt4 : 4 ≤ nt := by omega
  obtain ⟨H, hH⟩ : ∃ z, z = s.heap := ⟨_, rfl⟩
  obtain ⟨locs, hlo⟩ : ∃ z : List Loc, z = [] := ⟨_, rfl⟩
  rw [← hH, ← hlo] at hW ⊢
  refine lv_aload_n hx hb dX2_branch_0 rfl (lv_at hl 0 rfl) ?_
  refine rw_getR hx hb hts hown hW 38 lk_38 0 39 rfl fX2_12 dX2_branch_1 ?_
  refine lv_iload_n hx hb dX2_branch_4 rfl (lv_at hl 1 rfl) ?_
  refine rw_callV hx hb hml hts hown hW ⟨Nat.le_refl 0, Nat.le_refl 0⟩ [.int (iN k)] 39 st_39.1 rfl (c_X7_stage (l := l) (G := G) (ad := ad) (CA := CA) (nt := nt) (by omega) 39 st_39 k (by omega) M) kX2_30 rfl ⟨by dsimp only; omega, by dsimp only; omega⟩ hl.1 rfl (Nat.le_of_ble_eq_true rfl) dX2_branch_5 (fun v1 M2 H locs hp3 hW => ?_)
  obtain ⟨oh, rfl, hoh, hp3⟩ := hp3
  rw [hp3] at hW
  have hFoh : FAt LyK oh := by rw [hoh]; exact fat_39 (by omega)
  rw [← hoh] at hI hm
  have hc := hI.c
  have hk := hI.k2
  have hb3 := hI.b
  have hsp := spotF_rng hI
  rw [fld_27, fld_47] at hsp
  refine rw_stk (st' := [.ref (ad oh)]) rfl ?_
  refine lv_astore (lv' := [(5, .ref (ad oh)), (0, .ref (ad 38)), (1, .int (iN k)), (2, .int (iN left)), (3, .long (jN w))]) hx hb dX2_branch_8 hl (by decide) rfl (fun ls hl => ?_)
  refine lv_iload_n hx hb dX2_branch_10 rfl (lv_at hl 3 rfl) ?_
  refine rw_if_le (tgt := 28) hx hb dX2_branch_11 (by decide) (by omega) (fun c_11 => ?_) (fun c_11 => ?_)
  · refine lv_aload_n hx hb dX2_branch_28 rfl (lv_at hl 1 rfl) ?_
    refine lv_aload hx hb dX2_branch_29 (lv_at hl 0 rfl) ?_
    refine rw_callV hx hb hml hts hown hW ⟨Nat.le_refl 0, Nat.le_refl 0⟩ [] oh hFoh.1 rfl (c_X0_spot (l := l) (G := G) (ad := ad) (CA := CA) (nt := nt) oh hFoh M hk) kX2_48 rfl ⟨by dsimp only; omega, by dsimp only; omega⟩ hl.1 rfl (Nat.le_of_ble_eq_true rfl) dX2_branch_31 (fun v4 M5 H locs hp6 hW => ?_)
    obtain ⟨_, rfl, rfl, hp6⟩ := hp6
    rw [hp6] at hW
    refine rw_stk (st' := [.int (iN (spotF (fld M oh) (M oh 1))), .ref (ad 38)]) rfl ?_
    refine lv_lload_n hx hb dX2_branch_34 rfl (lv_at hl 4 rfl) ?_
    refine lv_iload_n hx hb dX2_branch_35 rfl (lv_at hl 3 rfl) ?_
    refine rw_callS hx hb hml hts hown hW ⟨Nat.le_refl 0, Nat.le_refl 0⟩ [.int (iN left)] (c_X2_wholeOf (l := l) (G := G) (ad := ad) (CA := CA) (nt := nt) left (by omega) M) kX2_26 rfl ⟨by dsimp only; omega, by dsimp only; omega⟩ hl.1 rfl (Nat.le_of_ble_eq_true rfl) dX2_branch_36 (fun v7 M8 H locs hp9 hW => ?_)
    obtain ⟨_, rfl, rfl, hp9⟩ := hp9
    rw [hp9] at hW
    refine rw_stk (st' := [.long (jN (pow8 left)), .long (jN w), .int (iN (spotF (fld M oh) (M oh 1))), .ref (ad 38)]) rfl ?_
    refine rw_lmul hx hb dX2_branch_39 ?_
    refine rw_callV hx hb hml hts hown hW ⟨Nat.le_refl 0, Nat.le_refl 0⟩ [.int (iN (spotF (fld M oh) (M oh 1))), .long (jN (w * (pow8 left)))] 38 lk_38 rfl (c_X2_add (l := l) (G := G) (ad := ad) (CA := CA) (nt := nt) (by omega) (spotF (fld M oh) (M oh 1)) (by omega) (w * (pow8 left)) M) kX2_52 rfl ⟨by dsimp only; omega, by dsimp only; omega⟩ hl.1 rfl (Nat.le_of_ble_eq_true rfl) dX2_branch_40 (fun v10 M11 H locs hp12 hW => ?_)
    obtain ⟨rfl, hM11⟩ := hp12
    refine rw_stk (st' := []) rfl ?_
    refine rw_vret hx hb hr hlocks hW dX2_branch_43 (⟨rfl, ?_⟩)
    refine ⟨fun i h1 h2 => ?_, fun q hq => ?_⟩
    · rw [hM11, upd2_at, ← hoh]
      rw [show left.toNat = 0 by omega, brS_0, fld_27, pow8_0 (n := left) (by omega), Int.mul_one]
      by_cases e : i = spotF (fld M oh) (M oh 1)
      · rw [if_pos ⟨rfl, e⟩, if_pos e, e]; try rfl
      · rw [if_neg (fun z => e z.2), if_neg e, Int.add_zero]
    · rw [hM11]; exact upd2_ne1 (by omega)
  · refine lv_iload_n hx hb dX2_branch_14 rfl (lv_at hl 2 rfl) ?_
    refine rw_bipush hx hb dX2_branch_15 (by decide) ?_
    refine rw_icmp_ge (tgt := 28) hx hb dX2_branch_17 (by decide) (by omega) (by decide) (fun c_17 => ?_) (fun c_17 => ?_)
    · refine lv_aload_n hx hb dX2_branch_28 rfl (lv_at hl 1 rfl) ?_
      refine lv_aload hx hb dX2_branch_29 (lv_at hl 0 rfl) ?_
      refine rw_callV hx hb hml hts hown hW ⟨Nat.le_refl 0, Nat.le_refl 0⟩ [] oh hFoh.1 rfl (c_X0_spot (l := l) (G := G) (ad := ad) (CA := CA) (nt := nt) oh hFoh M hk) kX2_48 rfl ⟨by dsimp only; omega, by dsimp only; omega⟩ hl.1 rfl (Nat.le_of_ble_eq_true rfl) dX2_branch_31 (fun v13 M14 H locs hp15 hW => ?_)
      obtain ⟨_, rfl, rfl, hp15⟩ := hp15
      rw [hp15] at hW
      refine rw_stk (st' := [.int (iN (spotF (fld M oh) (M oh 1))), .ref (ad 38)]) rfl ?_
      refine lv_lload_n hx hb dX2_branch_34 rfl (lv_at hl 4 rfl) ?_
      refine lv_iload_n hx hb dX2_branch_35 rfl (lv_at hl 3 rfl) ?_
      refine rw_callS hx hb hml hts hown hW ⟨Nat.le_refl 0, Nat.le_refl 0⟩ [.int (iN left)] (c_X2_wholeOf (l := l) (G := G) (ad := ad) (CA := CA) (nt := nt) left (by omega) M) kX2_26 rfl ⟨by dsimp only; omega, by dsimp only; omega⟩ hl.1 rfl (Nat.le_of_ble_eq_true rfl) dX2_branch_36 (fun v16 M17 H locs hp18 hW => ?_)
      obtain ⟨_, rfl, rfl, hp18⟩ := hp18
      rw [hp18] at hW
      refine rw_stk (st' := [.long (jN (pow8 left)), .long (jN w), .int (iN (spotF (fld M oh) (M oh 1))), .ref (ad 38)]) rfl ?_
      refine rw_lmul hx hb dX2_branch_39 ?_
      refine rw_callV hx hb hml hts hown hW ⟨Nat.le_refl 0, Nat.le_refl 0⟩ [.int (iN (spotF (fld M oh) (M oh 1))), .long (jN (w * (pow8 left)))] 38 lk_38 rfl (c_X2_add (l := l) (G := G) (ad := ad) (CA := CA) (nt := nt) (by omega) (spotF (fld M oh) (M oh 1)) (by omega) (w * (pow8 left)) M) kX2_52 rfl ⟨by dsimp only; omega, by dsimp only; omega⟩ hl.1 rfl (Nat.le_of_ble_eq_true rfl) dX2_branch_40 (fun v19 M20 H locs hp21 hW => ?_)
      obtain ⟨rfl, hM20⟩ := hp21
      refine rw_stk (st' := []) rfl ?_
      refine rw_vret hx hb hr hlocks hW dX2_branch_43 (⟨rfl, ?_⟩)
      refine ⟨fun i h1 h2 => ?_, fun q hq => ?_⟩
      · rw [hM20, upd2_at, ← hoh]
        rw [show left.toNat = 0 by omega, brS_0, fld_27, pow8_0 (n := left) (by omega), Int.mul_one]
        by_cases e : i = spotF (fld M oh) (M oh 1)
        · rw [if_pos ⟨rfl, e⟩, if_pos e, e]; try rfl
        · rw [if_neg (fun z => e z.2), if_neg e, Int.add_zero]
      · rw [hM20]; exact upd2_ne1 (by omega)
    · refine lv_aload hx hb dX2_branch_20 (lv_at hl 0 rfl) ?_
      refine rw_callV hx hb hml hts hown hW ⟨Nat.le_refl 0, Nat.le_refl 0⟩ [] oh hFoh.1 rfl (c_X0_isOver (l := l) (G := G) (ad := ad) (CA := CA) (nt := nt) oh hFoh M hc hk) kX2_44 rfl ⟨by dsimp only; omega, by dsimp only; omega⟩ hl.1 rfl (Nat.le_of_ble_eq_true rfl) dX2_branch_22 (fun v22 M23 H locs hp24 hW => ?_)
      obtain ⟨a25, rfl, hp24, hp24m⟩ := hp24
      rw [hp24m] at hW
      rcases hp24 with ⟨rfl, hp24⟩ | ⟨rfl, hp24⟩
      · refine rw_stk (st' := [.int (iN 1)]) rfl ?_
        refine rw_if_eq (tgt := 44) hx hb dX2_branch_25 (by decide) (by decide) (fun c => absurd c (by decide)) (fun _ => ?_)
        refine lv_aload_n hx hb dX2_branch_28 rfl (lv_at hl 1 rfl) ?_
        refine lv_aload hx hb dX2_branch_29 (lv_at hl 0 rfl) ?_
        refine rw_callV hx hb hml hts hown hW ⟨Nat.le_refl 0, Nat.le_refl 0⟩ [] oh hFoh.1 rfl (c_X0_spot (l := l) (G := G) (ad := ad) (CA := CA) (nt := nt) oh hFoh M hk) kX2_48 rfl ⟨by dsimp only; omega, by dsimp only; omega⟩ hl.1 rfl (Nat.le_of_ble_eq_true rfl) dX2_branch_31 (fun v26 M27 H locs hp28 hW => ?_)
        obtain ⟨_, rfl, rfl, hp28⟩ := hp28
        rw [hp28] at hW
        refine rw_stk (st' := [.int (iN (spotF (fld M oh) (M oh 1))), .ref (ad 38)]) rfl ?_
        refine lv_lload_n hx hb dX2_branch_34 rfl (lv_at hl 4 rfl) ?_
        refine lv_iload_n hx hb dX2_branch_35 rfl (lv_at hl 3 rfl) ?_
        refine rw_callS hx hb hml hts hown hW ⟨Nat.le_refl 0, Nat.le_refl 0⟩ [.int (iN left)] (c_X2_wholeOf (l := l) (G := G) (ad := ad) (CA := CA) (nt := nt) left (by omega) M) kX2_26 rfl ⟨by dsimp only; omega, by dsimp only; omega⟩ hl.1 rfl (Nat.le_of_ble_eq_true rfl) dX2_branch_36 (fun v29 M30 H locs hp31 hW => ?_)
        obtain ⟨_, rfl, rfl, hp31⟩ := hp31
        rw [hp31] at hW
        refine rw_stk (st' := [.long (jN (pow8 left)), .long (jN w), .int (iN (spotF (fld M oh) (M oh 1))), .ref (ad 38)]) rfl ?_
        refine rw_lmul hx hb dX2_branch_39 ?_
        refine rw_callV hx hb hml hts hown hW ⟨Nat.le_refl 0, Nat.le_refl 0⟩ [.int (iN (spotF (fld M oh) (M oh 1))), .long (jN (w * (pow8 left)))] 38 lk_38 rfl (c_X2_add (l := l) (G := G) (ad := ad) (CA := CA) (nt := nt) (by omega) (spotF (fld M oh) (M oh 1)) (by omega) (w * (pow8 left)) M) kX2_52 rfl ⟨by dsimp only; omega, by dsimp only; omega⟩ hl.1 rfl (Nat.le_of_ble_eq_true rfl) dX2_branch_40 (fun v32 M33 H locs hp34 hW => ?_)
        obtain ⟨rfl, hM33⟩ := hp34
        refine rw_stk (st' := []) rfl ?_
        refine rw_vret hx hb hr hlocks hW dX2_branch_43 (⟨rfl, ?_⟩)
        refine ⟨fun i h1 h2 => ?_, fun q hq => ?_⟩
        · rw [hM33, upd2_at, ← hoh]
          rw [brS_over (by rw [fld_47, fld_27]; omega), fld_27]
          by_cases e : i = spotF (fld M oh) (M oh 1)
          · rw [if_pos ⟨rfl, e⟩, if_pos e, e]; try rfl
          · rw [if_neg (fun z => e z.2), if_neg e, Int.add_zero]
        · rw [hM33]; exact upd2_ne1 (by omega)
      · refine rw_stk (st' := [.int (iN 0)]) rfl ?_
        refine rw_if_eq (tgt := 44) hx hb dX2_branch_25 (by decide) (by decide) (fun _ => ?_) (fun c => absurd (by decide) c)
        refine lv_aload_n hx hb dX2_branch_44 rfl (lv_at hl 1 rfl) ?_
        refine rw_getR hx hb hts hown hW 38 lk_38 0 39 rfl fX2_12 dX2_branch_45 ?_
        refine lv_iload_n hx hb dX2_branch_48 rfl (lv_at hl 2 rfl) ?_
        refine rw_iconst hx hb dX2_branch_49 ?_
        refine rw_iadd hx hb dX2_branch_50 ?_
        refine rw_callV hx hb hml hts hown hW ⟨Nat.le_refl 0, Nat.le_refl 0⟩ [.int (iN (k + 1))] 39 st_39.1 rfl (c_X7_stage (l := l) (G := G) (ad := ad) (CA := CA) (nt := nt) (by omega) 39 st_39 (k + 1) (by omega) M) kX2_30 rfl ⟨by dsimp only; omega, by dsimp only; omega⟩ hl.1 rfl (Nat.le_of_ble_eq_true rfl) dX2_branch_51 (fun v35 M36 H locs hp37 hW => ?_)
        obtain ⟨on, rfl, hon, hp37⟩ := hp37
        rw [hp37] at hW
        have hFon : FAt LyK on := by rw [hon]; exact fat_39 (by omega)
        refine rw_stk (st' := [.ref (ad on)]) rfl ?_
        refine lv_astore (lv' := [(6, .ref (ad on)), (5, .ref (ad oh)), (0, .ref (ad 38)), (1, .int (iN k)), (2, .int (iN left)), (3, .long (jN w))]) hx hb dX2_branch_54 hl (by decide) rfl (fun ls hl => ?_)
        refine lv_aload hx hb dX2_branch_56 (lv_at hl 0 rfl) ?_
        refine lv_aload hx hb dX2_branch_58 (lv_at hl 1 rfl) ?_
        refine rw_callV hx hb hml hts hown hW ⟨Nat.le_refl 0, Nat.le_refl 0⟩ [.ref (ad oh)] on hFon.1 rfl (c_X0_copyOf (l := l) (G := G) (ad := ad) (CA := CA) (nt := nt) (by omega) on hFon oh hFoh (by omega) M) kX2_34 rfl ⟨by dsimp only; omega, by dsimp only; omega⟩ hl.1 rfl (Nat.le_of_ble_eq_true rfl) dX2_branch_60 (fun v38 M39 H locs hp40 hW => ?_)
        obtain ⟨rfl, hM39⟩ := hp40
        refine rw_stk (st' := []) rfl ?_
        refine lv_aload hx hb dX2_branch_63 (lv_at hl 0 rfl) ?_
        refine rw_iconst hx hb dX2_branch_65 ?_
        refine rw_callV hx hb hml hts hown hW ⟨Nat.le_refl 0, Nat.le_refl 0⟩ [.int (iN 0)] on hFon.1 rfl (c_X0_passByCaptains (l := l) (G := G) (ad := ad) (CA := CA) (nt := nt) (by omega) on hFon 0 (by omega) M39 (by rw [hM39.1]; exact hI)) kX2_56 rfl ⟨by dsimp only; omega, by dsimp only; omega⟩ hl.1 rfl (Nat.le_of_ble_eq_true rfl) dX2_branch_66 (fun v41 M42 H locs hp43 hW => ?_)
        obtain ⟨rfl, hM42⟩ := hp43
        refine rw_stk (st' := []) rfl ?_
        refine lv_aload_n hx hb dX2_branch_69 rfl (lv_at hl 2 rfl) ?_
        refine lv_iload_n hx hb dX2_branch_70 rfl (lv_at hl 3 rfl) ?_
        refine rw_iconst hx hb dX2_branch_71 ?_
        refine rw_iadd hx hb dX2_branch_72 ?_
        refine lv_iload_n hx hb dX2_branch_73 rfl (lv_at hl 4 rfl) ?_
        refine rw_iconst hx hb dX2_branch_74 ?_
        refine rw_isub hx hb dX2_branch_75 ?_
        refine lv_lload_n hx hb dX2_branch_76 rfl (lv_at hl 5 rfl) ?_
        refine rw_bipush hx hb dX2_branch_77 (by decide) ?_
        refine lv_aload hx hb dX2_branch_79 (lv_at hl 1 rfl) ?_
        refine rw_getI hx hb hts hown hW oh hFoh.1 3 3 rfl rfl fX2_60 dX2_branch_81 (v := (M oh 3)) (by rw [hM42.2 oh (by omega), hM39.2 oh (by omega)]) ?_
        refine rw_isub hx hb dX2_branch_84 ?_
        refine rw_i2l hx hb dX2_branch_85 (by omega) ?_
        refine rw_lmul hx hb dX2_branch_86 ?_
        refine rw_callS hx hb hml hts hown hW ⟨Nat.le_refl 0, Nat.le_refl 0⟩ [.ref (ad 38), .int (iN (k + 1)), .int (iN (left - 1)), .long (jN (w * (8 - (M oh 3))))] (ihd (d - 1) (by omega) (by omega) (k + 1) (by omega) (left - 1) (by omega) (w * (8 - (M oh 3))) M42 (by rw [← hon, hM42.1, hM39.1]; exact passCap_inv hI (by omega) 0) (by rw [← hon, hM42.1, hM39.1]; have := (passCap_min (fld M oh) 0).1; omega)) kX2_40 rfl ⟨by dsimp only; omega, by dsimp only; omega⟩ hl.1 rfl (Nat.le_of_ble_eq_true rfl) dX2_branch_87 (fun v44 M45 H locs hp46 hW => ?_)
        obtain ⟨rfl, hM45⟩ := hp46
        refine rw_stk (st' := []) rfl ?_
        have hoh3 : fld M45 oh = fld M oh := fld_eq8 (fun q h1 h2 => by rw [hM45.2 q (by omega), hM42.2 q (by omega), hM39.2 q (by omega)])
        refine lv_aload hx hb dX2_branch_90 (lv_at hl 1 rfl) ?_
        refine rw_getI hx hb hts hown hW oh hFoh.1 3 3 rfl rfl fX2_60 dX2_branch_92 (v := (M oh 3)) (by rw [hM45.2 oh (by omega), hM42.2 oh (by omega), hM39.2 oh (by omega)]) ?_
        refine rw_if_le (tgt := 129) hx hb dX2_branch_95 (by decide) (by omega) (fun c_95 => ?_) (fun c_95 => ?_)
        · refine rw_vret hx hb hr hlocks hW dX2_branch_129 (⟨rfl, ?_⟩)
          refine ⟨fun i h1 h2 => ?_, fun q hq => ?_⟩
          · rw [← hoh, show left.toNat = (left - 1).toNat + 1 by omega, brS_on (by rw [fld_47, fld_27]; omega), fld_45]
            rw [hM45.1 i h1 h2, ← hon, hM42.1, hM39.1, hM42.2 121 (by omega), hM39.2 121 (by omega), if_neg (by omega)]; omega
          · rw [hM45.2 q (by omega), hM42.2 q (by omega), hM39.2 q (by omega)]
        · refine lv_aload hx hb dX2_branch_98 (lv_at hl 0 rfl) ?_
          refine lv_aload hx hb dX2_branch_100 (lv_at hl 1 rfl) ?_
          refine rw_callV hx hb hml hts hown hW ⟨Nat.le_refl 0, Nat.le_refl 0⟩ [.ref (ad oh)] on hFon.1 rfl (c_X0_copyOf (l := l) (G := G) (ad := ad) (CA := CA) (nt := nt) (by omega) on hFon oh hFoh (by omega) M45) kX2_34 rfl ⟨by dsimp only; omega, by dsimp only; omega⟩ hl.1 rfl (Nat.le_of_ble_eq_true rfl) dX2_branch_102 (fun v47 M48 H locs hp49 hW => ?_)
          obtain ⟨rfl, hM48⟩ := hp49
          refine rw_stk (st' := []) rfl ?_
          refine lv_aload hx hb dX2_branch_105 (lv_at hl 0 rfl) ?_
          refine rw_iconst hx hb dX2_branch_107 ?_
          refine rw_callV hx hb hml hts hown hW ⟨Nat.le_refl 0, Nat.le_refl 0⟩ [.int (iN 1)] on hFon.1 rfl (c_X0_passByCaptains (l := l) (G := G) (ad := ad) (CA := CA) (nt := nt) (by omega) on hFon 1 (by omega) M48 (by rw [hM48.1, hoh3]; exact hI)) kX2_56 rfl ⟨by dsimp only; omega, by dsimp only; omega⟩ hl.1 rfl (Nat.le_of_ble_eq_true rfl) dX2_branch_108 (fun v50 M51 H locs hp52 hW => ?_)
          obtain ⟨rfl, hM51⟩ := hp52
          refine rw_stk (st' := []) rfl ?_
          refine lv_aload_n hx hb dX2_branch_111 rfl (lv_at hl 2 rfl) ?_
          refine lv_iload_n hx hb dX2_branch_112 rfl (lv_at hl 3 rfl) ?_
          refine rw_iconst hx hb dX2_branch_113 ?_
          refine rw_iadd hx hb dX2_branch_114 ?_
          refine lv_iload_n hx hb dX2_branch_115 rfl (lv_at hl 4 rfl) ?_
          refine rw_iconst hx hb dX2_branch_116 ?_
          refine rw_isub hx hb dX2_branch_117 ?_
          refine lv_lload_n hx hb dX2_branch_118 rfl (lv_at hl 5 rfl) ?_
          refine lv_aload hx hb dX2_branch_119 (lv_at hl 1 rfl) ?_
          refine rw_getI hx hb hts hown hW oh hFoh.1 3 3 rfl rfl fX2_60 dX2_branch_121 (v := (M oh 3)) (by rw [hM51.2 oh (by omega), hM48.2 oh (by omega), hM45.2 oh (by omega), hM42.2 oh (by omega), hM39.2 oh (by omega)]) ?_
          refine rw_i2l hx hb dX2_branch_124 (by omega) ?_
          refine rw_lmul hx hb dX2_branch_125 ?_
          refine rw_callS hx hb hml hts hown hW ⟨Nat.le_refl 0, Nat.le_refl 0⟩ [.ref (ad 38), .int (iN (k + 1)), .int (iN (left - 1)), .long (jN (w * (M oh 3)))] (ihd (d - 1) (by omega) (by omega) (k + 1) (by omega) (left - 1) (by omega) (w * (M oh 3)) M51 (by rw [← hon, hM51.1, hM48.1, hoh3]; exact passCap_inv hI (by omega) 1) (by rw [← hon, hM51.1, hM48.1, hoh3]; have := (passCap_min (fld M oh) 1).1; omega)) kX2_40 rfl ⟨by dsimp only; omega, by dsimp only; omega⟩ hl.1 rfl (Nat.le_of_ble_eq_true rfl) dX2_branch_126 (fun v53 M54 H locs hp55 hW => ?_)
          obtain ⟨rfl, hM54⟩ := hp55
          refine rw_stk (st' := []) rfl ?_
          refine rw_vret hx hb hr hlocks hW dX2_branch_129 (⟨rfl, ?_⟩)
          refine ⟨fun i h1 h2 => ?_, fun q hq => ?_⟩
          · rw [← hoh, show left.toNat = (left - 1).toNat + 1 by omega, brS_on (by rw [fld_47, fld_27]; omega), fld_45]
            rw [hM54.1 i h1 h2, ← hon, hM51.1, hM48.1, hoh3, hM51.2 121 (by omega), hM48.2 121 (by omega), hM45.1 i h1 h2, ← hon, hM42.1, hM39.1, hM42.2 121 (by omega), hM39.2 121 (by omega), if_pos (by omega)]; omega
          · rw [hM54.2 q (by omega), hM51.2 q (by omega), hM48.2 q (by omega), hM45.2 q (by omega), hM42.2 q (by omega), hM39.2 q (by omega)]
