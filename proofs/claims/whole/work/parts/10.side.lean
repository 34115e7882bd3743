abbrev P_X10_within (v : Int) (a : Int) (b : Int) (M : Mem) : Option Value → Mem → Prop := oI (fun zz MM => BP (a ≤ v ∧ v ≤ b) zz ∧ MM = M)
set_option maxRecDepth 100000 in
set_option maxHeartbeats 4000000 in
theorem c_X10_within {l : Launch} {G : va_G} {ad : Nat → Nat} {CA : Nat → ClassId} {nt : Nat} {Ly : List LD} (v : Int) (a : Int) (b : Int) (hv : in32 v) (ha : in32 a) (hb : in32 b) (M : Mem) : Mt l yX10_within cX10_within 3 (some .boolean) 0 0 G ad CA nt Ly [.int (iN v), .int (iN a), .int (iN b)] M (P_X10_within v a b M) := by
  refine Mt.of (by decide) (Nat.le_of_ble_eq_true rfl) (fun p e s m args below meth c hx hb hr hml hts hown hlocks hnm hW ls hl => ?_)
  have hl : lv_has ls 3 [(0, .int (iN v)), (1, .int (iN a)), (2, .int (iN b))] := hl
  obtain ⟨H, hH⟩ : ∃ z, z = s.heap := ⟨_, rfl⟩
  obtain ⟨locs, hlo⟩ : ∃ z : List Loc, z = [] := ⟨_, rfl⟩
  rw [← hH, ← hlo] at hW ⊢
  refine lv_iload_n hx hb dX10_within_0 rfl (lv_at hl 0 rfl) ?_
  refine lv_iload_n hx hb dX10_within_1 rfl (lv_at hl 1 rfl) ?_
  refine rw_icmp_lt (tgt := 14) hx hb dX10_within_2 (by decide) (by omega) (by omega) (fun c_2 => ?_) (fun c_2 => ?_)
  · refine rw_iconst hx hb dX10_within_14 ?_
    refine rw_zret hx hb hr hlocks hW dX10_within_15 (Or.inl rfl) (⟨0, rfl, ?_⟩)
    first | exact ⟨Or.inl ⟨rfl, by omega⟩, rfl⟩ | exact ⟨Or.inr ⟨rfl, by omega⟩, rfl⟩
  · refine lv_iload_n hx hb dX10_within_5 rfl (lv_at hl 0 rfl) ?_
    refine lv_iload_n hx hb dX10_within_6 rfl (lv_at hl 2 rfl) ?_
    refine rw_icmp_gt (tgt := 14) hx hb dX10_within_7 (by decide) (by omega) (by omega) (fun c_7 => ?_) (fun c_7 => ?_)
    · refine rw_iconst hx hb dX10_within_14 ?_
      refine rw_zret hx hb hr hlocks hW dX10_within_15 (Or.inl rfl) (⟨0, rfl, ?_⟩)
      first | exact ⟨Or.inl ⟨rfl, by omega⟩, rfl⟩ | exact ⟨Or.inr ⟨rfl, by omega⟩, rfl⟩
    · refine rw_iconst hx hb dX10_within_10 ?_
      refine lv_goto (tgt := 15) hx hb dX10_within_11 (by decide) ?_
      refine rw_zret hx hb hr hlocks hW dX10_within_15 (Or.inr rfl) (⟨1, rfl, ?_⟩)
      first | exact ⟨Or.inl ⟨rfl, by omega⟩, rfl⟩ | exact ⟨Or.inr ⟨rfl, by omega⟩, rfl⟩
abbrev P_X10_isSide (v : Int) (M : Mem) : Option Value → Mem → Prop := oI (fun zz MM => BP (v = 0 ∨ v = 1) zz ∧ MM = M)
set_option maxRecDepth 100000 in
set_option maxHeartbeats 4000000 in
theorem c_X10_isSide {l : Launch} {G : va_G} {ad : Nat → Nat} {CA : Nat → ClassId} {nt : Nat} {Ly : List LD} (v : Int) (hv : in32 v) (M : Mem) : Mt l yX10_isSide cX10_isSide 1 (some .boolean) 0 0 G ad CA nt Ly [.int (iN v)] M (P_X10_isSide v M) := by
  refine Mt.of (by decide) (Nat.le_of_ble_eq_true rfl) (fun p e s m args below meth c hx hb hr hml hts hown hlocks hnm hW ls hl => ?_)
  have hl : lv_has ls 1 [(0, .int (iN v))] := hl
  obtain ⟨H, hH⟩ : ∃ z, z = s.heap := ⟨_, rfl⟩
  obtain ⟨locs, hlo⟩ : ∃ z : List Loc, z = [] := ⟨_, rfl⟩
  rw [← hH, ← hlo] at hW ⊢
  refine lv_iload_n hx hb dX10_isSide_0 rfl (lv_at hl 0 rfl) ?_
  refine rw_if_eq (tgt := 9) hx hb dX10_isSide_1 (by decide) (by omega) (fun c_1 => ?_) (fun c_1 => ?_)
  · refine rw_iconst hx hb dX10_isSide_9 ?_
    refine lv_goto (tgt := 14) hx hb dX10_isSide_10 (by decide) ?_
    refine rw_zret hx hb hr hlocks hW dX10_isSide_14 (Or.inr rfl) (⟨1, rfl, ?_⟩)
    first | exact ⟨Or.inl ⟨rfl, by omega⟩, rfl⟩ | exact ⟨Or.inr ⟨rfl, by omega⟩, rfl⟩
  · refine lv_iload_n hx hb dX10_isSide_4 rfl (lv_at hl 0 rfl) ?_
    refine rw_iconst hx hb dX10_isSide_5 ?_
    refine rw_icmp_ne (tgt := 13) hx hb dX10_isSide_6 (by decide) (by omega) (by decide) (fun c_6 => ?_) (fun c_6 => ?_)
    · refine rw_iconst hx hb dX10_isSide_13 ?_
      refine rw_zret hx hb hr hlocks hW dX10_isSide_14 (Or.inl rfl) (⟨0, rfl, ?_⟩)
      first | exact ⟨Or.inl ⟨rfl, by omega⟩, rfl⟩ | exact ⟨Or.inr ⟨rfl, by omega⟩, rfl⟩
    · refine rw_iconst hx hb dX10_isSide_9 ?_
      refine lv_goto (tgt := 14) hx hb dX10_isSide_10 (by decide) ?_
      refine rw_zret hx hb hr hlocks hW dX10_isSide_14 (Or.inr rfl) (⟨1, rfl, ?_⟩)
      first | exact ⟨Or.inl ⟨rfl, by omega⟩, rfl⟩ | exact ⟨Or.inr ⟨rfl, by omega⟩, rfl⟩
abbrev P_X10_isImage (v : Int) (M : Mem) : Option Value → Mem → Prop := oI (fun zz MM => BP (v = 0 ∨ v = 1) zz ∧ MM = M)
set_option maxRecDepth 100000 in
set_option maxHeartbeats 4000000 in
theorem c_X10_isImage {l : Launch} {G : va_G} {ad : Nat → Nat} {CA : Nat → ClassId} {nt : Nat} {Ly : List LD} (v : Int) (hv : in32 v) (M : Mem) : Mt l yX10_isImage cX10_isImage 1 (some .boolean) 0 0 G ad CA nt Ly [.int (iN v)] M (P_X10_isImage v M) := by
  refine Mt.of (by decide) (Nat.le_of_ble_eq_true rfl) (fun p e s m args below meth c hx hb hr hml hts hown hlocks hnm hW ls hl => ?_)
  have hl : lv_has ls 1 [(0, .int (iN v))] := hl
  obtain ⟨H, hH⟩ : ∃ z, z = s.heap := ⟨_, rfl⟩
  obtain ⟨locs, hlo⟩ : ∃ z : List Loc, z = [] := ⟨_, rfl⟩
  rw [← hH, ← hlo] at hW ⊢
  refine lv_iload_n hx hb dX10_isImage_0 rfl (lv_at hl 0 rfl) ?_
  refine rw_if_eq (tgt := 9) hx hb dX10_isImage_1 (by decide) (by omega) (fun c_1 => ?_) (fun c_1 => ?_)
  · refine rw_iconst hx hb dX10_isImage_9 ?_
    refine lv_goto (tgt := 14) hx hb dX10_isImage_10 (by decide) ?_
    refine rw_zret hx hb hr hlocks hW dX10_isImage_14 (Or.inr rfl) (⟨1, rfl, ?_⟩)
    first | exact ⟨Or.inl ⟨rfl, by omega⟩, rfl⟩ | exact ⟨Or.inr ⟨rfl, by omega⟩, rfl⟩
  · refine lv_iload_n hx hb dX10_isImage_4 rfl (lv_at hl 0 rfl) ?_
    refine rw_iconst hx hb dX10_isImage_5 ?_
    refine rw_icmp_ne (tgt := 13) hx hb dX10_isImage_6 (by decide) (by omega) (by decide) (fun c_6 => ?_) (fun c_6 => ?_)
    · refine rw_iconst hx hb dX10_isImage_13 ?_
      refine rw_zret hx hb hr hlocks hW dX10_isImage_14 (Or.inl rfl) (⟨0, rfl, ?_⟩)
      first | exact ⟨Or.inl ⟨rfl, by omega⟩, rfl⟩ | exact ⟨Or.inr ⟨rfl, by omega⟩, rfl⟩
    · refine rw_iconst hx hb dX10_isImage_9 ?_
      refine lv_goto (tgt := 14) hx hb dX10_isImage_10 (by decide) ?_
      refine rw_zret hx hb hr hlocks hW dX10_isImage_14 (Or.inr rfl) (⟨1, rfl, ?_⟩)
      first | exact ⟨Or.inl ⟨rfl, by omega⟩, rfl⟩ | exact ⟨Or.inr ⟨rfl, by omega⟩, rfl⟩
abbrev P_X10_isKind (v : Int) (M : Mem) : Option Value → Mem → Prop := oI (fun zz MM => BP (0 ≤ v ∧ v ≤ 4) zz ∧ MM = M)
set_option maxRecDepth 100000 in
set_option maxHeartbeats 4000000 in
theorem c_X10_isKind {l : Launch} {G : va_G} {ad : Nat → Nat} {CA : Nat → ClassId} {nt : Nat} {Ly : List LD} (v : Int) (hv : in32 v) (M : Mem) : Mt l yX10_isKind cX10_isKind 1 (some .boolean) 1 22 G ad CA nt Ly [.int (iN v)] M (P_X10_isKind v M) := by
  refine Mt.of (by decide) (Nat.le_of_ble_eq_true rfl) (fun p e s m args below meth c hx hb hr hml hts hown hlocks hnm hW ls hl => ?_)
  have hl : lv_has ls 1 [(0, .int (iN v))] := hl
  obtain ⟨H, hH⟩ : ∃ z, z = s.heap := ⟨_, rfl⟩
  obtain ⟨locs, hlo⟩ : ∃ z : List Loc, z = [] := ⟨_, rfl⟩
  rw [← hH, ← hlo] at hW ⊢
  refine lv_iload_n hx hb dX10_isKind_0 rfl (lv_at hl 0 rfl) ?_
  refine rw_iconst hx hb dX10_isKind_1 ?_
  refine rw_iconst hx hb dX10_isKind_2 ?_
  refine rw_callS hx hb hml hts hown hW ⟨Nat.le_refl 0, Nat.le_refl 0⟩ [.int (iN v), .int (iN 0), .int (iN 4)] (c_X10_within (l := l) (G := G) (ad := ad) (CA := CA) (nt := nt) v 0 4 (by omega) (by omega) (by omega) M) kX10_81 rfl ⟨Nat.le_of_ble_eq_true rfl, Nat.le_of_ble_eq_true rfl⟩ hl.1 rfl (Nat.le_of_ble_eq_true rfl) dX10_isKind_3 (fun v1 M2 H locs hp3 hW => ?_)
  obtain ⟨a4, rfl, hp3, hp3m⟩ := hp3
  rw [hp3m] at hW
  rcases hp3 with ⟨rfl, hp3⟩ | ⟨rfl, hp3⟩
  · refine rw_stk (st' := [.int (iN 1)]) rfl ?_
    refine rw_zret hx hb hr hlocks hW dX10_isKind_6 (Or.inr rfl) (⟨1, rfl, ?_⟩)
    first | exact ⟨Or.inl ⟨rfl, by omega⟩, rfl⟩ | exact ⟨Or.inr ⟨rfl, by omega⟩, rfl⟩
  · refine rw_stk (st' := [.int (iN 0)]) rfl ?_
    refine rw_zret hx hb hr hlocks hW dX10_isKind_6 (Or.inl rfl) (⟨0, rfl, ?_⟩)
    first | exact ⟨Or.inl ⟨rfl, by omega⟩, rfl⟩ | exact ⟨Or.inr ⟨rfl, by omega⟩, rfl⟩
abbrev P_X10_replace (k : Nat) (n : Nat) (i : Int) (v : Int) (M : Mem) : Option Value → Mem → Prop := oI (fun zz MM => zz = M k i ∧ MM = upd2 M k i v)
set_option maxRecDepth 100000 in
set_option maxHeartbeats 4000000 in
theorem c_X10_replace {l : Launch} {G : va_G} {ad : Nat → Nat} {CA : Nat → ClassId} {nt : Nat} {Ly : List LD} (hnt : 4 ≤ nt) (k : Nat) (n : Nat) (hn : n ≤ 100) (hk : Ly[k]? = some (.inr (0, n, []))) (i : Int) (v : Int) (hi : 0 ≤ i ∧ i < n) (M : Mem) : Mt l yX10_replace cX10_replace 4 (some .int) 0 0 G ad CA nt Ly [.ref (ad k), .int (iN i), .int (iN v)] M (P_X10_replace k n i v M) := by
  refine Mt.of (by decide) (Nat.le_of_ble_eq_true rfl) (fun p e s m args below meth c hx hb hr hml hts hown hlocks hnm hW ls hl => ?_)
  have hl : lv_has ls 4 [(0, .ref (ad k)), (1, .int (iN i)), (2, .int (iN v))] := hl
  have hnt4 : 4 ≤ nt := by omega
  obtain ⟨H, hH⟩ : ∃ z, z = s.heap := ⟨_, rfl⟩
  obtain ⟨locs, hlo⟩ : ∃ z : List Loc, z = [] := ⟨_, rfl⟩
  rw [← hH, ← hlo] at hW ⊢
  refine lv_iload_n hx hb dX10_replace_0 rfl (lv_at hl 1 rfl) ?_
  refine rw_if_lt (tgt := 10) hx hb dX10_replace_1 (by decide) (by omega) (fun c_1 => ?_) (fun c_1 => ?_)
  · exfalso; omega
  · refine lv_iload_n hx hb dX10_replace_4 rfl (lv_at hl 1 rfl) ?_
    refine lv_aload_n hx hb dX10_replace_5 rfl (lv_at hl 0 rfl) ?_
    refine rw_alen hx hb hW k hk (tyL_get (by omega) rfl) dX10_replace_6 ?_
    refine rw_icmp_lt (tgt := 12) hx hb dX10_replace_7 (by decide) (by omega) (by omega) (fun c_7 => ?_) (fun c_7 => ?_)
    · refine lv_aload_n hx hb dX10_replace_12 rfl (lv_at hl 0 rfl) ?_
      refine lv_iload_n hx hb dX10_replace_13 rfl (lv_at hl 1 rfl) ?_
      refine rw_iald hx hb hW hnt4 k hk (by omega) (by omega) (by omega) dX10_replace_14 (v := (M k i)) rfl ?_
      refine lv_istore_n (lv' := [(3, .int (iN (M k i))), (0, .ref (ad k)), (1, .int (iN i)), (2, .int (iN v))]) hx hb dX10_replace_15 rfl hl (by decide) rfl (fun ls hl => ?_)
      refine lv_aload_n hx hb dX10_replace_16 rfl (lv_at hl 1 rfl) ?_
      refine lv_iload_n hx hb dX10_replace_17 rfl (lv_at hl 2 rfl) ?_
      refine lv_iload_n hx hb dX10_replace_18 rfl (lv_at hl 3 rfl) ?_
      refine rw_iast hx hb hW hnt4 k hk (v := v) (by omega) (by omega) (by omega) dX10_replace_19 (fun H locs hW => ?_)
      obtain ⟨M1, hM1⟩ : ∃ z, z = upd2 M k i v := ⟨_, rfl⟩
      rw [← hM1] at hW
      refine lv_iload_n hx hb dX10_replace_20 rfl (lv_at hl 0 rfl) ?_
      refine rw_iret hx hb hr hlocks hW dX10_replace_21 (⟨(M k i), rfl, ?_⟩)
      exact ⟨rfl, hM1⟩
    · exfalso; omega
abbrev P_X6_allResting (q : Nat) (M : Mem) : Option Value → Mem → Prop := oI (fun zz MM => zz = restS (sd M q) ∧ MM = M)
set_option maxRecDepth 100000 in
set_option maxHeartbeats 4000000 in
theorem c_X6_allResting {l : Launch} {G : va_G} {ad : Nat → Nat} {CA : Nat → ClassId} {nt : Nat} {Ly : List LD} (hnt : 4 ≤ nt) (q : Nat) (hS : SAt Ly q) (M : Mem) : Mt l yX6_allResting cX6_allResting 3 (some .int) 0 0 G ad CA nt Ly [.ref (ad q)] M (P_X6_allResting q M) := by
  refine Mt.of (by decide) (Nat.le_of_ble_eq_true rfl) (fun p e s m args below meth c hx hb hr hml hts hown hlocks hnm hW ls hl => ?_)
  have hl : lv_has ls 3 [(0, .ref (ad q))] := hl
  have hnt4 : 4 ≤ nt := by omega
  obtain ⟨H, hH⟩ : ∃ z, z = s.heap := ⟨_, rfl⟩
  obtain ⟨locs, hlo⟩ : ∃ z : List Loc, z = [] := ⟨_, rfl⟩
  rw [← hH, ← hlo] at hW ⊢
  refine rw_iconst hx hb dX6_allResting_0 ?_
  refine lv_istore_n (lv' := [(1, .int (iN 0)), (0, .ref (ad q))]) hx hb dX6_allResting_1 rfl hl (by decide) rfl (fun ls hl => ?_)
  refine rw_iconst hx hb dX6_allResting_2 ?_
  refine lv_istore_n (lv' := [(2, .int (iN 1)), (1, .int (iN 0)), (0, .ref (ad q))]) hx hb dX6_allResting_3 rfl hl (by decide) rfl (fun ls hl => ?_)
  refine lv_iload_n hx hb dX6_allResting_4 rfl (lv_at hl 0 rfl) ?_
  refine rw_iconst hx hb dX6_allResting_5 ?_
  refine rw_icmp_gt (tgt := 24) hx hb dX6_allResting_6 (by decide) (by decide) (by decide) (fun c => absurd c (by decide)) (fun _ => ?_)
  refine lv_iload_n hx hb dX6_allResting_9 rfl (lv_at hl 1 rfl) ?_
  refine lv_aload_n hx hb dX6_allResting_10 rfl (lv_at hl 2 rfl) ?_
  refine rw_getR hx hb hts hown hW q hS.1 1 (q + 1) rfl fX6_9 dX6_allResting_11 ?_
  refine lv_iload_n hx hb dX6_allResting_14 rfl (lv_at hl 0 rfl) ?_
  refine rw_iald hx hb hW hnt4 (q + 1) hS.2 (by omega) (by omega) (by decide) dX6_allResting_15 (v := (M (q + 1) 1)) rfl ?_
  refine rw_iadd hx hb dX6_allResting_16 ?_
  refine lv_istore_n (lv' := [(1, .int (iN (0 + (M (q + 1) 1)))), (2, .int (iN 1)), (0, .ref (ad q))]) hx hb dX6_allResting_17 rfl hl (by decide) rfl (fun ls hl => ?_)
  refine rw_iinc (lv' := [(2, .int (iN 2)), (1, .int (iN (0 + (M (q + 1) 1)))), (0, .ref (ad q))]) hx hb dX6_allResting_18 hl (k := 1) rfl (by decide) rfl (fun ls hl => ?_)
  refine lv_goto (tgt := 4) hx hb dX6_allResting_21 (by decide) ?_
  refine lv_iload_n hx hb dX6_allResting_4 rfl (lv_at hl 0 rfl) ?_
  refine rw_iconst hx hb dX6_allResting_5 ?_
  refine rw_icmp_gt (tgt := 24) hx hb dX6_allResting_6 (by decide) (by decide) (by decide) (fun c => absurd c (by decide)) (fun _ => ?_)
  refine lv_iload_n hx hb dX6_allResting_9 rfl (lv_at hl 1 rfl) ?_
  refine lv_aload_n hx hb dX6_allResting_10 rfl (lv_at hl 2 rfl) ?_
  refine rw_getR hx hb hts hown hW q hS.1 1 (q + 1) rfl fX6_9 dX6_allResting_11 ?_
  refine lv_iload_n hx hb dX6_allResting_14 rfl (lv_at hl 0 rfl) ?_
  refine rw_iald hx hb hW hnt4 (q + 1) hS.2 (by omega) (by omega) (by decide) dX6_allResting_15 (v := (M (q + 1) 2)) rfl ?_
  refine rw_iadd hx hb dX6_allResting_16 ?_
  refine lv_istore_n (lv' := [(1, .int (iN ((0 + (M (q + 1) 1)) + (M (q + 1) 2)))), (2, .int (iN 2)), (0, .ref (ad q))]) hx hb dX6_allResting_17 rfl hl (by decide) rfl (fun ls hl => ?_)
  refine rw_iinc (lv' := [(2, .int (iN 3)), (1, .int (iN ((0 + (M (q + 1) 1)) + (M (q + 1) 2)))), (0, .ref (ad q))]) hx hb dX6_allResting_18 hl (k := 1) rfl (by decide) rfl (fun ls hl => ?_)
  refine lv_goto (tgt := 4) hx hb dX6_allResting_21 (by decide) ?_
  refine lv_iload_n hx hb dX6_allResting_4 rfl (lv_at hl 0 rfl) ?_
  refine rw_iconst hx hb dX6_allResting_5 ?_
  refine rw_icmp_gt (tgt := 24) hx hb dX6_allResting_6 (by decide) (by decide) (by decide) (fun c => absurd c (by decide)) (fun _ => ?_)
  refine lv_iload_n hx hb dX6_allResting_9 rfl (lv_at hl 1 rfl) ?_
  refine lv_aload_n hx hb dX6_allResting_10 rfl (lv_at hl 2 rfl) ?_
  refine rw_getR hx hb hts hown hW q hS.1 1 (q + 1) rfl fX6_9 dX6_allResting_11 ?_
  refine lv_iload_n hx hb dX6_allResting_14 rfl (lv_at hl 0 rfl) ?_
  refine rw_iald hx hb hW hnt4 (q + 1) hS.2 (by omega) (by omega) (by decide) dX6_allResting_15 (v := (M (q + 1) 3)) rfl ?_
  refine rw_iadd hx hb dX6_allResting_16 ?_
  refine lv_istore_n (lv' := [(1, .int (iN (((0 + (M (q + 1) 1)) + (M (q + 1) 2)) + (M (q + 1) 3)))), (2, .int (iN 3)), (0, .ref (ad q))]) hx hb dX6_allResting_17 rfl hl (by decide) rfl (fun ls hl => ?_)
  refine rw_iinc (lv' := [(2, .int (iN 4)), (1, .int (iN (((0 + (M (q + 1) 1)) + (M (q + 1) 2)) + (M (q + 1) 3)))), (0, .ref (ad q))]) hx hb dX6_allResting_18 hl (k := 1) rfl (by decide) rfl (fun ls hl => ?_)
  refine lv_goto (tgt := 4) hx hb dX6_allResting_21 (by decide) ?_
  refine lv_iload_n hx hb dX6_allResting_4 rfl (lv_at hl 0 rfl) ?_
  refine rw_iconst hx hb dX6_allResting_5 ?_
  refine rw_icmp_gt (tgt := 24) hx hb dX6_allResting_6 (by decide) (by decide) (by decide) (fun c => absurd c (by decide)) (fun _ => ?_)
  refine lv_iload_n hx hb dX6_allResting_9 rfl (lv_at hl 1 rfl) ?_
  refine lv_aload_n hx hb dX6_allResting_10 rfl (lv_at hl 2 rfl) ?_
  refine rw_getR hx hb hts hown hW q hS.1 1 (q + 1) rfl fX6_9 dX6_allResting_11 ?_
  refine lv_iload_n hx hb dX6_allResting_14 rfl (lv_at hl 0 rfl) ?_
  refine rw_iald hx hb hW hnt4 (q + 1) hS.2 (by omega) (by omega) (by decide) dX6_allResting_15 (v := (M (q + 1) 4)) rfl ?_
  refine rw_iadd hx hb dX6_allResting_16 ?_
  refine lv_istore_n (lv' := [(1, .int (iN ((((0 + (M (q + 1) 1)) + (M (q + 1) 2)) + (M (q + 1) 3)) + (M (q + 1) 4)))), (2, .int (iN 4)), (0, .ref (ad q))]) hx hb dX6_allResting_17 rfl hl (by decide) rfl (fun ls hl => ?_)
  refine rw_iinc (lv' := [(2, .int (iN 5)), (1, .int (iN ((((0 + (M (q + 1) 1)) + (M (q + 1) 2)) + (M (q + 1) 3)) + (M (q + 1) 4)))), (0, .ref (ad q))]) hx hb dX6_allResting_18 hl (k := 1) rfl (by decide) rfl (fun ls hl => ?_)
  refine lv_goto (tgt := 4) hx hb dX6_allResting_21 (by decide) ?_
  refine lv_iload_n hx hb dX6_allResting_4 rfl (lv_at hl 0 rfl) ?_
  refine rw_iconst hx hb dX6_allResting_5 ?_
  refine rw_icmp_gt (tgt := 24) hx hb dX6_allResting_6 (by decide) (by decide) (by decide) (fun _ => ?_) (fun c => absurd (by decide) c)
  refine lv_iload_n hx hb dX6_allResting_24 rfl (lv_at hl 1 rfl) ?_
  refine rw_iret hx hb hr hlocks hW dX6_allResting_25 (⟨(((0 + (M (q + 1) 1)) + (M (q + 1) 2)) + (M (q + 1) 3)) + (M (q + 1) 4), rfl, ?_⟩)
  exact ⟨by simp only [restS, sd_1, sd_2, sd_3, sd_4]; omega, rfl⟩
abbrev P_X6_allMen (q : Nat) (M : Mem) : Option Value → Mem → Prop := oI (fun zz MM => zz = sd M q 0 + restS (sd M q) ∧ MM = M)
set_option maxRecDepth 100000 in
set_option maxHeartbeats 4000000 in
theorem c_X6_allMen {l : Launch} {G : va_G} {ad : Nat → Nat} {CA : Nat → ClassId} {nt : Nat} {Ly : List LD} (hnt : 4 ≤ nt) (q : Nat) (hS : SAt Ly q) (M : Mem) : Mt l yX6_allMen cX6_allMen 1 (some .int) 1 22 G ad CA nt Ly [.ref (ad q)] M (P_X6_allMen q M) := by
  refine Mt.of (by decide) (Nat.le_of_ble_eq_true rfl) (fun p e s m args below meth c hx hb hr hml hts hown hlocks hnm hW ls hl => ?_)
  have hl : lv_has ls 1 [(0, .ref (ad q))] := hl
  have hnt4 : 4 ≤ nt := by omega
  obtain ⟨H, hH⟩ : ∃ z, z = s.heap := ⟨_, rfl⟩
  obtain ⟨locs, hlo⟩ : ∃ z : List Loc, z = [] := ⟨_, rfl⟩
  rw [← hH, ← hlo] at hW ⊢
  refine lv_aload_n hx hb dX6_allMen_0 rfl (lv_at hl 0 rfl) ?_
  refine rw_getI hx hb hts hown hW q hS.1 0 0 rfl rfl fX6_15 dX6_allMen_1 (v := (M q 0)) rfl ?_
  refine lv_aload_n hx hb dX6_allMen_4 rfl (lv_at hl 0 rfl) ?_
  refine rw_callV hx hb hml hts hown hW ⟨Nat.le_refl 0, Nat.le_refl 0⟩ [] q hS.1 rfl (c_X6_allResting (l := l) (G := G) (ad := ad) (CA := CA) (nt := nt) (by omega) q hS M) kX6_32 rfl ⟨Nat.le_of_ble_eq_true rfl, Nat.le_of_ble_eq_true rfl⟩ hl.1 rfl (Nat.le_of_ble_eq_true rfl) dX6_allMen_5 (fun v1 M2 H locs hp3 hW => ?_)
  obtain ⟨_, rfl, rfl, hp3⟩ := hp3
  rw [hp3] at hW
  refine rw_stk (st' := [.int (iN (restS (sd M q))), .int (iN (M q 0))]) rfl ?_
  refine rw_iadd hx hb dX6_allMen_8 ?_
  refine rw_iret hx hb hr hlocks hW dX6_allMen_9 (⟨(M q 0) + (restS (sd M q)), rfl, ?_⟩)
  exact ⟨by rw [sd_0], rfl⟩
abbrev P_X6_pushOf (q : Nat) (x : Int) (r : Int) (M : Mem) : Option Value → Mem → Prop := oI (fun zz MM => zz = pushS (sd M q) x r ∧ MM = M)
set_option maxRecDepth 100000 in
set_option maxHeartbeats 4000000 in
theorem c_X6_pushOf {l : Launch} {G : va_G} {ad : Nat → Nat} {CA : Nat → ClassId} {nt : Nat} {Ly : List LD} (q : Nat) (hS : SAt Ly q) (x : Int) (r : Int) (M : Mem) (hx1 : 0 ≤ x ∧ x ≤ 100) (hr1 : 0 ≤ r ∧ r ≤ 100) (hf : 0 ≤ M q 2 ∧ M q 2 ≤ 100) : Mt l yX6_pushOf cX6_pushOf 3 (some .int) 1 14 G ad CA nt Ly [.ref (ad q), .int (iN x), .int (iN r)] M (P_X6_pushOf q x r M) := by
  refine Mt.of (by decide) (Nat.le_of_ble_eq_true rfl) (fun p e s m args below meth c hx hb hr hml hts hown hlocks hnm hW ls hl => ?_)
  have hl : lv_has ls 3 [(0, .ref (ad q)), (1, .int (iN x)), (2, .int (iN r))] := hl
  obtain ⟨H, hH⟩ : ∃ z, z = s.heap := ⟨_, rfl⟩
  obtain ⟨locs, hlo⟩ : ∃ z : List Loc, z = [] := ⟨_, rfl⟩
  rw [← hH, ← hlo] at hW ⊢
  refine rw_iconst hx hb dX6_pushOf_0 ?_
  refine lv_iload_n hx hb dX6_pushOf_1 rfl (lv_at hl 1 rfl) ?_
  refine lv_iload_n hx hb dX6_pushOf_2 rfl (lv_at hl 2 rfl) ?_
  refine rw_min hx hb hml hl.1 hts hown (wm_27 _ (List.mem_of_getElem? (i := 14) rfl)) wmin_ok ⟨Nat.le_of_ble_eq_true rfl, Nat.le_of_ble_eq_true rfl⟩ ⟨Nat.le_refl 0, Nat.le_refl 0⟩ (by omega) (by omega) dX6_pushOf_3 ?_
  refine lv_aload_n hx hb dX6_pushOf_6 rfl (lv_at hl 0 rfl) ?_
  refine rw_getI hx hb hts hown hW q hS.1 2 2 rfl rfl fX6_19 dX6_pushOf_7 (v := (M q 2)) rfl ?_
  refine rw_isub hx hb dX6_pushOf_10 ?_
  refine rw_max hx hb hml hl.1 hts hown (wm_27 _ (List.mem_of_getElem? (i := 15) rfl)) wmax_ok ⟨Nat.le_of_ble_eq_true rfl, Nat.le_of_ble_eq_true rfl⟩ ⟨Nat.le_refl 0, Nat.le_refl 0⟩ (by decide) (by omega) dX6_pushOf_11 ?_
  refine rw_iret hx hb hr hlocks hW dX6_pushOf_14 (⟨max 0 ((min x r) - (M q 2)), rfl, ?_⟩)
  exact ⟨by rw [pushS, sd_5], rfl⟩
abbrev P_X6_answer (q : Nat) (w : Int) (M : Mem) : Option Value → Mem → Prop := oI (fun zz MM => zz = ansS (sd M q) w ∧ MM = M)
set_option maxRecDepth 100000 in
set_option maxHeartbeats 4000000 in
theorem c_X6_answer {l : Launch} {G : va_G} {ad : Nat → Nat} {CA : Nat → ClassId} {nt : Nat} {Ly : List LD} (hnt : 4 ≤ nt) (q : Nat) (hS : SAt Ly q) (w : Int) (hw : in32 w) (M : Mem) : Mt l yX6_answer cX6_answer 2 (some .int) 1 22 G ad CA nt Ly [.ref (ad q), .int (iN w)] M (P_X6_answer q w M) := by
  refine Mt.of (by decide) (Nat.le_of_ble_eq_true rfl) (fun p e s m args below meth c hx hb hr hml hts hown hlocks hnm hW ls hl => ?_)
  have hl : lv_has ls 2 [(0, .ref (ad q)), (1, .int (iN w))] := hl
  have hnt4 : 4 ≤ nt := by omega
  obtain ⟨H, hH⟩ : ∃ z, z = s.heap := ⟨_, rfl⟩
  obtain ⟨locs, hlo⟩ : ∃ z : List Loc, z = [] := ⟨_, rfl⟩
  rw [← hH, ← hlo] at hW ⊢
  refine lv_iload_n hx hb dX6_answer_0 rfl (lv_at hl 1 rfl) ?_
  refine rw_iconst hx hb dX6_answer_1 ?_
  refine rw_iconst hx hb dX6_answer_2 ?_
  refine rw_callN hx hb hml hts hown hW ⟨Nat.le_refl 0, Nat.le_refl 0⟩ [.int (iN w), .int (iN 1), .int (iN 4)] (c_X10_within (l := l) (G := G) (ad := ad) (CA := CA) (nt := nt) w 1 4 (by omega) (by omega) (by omega) M) kX6_28 rfl ⟨Nat.le_of_ble_eq_true rfl, Nat.le_of_ble_eq_true rfl⟩ hl.1 rfl (Nat.le_of_ble_eq_true rfl) dX6_answer_3 (fun v1 M2 H locs hp3 hW => ?_)
  obtain ⟨a4, rfl, hp3, hp3m⟩ := hp3
  rw [hp3m] at hW
  rcases hp3 with ⟨rfl, hp3⟩ | ⟨rfl, hp3⟩
  · refine rw_stk (st' := [.int (iN 1)]) rfl ?_
    refine rw_if_eq (tgt := 16) hx hb dX6_answer_6 (by decide) (by decide) (fun c => absurd c (by decide)) (fun _ => ?_)
    refine lv_aload_n hx hb dX6_answer_9 rfl (lv_at hl 0 rfl) ?_
    refine rw_getR hx hb hts hown hW q hS.1 1 (q + 1) rfl fX6_9 dX6_answer_10 ?_
    refine lv_iload_n hx hb dX6_answer_13 rfl (lv_at hl 1 rfl) ?_
    refine rw_iald hx hb hW hnt4 (q + 1) hS.2 (by omega) (by omega) (by decide) dX6_answer_14 (v := (M (q + 1) w)) rfl ?_
    refine rw_iret hx hb hr hlocks hW dX6_answer_15 (⟨(M (q + 1) w), rfl, ?_⟩)
    exact ⟨by rw [ansS_r _ _ (by omega)], rfl⟩
  · refine rw_stk (st' := [.int (iN 0)]) rfl ?_
    refine rw_if_eq (tgt := 16) hx hb dX6_answer_6 (by decide) (by decide) (fun _ => ?_) (fun c => absurd (by decide) c)
    refine lv_iload_n hx hb dX6_answer_16 rfl (lv_at hl 1 rfl) ?_
    rcases (show (w < 0 ∨ 7 < w) ∨ w = 0 ∨ w = 1 ∨ w = 2 ∨ w = 3 ∨ w = 4 ∨ w = 5 ∨ w = 6 ∨ w = 7 by omega) with c_17 | c_17 | c_17 | c_17 | c_17 | c_17 | c_17 | c_17 | c_17
    · refine rw_tswD (tgt := 84) hx hb dX6_answer_17 (by omega) c_17 (by decide) ?_
      refine rw_iconst hx hb dX6_answer_84 ?_
      refine rw_iret hx hb hr hlocks hW dX6_answer_85 (⟨(-1), rfl, ?_⟩)
      exact ⟨by rw [ansS_o _ (by omega)], rfl⟩
    · refine rw_tswK (tgt := 64) hx hb dX6_answer_17 (by omega) 0 (by omega) rfl (by decide) ?_
      refine lv_aload_n hx hb dX6_answer_64 rfl (lv_at hl 0 rfl) ?_
      refine rw_getI hx hb hts hown hW q hS.1 0 0 rfl rfl fX6_15 dX6_answer_65 (v := (M q 0)) rfl ?_
      refine rw_iret hx hb hr hlocks hW dX6_answer_68 (⟨(M q 0), rfl, ?_⟩)
      exact ⟨by rw [c_17, ansS_k _ (by decide)]; rfl, rfl⟩
    · refine rw_tswK (tgt := 84) hx hb dX6_answer_17 (by omega) 1 (by omega) rfl (by decide) ?_
      refine rw_iconst hx hb dX6_answer_84 ?_
      refine rw_iret hx hb hr hlocks hW dX6_answer_85 (⟨(-1), rfl, ?_⟩)
      exact ⟨by rw [ansS_o _ (by omega)], rfl⟩
    · refine rw_tswK (tgt := 84) hx hb dX6_answer_17 (by omega) 2 (by omega) rfl (by decide) ?_
      refine rw_iconst hx hb dX6_answer_84 ?_
      refine rw_iret hx hb hr hlocks hW dX6_answer_85 (⟨(-1), rfl, ?_⟩)
      exact ⟨by rw [ansS_o _ (by omega)], rfl⟩
    · refine rw_tswK (tgt := 84) hx hb dX6_answer_17 (by omega) 3 (by omega) rfl (by decide) ?_
      refine rw_iconst hx hb dX6_answer_84 ?_
      refine rw_iret hx hb hr hlocks hW dX6_answer_85 (⟨(-1), rfl, ?_⟩)
      exact ⟨by rw [ansS_o _ (by omega)], rfl⟩
    · refine rw_tswK (tgt := 84) hx hb dX6_answer_17 (by omega) 4 (by omega) rfl (by decide) ?_
      refine rw_iconst hx hb dX6_answer_84 ?_
      refine rw_iret hx hb hr hlocks hW dX6_answer_85 (⟨(-1), rfl, ?_⟩)
      exact ⟨by rw [ansS_o _ (by omega)], rfl⟩
    · refine rw_tswK (tgt := 69) hx hb dX6_answer_17 (by omega) 5 (by omega) rfl (by decide) ?_
      refine lv_aload_n hx hb dX6_answer_69 rfl (lv_at hl 0 rfl) ?_
      refine rw_getI hx hb hts hown hW q hS.1 2 2 rfl rfl fX6_19 dX6_answer_70 (v := (M q 2)) rfl ?_
      refine rw_iret hx hb hr hlocks hW dX6_answer_73 (⟨(M q 2), rfl, ?_⟩)
      exact ⟨by rw [c_17, ansS_k _ (by decide)]; rfl, rfl⟩
    · refine rw_tswK (tgt := 74) hx hb dX6_answer_17 (by omega) 6 (by omega) rfl (by decide) ?_
      refine lv_aload_n hx hb dX6_answer_74 rfl (lv_at hl 0 rfl) ?_
      refine rw_getI hx hb hts hown hW q hS.1 3 3 rfl rfl fX6_22 dX6_answer_75 (v := (M q 3)) rfl ?_
      refine rw_iret hx hb hr hlocks hW dX6_answer_78 (⟨(M q 3), rfl, ?_⟩)
      exact ⟨by rw [c_17, ansS_k _ (by decide)]; rfl, rfl⟩
    · refine rw_tswK (tgt := 79) hx hb dX6_answer_17 (by omega) 7 (by omega) rfl (by decide) ?_
      refine lv_aload_n hx hb dX6_answer_79 rfl (lv_at hl 0 rfl) ?_
      refine rw_getI hx hb hts hown hW q hS.1 4 4 rfl rfl fX6_25 dX6_answer_80 (v := (M q 4)) rfl ?_
      refine rw_iret hx hb hr hlocks hW dX6_answer_83 (⟨(M q 4), rfl, ?_⟩)
      exact ⟨by rw [c_17, ansS_k _ (by decide)]; rfl, rfl⟩
abbrev P_X6_clear (q : Nat) (M : Mem) : Option Value → Mem → Prop := oV (fun MM => sd MM q = (fun _ => 0) ∧ Same M MM q 2)
set_option maxRecDepth 100000 in
set_option maxHeartbeats 4000000 in
theorem c_X6_clear {l : Launch} {G : va_G} {ad : Nat → Nat} {CA : Nat → ClassId} {nt : Nat} {Ly : List LD} (hnt : 4 ≤ nt) (q : Nat) (hS : SAt Ly q) (M : Mem) : Mt l yX6_clear cX6_clear 2 none 0 0 G ad CA nt Ly [.ref (ad q)] M (P_X6_clear q M) := by
  refine Mt.of (by decide) (Nat.le_of_ble_eq_true rfl) (fun p e s m args below meth c hx hb hr hml hts hown hlocks hnm hW ls hl => ?_)
  have hl : lv_has ls 2 [(0, .ref (ad q))] := hl
  have hnt4 : 4 ≤ nt := by omega
  obtain ⟨H, hH⟩ : ∃ z, z = s.heap := ⟨_, rfl⟩
  obtain ⟨locs, hlo⟩ : ∃ z : List Loc, z = [] := ⟨_, rfl⟩
  rw [← hH, ← hlo] at hW ⊢
  refine lv_aload_n hx hb dX6_clear_0 rfl (lv_at hl 0 rfl) ?_
  refine rw_iconst hx hb dX6_clear_1 ?_
  refine rw_putI hx hb hts hown hW q hS.1 0 0 rfl rfl qX6_15 (v := 0) dX6_clear_2 (fun H locs hW => ?_)
  obtain ⟨M1, hM1⟩ : ∃ z, z = upd2 M q 0 0 := ⟨_, rfl⟩
  rw [← hM1] at hW
  refine rw_iconst hx hb dX6_clear_5 ?_
  refine lv_istore_n (lv' := [(1, .int (iN 0)), (0, .ref (ad q))]) hx hb dX6_clear_6 rfl hl (by decide) rfl (fun ls hl => ?_)
  refine lv_iload_n hx hb dX6_clear_7 rfl (lv_at hl 0 rfl) ?_
  refine rw_iconst hx hb dX6_clear_8 ?_
  refine rw_icmp_gt (tgt := 25) hx hb dX6_clear_9 (by decide) (by decide) (by decide) (fun c => absurd c (by decide)) (fun _ => ?_)
  refine lv_aload_n hx hb dX6_clear_12 rfl (lv_at hl 1 rfl) ?_
  refine rw_getR hx hb hts hown hW q hS.1 1 (q + 1) rfl fX6_9 dX6_clear_13 ?_
  refine lv_iload_n hx hb dX6_clear_16 rfl (lv_at hl 0 rfl) ?_
  refine rw_iconst hx hb dX6_clear_17 ?_
  refine rw_iast hx hb hW hnt4 (q + 1) hS.2 (v := 0) (by omega) (by omega) (by decide) dX6_clear_18 (fun H locs hW => ?_)
  obtain ⟨M2, hM2⟩ : ∃ z, z = upd2 M1 (q + 1) 0 0 := ⟨_, rfl⟩
  rw [← hM2] at hW
  refine rw_iinc (lv' := [(1, .int (iN 1)), (0, .ref (ad q))]) hx hb dX6_clear_19 hl (k := 0) rfl (by decide) rfl (fun ls hl => ?_)
  refine lv_goto (tgt := 7) hx hb dX6_clear_22 (by decide) ?_
  refine lv_iload_n hx hb dX6_clear_7 rfl (lv_at hl 0 rfl) ?_
  refine rw_iconst hx hb dX6_clear_8 ?_
  refine rw_icmp_gt (tgt := 25) hx hb dX6_clear_9 (by decide) (by decide) (by decide) (fun c => absurd c (by decide)) (fun _ => ?_)
  refine lv_aload_n hx hb dX6_clear_12 rfl (lv_at hl 1 rfl) ?_
  refine rw_getR hx hb hts hown hW q hS.1 1 (q + 1) rfl fX6_9 dX6_clear_13 ?_
  refine lv_iload_n hx hb dX6_clear_16 rfl (lv_at hl 0 rfl) ?_
  refine rw_iconst hx hb dX6_clear_17 ?_
  refine rw_iast hx hb hW hnt4 (q + 1) hS.2 (v := 0) (by omega) (by omega) (by decide) dX6_clear_18 (fun H locs hW => ?_)
  obtain ⟨M3, hM3⟩ : ∃ z, z = upd2 M2 (q + 1) 1 0 := ⟨_, rfl⟩
  rw [← hM3] at hW
  refine rw_iinc (lv' := [(1, .int (iN 2)), (0, .ref (ad q))]) hx hb dX6_clear_19 hl (k := 0) rfl (by decide) rfl (fun ls hl => ?_)
  refine lv_goto (tgt := 7) hx hb dX6_clear_22 (by decide) ?_
  refine lv_iload_n hx hb dX6_clear_7 rfl (lv_at hl 0 rfl) ?_
  refine rw_iconst hx hb dX6_clear_8 ?_
  refine rw_icmp_gt (tgt := 25) hx hb dX6_clear_9 (by decide) (by decide) (by decide) (fun c => absurd c (by decide)) (fun _ => ?_)
  refine lv_aload_n hx hb dX6_clear_12 rfl (lv_at hl 1 rfl) ?_
  refine rw_getR hx hb hts hown hW q hS.1 1 (q + 1) rfl fX6_9 dX6_clear_13 ?_
  refine lv_iload_n hx hb dX6_clear_16 rfl (lv_at hl 0 rfl) ?_
  refine rw_iconst hx hb dX6_clear_17 ?_
  refine rw_iast hx hb hW hnt4 (q + 1) hS.2 (v := 0) (by omega) (by omega) (by decide) dX6_clear_18 (fun H locs hW => ?_)
  obtain ⟨M4, hM4⟩ : ∃ z, z = upd2 M3 (q + 1) 2 0 := ⟨_, rfl⟩
  rw [← hM4] at hW
  refine rw_iinc (lv' := [(1, .int (iN 3)), (0, .ref (ad q))]) hx hb dX6_clear_19 hl (k := 0) rfl (by decide) rfl (fun ls hl => ?_)
  refine lv_goto (tgt := 7) hx hb dX6_clear_22 (by decide) ?_
  refine lv_iload_n hx hb dX6_clear_7 rfl (lv_at hl 0 rfl) ?_
  refine rw_iconst hx hb dX6_clear_8 ?_
  refine rw_icmp_gt (tgt := 25) hx hb dX6_clear_9 (by decide) (by decide) (by decide) (fun c => absurd c (by decide)) (fun _ => ?_)
  refine lv_aload_n hx hb dX6_clear_12 rfl (lv_at hl 1 rfl) ?_
  refine rw_getR hx hb hts hown hW q hS.1 1 (q + 1) rfl fX6_9 dX6_clear_13 ?_
  refine lv_iload_n hx hb dX6_clear_16 rfl (lv_at hl 0 rfl) ?_
  refine rw_iconst hx hb dX6_clear_17 ?_
  refine rw_iast hx hb hW hnt4 (q + 1) hS.2 (v := 0) (by omega) (by omega) (by decide) dX6_clear_18 (fun H locs hW => ?_)
  obtain ⟨M5, hM5⟩ : ∃ z, z = upd2 M4 (q + 1) 3 0 := ⟨_, rfl⟩
  rw [← hM5] at hW
  refine rw_iinc (lv' := [(1, .int (iN 4)), (0, .ref (ad q))]) hx hb dX6_clear_19 hl (k := 0) rfl (by decide) rfl (fun ls hl => ?_)
  refine lv_goto (tgt := 7) hx hb dX6_clear_22 (by decide) ?_
  refine lv_iload_n hx hb dX6_clear_7 rfl (lv_at hl 0 rfl) ?_
  refine rw_iconst hx hb dX6_clear_8 ?_
  refine rw_icmp_gt (tgt := 25) hx hb dX6_clear_9 (by decide) (by decide) (by decide) (fun c => absurd c (by decide)) (fun _ => ?_)
  refine lv_aload_n hx hb dX6_clear_12 rfl (lv_at hl 1 rfl) ?_
  refine rw_getR hx hb hts hown hW q hS.1 1 (q + 1) rfl fX6_9 dX6_clear_13 ?_
  refine lv_iload_n hx hb dX6_clear_16 rfl (lv_at hl 0 rfl) ?_
  refine rw_iconst hx hb dX6_clear_17 ?_
  refine rw_iast hx hb hW hnt4 (q + 1) hS.2 (v := 0) (by omega) (by omega) (by decide) dX6_clear_18 (fun H locs hW => ?_)
  obtain ⟨M6, hM6⟩ : ∃ z, z = upd2 M5 (q + 1) 4 0 := ⟨_, rfl⟩
  rw [← hM6] at hW
  refine rw_iinc (lv' := [(1, .int (iN 5)), (0, .ref (ad q))]) hx hb dX6_clear_19 hl (k := 0) rfl (by decide) rfl (fun ls hl => ?_)
  refine lv_goto (tgt := 7) hx hb dX6_clear_22 (by decide) ?_
  refine lv_iload_n hx hb dX6_clear_7 rfl (lv_at hl 0 rfl) ?_
  refine rw_iconst hx hb dX6_clear_8 ?_
  refine rw_icmp_gt (tgt := 25) hx hb dX6_clear_9 (by decide) (by decide) (by decide) (fun _ => ?_) (fun c => absurd (by decide) c)
  refine lv_aload_n hx hb dX6_clear_25 rfl (lv_at hl 1 rfl) ?_
  refine rw_iconst hx hb dX6_clear_26 ?_
  refine rw_putI hx hb hts hown hW q hS.1 2 2 rfl rfl qX6_19 (v := 0) dX6_clear_27 (fun H locs hW => ?_)
  obtain ⟨M7, hM7⟩ : ∃ z, z = upd2 M6 q 2 0 := ⟨_, rfl⟩
  rw [← hM7] at hW
  refine lv_aload_n hx hb dX6_clear_30 rfl (lv_at hl 1 rfl) ?_
  refine rw_iconst hx hb dX6_clear_31 ?_
  refine rw_putI hx hb hts hown hW q hS.1 3 3 rfl rfl qX6_22 (v := 0) dX6_clear_32 (fun H locs hW => ?_)
  obtain ⟨M8, hM8⟩ : ∃ z, z = upd2 M7 q 3 0 := ⟨_, rfl⟩
  rw [← hM8] at hW
  refine lv_aload_n hx hb dX6_clear_35 rfl (lv_at hl 1 rfl) ?_
  refine rw_iconst hx hb dX6_clear_36 ?_
  refine rw_putI hx hb hts hown hW q hS.1 4 4 rfl rfl qX6_25 (v := 0) dX6_clear_37 (fun H locs hW => ?_)
  obtain ⟨M9, hM9⟩ : ∃ z, z = upd2 M8 q 4 0 := ⟨_, rfl⟩
  rw [← hM9] at hW
  refine rw_vret hx hb hr hlocks hW dX6_clear_40 (⟨rfl, ?_⟩)
  refine ⟨?_, ?_⟩
  · apply sd_ext <;> first | (intro j hj; rfl) | simp [hM1, hM2, hM3, hM4, hM5, hM6, hM7, hM8, hM9, upd2_at]
  · intro k hk; simp only [hM1, hM2, hM3, hM4, hM5, hM6, hM7, hM8, hM9]; simp [upd2_at, show k ≠ q by omega, show k ≠ q + 1 by omega, upd2_ne1]
abbrev P_X6_copyOf (q : Nat) (q2 : Nat) (M : Mem) : Option Value → Mem → Prop := oV (fun MM => sd MM q = sd M q2 ∧ Same M MM q 2)
set_option maxRecDepth 100000 in
set_option maxHeartbeats 4000000 in
theorem c_X6_copyOf {l : Launch} {G : va_G} {ad : Nat → Nat} {CA : Nat → ClassId} {nt : Nat} {Ly : List LD} (hnt : 4 ≤ nt) (q : Nat) (hS : SAt Ly q) (q2 : Nat) (hS2 : SAt Ly q2) (hd : q2 + 2 ≤ q ∨ q + 2 ≤ q2) (M : Mem) : Mt l yX6_copyOf cX6_copyOf 3 none 0 0 G ad CA nt Ly [.ref (ad q), .ref (ad q2)] M (P_X6_copyOf q q2 M) := by
  refine Mt.of (by decide) (Nat.le_of_ble_eq_true rfl) (fun p e s m args below meth c hx hb hr hml hts hown hlocks hnm hW ls hl => ?_)
  have hl : lv_has ls 3 [(0, .ref (ad q)), (1, .ref (ad q2))] := hl
  have hnt4 : 4 ≤ nt := by omega
  obtain ⟨H, hH⟩ : ∃ z, z = s.heap := ⟨_, rfl⟩
  obtain ⟨locs, hlo⟩ : ∃ z : List Loc, z = [] := ⟨_, rfl⟩
  rw [← hH, ← hlo] at hW ⊢
  refine lv_aload_n hx hb dX6_copyOf_0 rfl (lv_at hl 0 rfl) ?_
  refine lv_aload_n hx hb dX6_copyOf_1 rfl (lv_at hl 1 rfl) ?_
  refine rw_getI hx hb hts hown hW q2 hS2.1 0 0 rfl rfl fX6_15 dX6_copyOf_2 (v := (M q2 0)) rfl ?_
  refine rw_putI hx hb hts hown hW q hS.1 0 0 rfl rfl qX6_15 (v := (M q2 0)) dX6_copyOf_5 (fun H locs hW => ?_)
  obtain ⟨M1, hM1⟩ : ∃ z, z = upd2 M q 0 (M q2 0) := ⟨_, rfl⟩
  rw [← hM1] at hW
  refine rw_iconst hx hb dX6_copyOf_8 ?_
  refine lv_istore_n (lv' := [(2, .int (iN 0)), (0, .ref (ad q)), (1, .ref (ad q2))]) hx hb dX6_copyOf_9 rfl hl (by decide) rfl (fun ls hl => ?_)
  refine lv_iload_n hx hb dX6_copyOf_10 rfl (lv_at hl 0 rfl) ?_
  refine rw_iconst hx hb dX6_copyOf_11 ?_
  refine rw_icmp_gt (tgt := 33) hx hb dX6_copyOf_12 (by decide) (by decide) (by decide) (fun c => absurd c (by decide)) (fun _ => ?_)
  refine lv_aload_n hx hb dX6_copyOf_15 rfl (lv_at hl 1 rfl) ?_
  refine rw_getR hx hb hts hown hW q hS.1 1 (q + 1) rfl fX6_9 dX6_copyOf_16 ?_
  refine lv_iload_n hx hb dX6_copyOf_19 rfl (lv_at hl 0 rfl) ?_
  refine lv_aload_n hx hb dX6_copyOf_20 rfl (lv_at hl 2 rfl) ?_
  refine rw_getR hx hb hts hown hW q2 hS2.1 1 (q2 + 1) rfl fX6_9 dX6_copyOf_21 ?_
  refine lv_iload_n hx hb dX6_copyOf_24 rfl (lv_at hl 0 rfl) ?_
  refine rw_iald hx hb hW hnt4 (q2 + 1) hS2.2 (by omega) (by omega) (by decide) dX6_copyOf_25 (v := (M1 (q2 + 1) 0)) rfl ?_
  refine rw_iast hx hb hW hnt4 (q + 1) hS.2 (v := (M1 (q2 + 1) 0)) (by omega) (by omega) (by decide) dX6_copyOf_26 (fun H locs hW => ?_)
  obtain ⟨M2, hM2⟩ : ∃ z, z = upd2 M1 (q + 1) 0 (M1 (q2 + 1) 0) := ⟨_, rfl⟩
  rw [← hM2] at hW
  refine rw_iinc (lv' := [(2, .int (iN 1)), (0, .ref (ad q)), (1, .ref (ad q2))]) hx hb dX6_copyOf_27 hl (k := 0) rfl (by decide) rfl (fun ls hl => ?_)
  refine lv_goto (tgt := 10) hx hb dX6_copyOf_30 (by decide) ?_
  refine lv_iload_n hx hb dX6_copyOf_10 rfl (lv_at hl 0 rfl) ?_
  refine rw_iconst hx hb dX6_copyOf_11 ?_
  refine rw_icmp_gt (tgt := 33) hx hb dX6_copyOf_12 (by decide) (by decide) (by decide) (fun c => absurd c (by decide)) (fun _ => ?_)
  refine lv_aload_n hx hb dX6_copyOf_15 rfl (lv_at hl 1 rfl) ?_
  refine rw_getR hx hb hts hown hW q hS.1 1 (q + 1) rfl fX6_9 dX6_copyOf_16 ?_
  refine lv_iload_n hx hb dX6_copyOf_19 rfl (lv_at hl 0 rfl) ?_
  refine lv_aload_n hx hb dX6_copyOf_20 rfl (lv_at hl 2 rfl) ?_
  refine rw_getR hx hb hts hown hW q2 hS2.1 1 (q2 + 1) rfl fX6_9 dX6_copyOf_21 ?_
  refine lv_iload_n hx hb dX6_copyOf_24 rfl (lv_at hl 0 rfl) ?_
  refine rw_iald hx hb hW hnt4 (q2 + 1) hS2.2 (by omega) (by omega) (by decide) dX6_copyOf_25 (v := (M2 (q2 + 1) 1)) rfl ?_
  refine rw_iast hx hb hW hnt4 (q + 1) hS.2 (v := (M2 (q2 + 1) 1)) (by omega) (by omega) (by decide) dX6_copyOf_26 (fun H locs hW => ?_)
  obtain ⟨M3, hM3⟩ : ∃ z, z = upd2 M2 (q + 1) 1 (M2 (q2 + 1) 1) := ⟨_, rfl⟩
  rw [← hM3] at hW
  refine rw_iinc (lv' := [(2, .int (iN 2)), (0, .ref (ad q)), (1, .ref (ad q2))]) hx hb dX6_copyOf_27 hl (k := 0) rfl (by decide) rfl (fun ls hl => ?_)
  refine lv_goto (tgt := 10) hx hb dX6_copyOf_30 (by decide) ?_
  refine lv_iload_n hx hb dX6_copyOf_10 rfl (lv_at hl 0 rfl) ?_
  refine rw_iconst hx hb dX6_copyOf_11 ?_
  refine rw_icmp_gt (tgt := 33) hx hb dX6_copyOf_12 (by decide) (by decide) (by decide) (fun c => absurd c (by decide)) (fun _ => ?_)
  refine lv_aload_n hx hb dX6_copyOf_15 rfl (lv_at hl 1 rfl) ?_
  refine rw_getR hx hb hts hown hW q hS.1 1 (q + 1) rfl fX6_9 dX6_copyOf_16 ?_
  refine lv_iload_n hx hb dX6_copyOf_19 rfl (lv_at hl 0 rfl) ?_
  refine lv_aload_n hx hb dX6_copyOf_20 rfl (lv_at hl 2 rfl) ?_
  refine rw_getR hx hb hts hown hW q2 hS2.1 1 (q2 + 1) rfl fX6_9 dX6_copyOf_21 ?_
  refine lv_iload_n hx hb dX6_copyOf_24 rfl (lv_at hl 0 rfl) ?_
  refine rw_iald hx hb hW hnt4 (q2 + 1) hS2.2 (by omega) (by omega) (by decide) dX6_copyOf_25 (v := (M3 (q2 + 1) 2)) rfl ?_
  refine rw_iast hx hb hW hnt4 (q + 1) hS.2 (v := (M3 (q2 + 1) 2)) (by omega) (by omega) (by decide) dX6_copyOf_26 (fun H locs hW => ?_)
  obtain ⟨M4, hM4⟩ : ∃ z, z = upd2 M3 (q + 1) 2 (M3 (q2 + 1) 2) := ⟨_, rfl⟩
  rw [← hM4] at hW
  refine rw_iinc (lv' := [(2, .int (iN 3)), (0, .ref (ad q)), (1, .ref (ad q2))]) hx hb dX6_copyOf_27 hl (k := 0) rfl (by decide) rfl (fun ls hl => ?_)
  refine lv_goto (tgt := 10) hx hb dX6_copyOf_30 (by decide) ?_
  refine lv_iload_n hx hb dX6_copyOf_10 rfl (lv_at hl 0 rfl) ?_
  refine rw_iconst hx hb dX6_copyOf_11 ?_
  refine rw_icmp_gt (tgt := 33) hx hb dX6_copyOf_12 (by decide) (by decide) (by decide) (fun c => absurd c (by decide)) (fun _ => ?_)
  refine lv_aload_n hx hb dX6_copyOf_15 rfl (lv_at hl 1 rfl) ?_
  refine rw_getR hx hb hts hown hW q hS.1 1 (q + 1) rfl fX6_9 dX6_copyOf_16 ?_
  refine lv_iload_n hx hb dX6_copyOf_19 rfl (lv_at hl 0 rfl) ?_
  refine lv_aload_n hx hb dX6_copyOf_20 rfl (lv_at hl 2 rfl) ?_
  refine rw_getR hx hb hts hown hW q2 hS2.1 1 (q2 + 1) rfl fX6_9 dX6_copyOf_21 ?_
  refine lv_iload_n hx hb dX6_copyOf_24 rfl (lv_at hl 0 rfl) ?_
  refine rw_iald hx hb hW hnt4 (q2 + 1) hS2.2 (by omega) (by omega) (by decide) dX6_copyOf_25 (v := (M4 (q2 + 1) 3)) rfl ?_
  refine rw_iast hx hb hW hnt4 (q + 1) hS.2 (v := (M4 (q2 + 1) 3)) (by omega) (by omega) (by decide) dX6_copyOf_26 (fun H locs hW => ?_)
  obtain ⟨M5, hM5⟩ : ∃ z, z = upd2 M4 (q + 1) 3 (M4 (q2 + 1) 3) := ⟨_, rfl⟩
  rw [← hM5] at hW
  refine rw_iinc (lv' := [(2, .int (iN 4)), (0, .ref (ad q)), (1, .ref (ad q2))]) hx hb dX6_copyOf_27 hl (k := 0) rfl (by decide) rfl (fun ls hl => ?_)
  refine lv_goto (tgt := 10) hx hb dX6_copyOf_30 (by decide) ?_
  refine lv_iload_n hx hb dX6_copyOf_10 rfl (lv_at hl 0 rfl) ?_
  refine rw_iconst hx hb dX6_copyOf_11 ?_
  refine rw_icmp_gt (tgt := 33) hx hb dX6_copyOf_12 (by decide) (by decide) (by decide) (fun c => absurd c (by decide)) (fun _ => ?_)
  refine lv_aload_n hx hb dX6_copyOf_15 rfl (lv_at hl 1 rfl) ?_
  refine rw_getR hx hb hts hown hW q hS.1 1 (q + 1) rfl fX6_9 dX6_copyOf_16 ?_
  refine lv_iload_n hx hb dX6_copyOf_19 rfl (lv_at hl 0 rfl) ?_
  refine lv_aload_n hx hb dX6_copyOf_20 rfl (lv_at hl 2 rfl) ?_
  refine rw_getR hx hb hts hown hW q2 hS2.1 1 (q2 + 1) rfl fX6_9 dX6_copyOf_21 ?_
  refine lv_iload_n hx hb dX6_copyOf_24 rfl (lv_at hl 0 rfl) ?_
  refine rw_iald hx hb hW hnt4 (q2 + 1) hS2.2 (by omega) (by omega) (by decide) dX6_copyOf_25 (v := (M5 (q2 + 1) 4)) rfl ?_
  refine rw_iast hx hb hW hnt4 (q + 1) hS.2 (v := (M5 (q2 + 1) 4)) (by omega) (by omega) (by decide) dX6_copyOf_26 (fun H locs hW => ?_)
  obtain ⟨M6, hM6⟩ : ∃ z, z = upd2 M5 (q + 1) 4 (M5 (q2 + 1) 4) := ⟨_, rfl⟩
  rw [← hM6] at hW
  refine rw_iinc (lv' := [(2, .int (iN 5)), (0, .ref (ad q)), (1, .ref (ad q2))]) hx hb dX6_copyOf_27 hl (k := 0) rfl (by decide) rfl (fun ls hl => ?_)
  refine lv_goto (tgt := 10) hx hb dX6_copyOf_30 (by decide) ?_
  refine lv_iload_n hx hb dX6_copyOf_10 rfl (lv_at hl 0 rfl) ?_
  refine rw_iconst hx hb dX6_copyOf_11 ?_
  refine rw_icmp_gt (tgt := 33) hx hb dX6_copyOf_12 (by decide) (by decide) (by decide) (fun _ => ?_) (fun c => absurd (by decide) c)
  refine lv_aload_n hx hb dX6_copyOf_33 rfl (lv_at hl 1 rfl) ?_
  refine lv_aload_n hx hb dX6_copyOf_34 rfl (lv_at hl 2 rfl) ?_
  refine rw_getI hx hb hts hown hW q2 hS2.1 2 2 rfl rfl fX6_19 dX6_copyOf_35 (v := (M6 q2 2)) rfl ?_
  refine rw_putI hx hb hts hown hW q hS.1 2 2 rfl rfl qX6_19 (v := (M6 q2 2)) dX6_copyOf_38 (fun H locs hW => ?_)
  obtain ⟨M7, hM7⟩ : ∃ z, z = upd2 M6 q 2 (M6 q2 2) := ⟨_, rfl⟩
  rw [← hM7] at hW
  refine lv_aload_n hx hb dX6_copyOf_41 rfl (lv_at hl 1 rfl) ?_
  refine lv_aload_n hx hb dX6_copyOf_42 rfl (lv_at hl 2 rfl) ?_
  refine rw_getI hx hb hts hown hW q2 hS2.1 3 3 rfl rfl fX6_22 dX6_copyOf_43 (v := (M7 q2 3)) rfl ?_
  refine rw_putI hx hb hts hown hW q hS.1 3 3 rfl rfl qX6_22 (v := (M7 q2 3)) dX6_copyOf_46 (fun H locs hW => ?_)
  obtain ⟨M8, hM8⟩ : ∃ z, z = upd2 M7 q 3 (M7 q2 3) := ⟨_, rfl⟩
  rw [← hM8] at hW
  refine lv_aload_n hx hb dX6_copyOf_49 rfl (lv_at hl 1 rfl) ?_
  refine lv_aload_n hx hb dX6_copyOf_50 rfl (lv_at hl 2 rfl) ?_
  refine rw_getI hx hb hts hown hW q2 hS2.1 4 4 rfl rfl fX6_25 dX6_copyOf_51 (v := (M8 q2 4)) rfl ?_
  refine rw_putI hx hb hts hown hW q hS.1 4 4 rfl rfl qX6_25 (v := (M8 q2 4)) dX6_copyOf_54 (fun H locs hW => ?_)
  obtain ⟨M9, hM9⟩ : ∃ z, z = upd2 M8 q 4 (M8 q2 4) := ⟨_, rfl⟩
  rw [← hM9] at hW
  refine rw_vret hx hb hr hlocks hW dX6_copyOf_57 (⟨rfl, ?_⟩)
  refine ⟨?_, ?_⟩
  · apply sd_ext <;> first | (intro j hj; exact sd_out _ _ hj) | simp [hM1, hM2, hM3, hM4, hM5, hM6, hM7, hM8, hM9, upd2_at, sd_0, sd_1, sd_2, sd_3, sd_4, sd_5, sd_6, sd_7, show q2 ≠ q by omega, show q2 + 1 ≠ q by omega, show q2 ≠ q + 1 by omega]
  · intro k hk; simp only [hM1, hM2, hM3, hM4, hM5, hM6, hM7, hM8, hM9]; simp [upd2_at, show k ≠ q by omega, show k ≠ q + 1 by omega, upd2_ne1]
abbrev P_X6_tire (q : Nat) (x : Int) (r : Int) (M : Mem) : Option Value → Mem → Prop := oV (fun MM => sd MM q = tireS (sd M q) x r ∧ Same M MM q 2)
set_option maxRecDepth 100000 in
set_option maxHeartbeats 4000000 in
theorem c_X6_tire {l : Launch} {G : va_G} {ad : Nat → Nat} {CA : Nat → ClassId} {nt : Nat} {Ly : List LD} (hnt : 4 ≤ nt) (q : Nat) (hS : SAt Ly q) (x : Int) (r : Int) (hr1 : 1 ≤ r ∧ r ≤ 4) (M : Mem) : Mt l yX6_tire cX6_tire 4 none 1 22 G ad CA nt Ly [.ref (ad q), .int (iN x), .int (iN r)] M (P_X6_tire q x r M) := by
  refine Mt.of (by decide) (Nat.le_of_ble_eq_true rfl) (fun p e s m args below meth c hx hb hr hml hts hown hlocks hnm hW ls hl => ?_)
  have hl : lv_has ls 4 [(0, .ref (ad q)), (1, .int (iN x)), (2, .int (iN r))] := hl
  have hnt4 : 4 ≤ nt := by omega
  obtain ⟨H, hH⟩ : ∃ z, z = s.heap := ⟨_, rfl⟩
  obtain ⟨locs, hlo⟩ : ∃ z : List Loc, z = [] := ⟨_, rfl⟩
  rw [← hH, ← hlo] at hW ⊢
  refine lv_aload_n hx hb dX6_tire_0 rfl (lv_at hl 0 rfl) ?_
  refine lv_dup hx hb dX6_tire_1 rfl ?_
  refine rw_getI hx hb hts hown hW q hS.1 0 0 rfl rfl fX6_15 dX6_tire_2 (v := (M q 0)) rfl ?_
  refine lv_aload_n hx hb dX6_tire_5 rfl (lv_at hl 0 rfl) ?_
  refine rw_getR hx hb hts hown hW q hS.1 1 (q + 1) rfl fX6_9 dX6_tire_6 ?_
  refine rw_iconst hx hb dX6_tire_9 ?_
  refine rw_iald hx hb hW hnt4 (q + 1) hS.2 (by omega) (by omega) (by decide) dX6_tire_10 (v := (M (q + 1) 1)) rfl ?_
  refine lv_iload_n hx hb dX6_tire_11 rfl (lv_at hl 1 rfl) ?_
  refine rw_isub hx hb dX6_tire_12 ?_
  refine rw_iadd hx hb dX6_tire_13 ?_
  refine rw_putI hx hb hts hown hW q hS.1 0 0 rfl rfl qX6_15 (v := (M q 0) + ((M (q + 1) 1) - x)) dX6_tire_14 (fun H locs hW => ?_)
  obtain ⟨M1, hM1⟩ : ∃ z, z = upd2 M q 0 ((M q 0) + ((M (q + 1) 1) - x)) := ⟨_, rfl⟩
  rw [← hM1] at hW
  refine rw_iconst hx hb dX6_tire_17 ?_
  refine lv_istore_n (lv' := [(3, .int (iN 1)), (0, .ref (ad q)), (1, .int (iN x)), (2, .int (iN r))]) hx hb dX6_tire_18 rfl hl (by decide) rfl (fun ls hl => ?_)
  refine lv_iload_n hx hb dX6_tire_19 rfl (lv_at hl 0 rfl) ?_
  refine rw_iconst hx hb dX6_tire_20 ?_
  refine rw_icmp_ge (tgt := 44) hx hb dX6_tire_21 (by decide) (by decide) (by decide) (fun c => absurd c (by decide)) (fun _ => ?_)
  refine lv_aload_n hx hb dX6_tire_24 rfl (lv_at hl 1 rfl) ?_
  refine rw_getR hx hb hts hown hW q hS.1 1 (q + 1) rfl fX6_9 dX6_tire_25 ?_
  refine lv_iload_n hx hb dX6_tire_28 rfl (lv_at hl 0 rfl) ?_
  refine lv_aload_n hx hb dX6_tire_29 rfl (lv_at hl 1 rfl) ?_
  refine rw_getR hx hb hts hown hW q hS.1 1 (q + 1) rfl fX6_9 dX6_tire_30 ?_
  refine lv_iload_n hx hb dX6_tire_33 rfl (lv_at hl 0 rfl) ?_
  refine rw_iconst hx hb dX6_tire_34 ?_
  refine rw_iadd hx hb dX6_tire_35 ?_
  refine rw_stk (st' := [.int (iN 2), .ref (ad (q + 1)), .int (iN 1), .ref (ad (q + 1))]) rfl ?_
  refine rw_iald hx hb hW hnt4 (q + 1) hS.2 (by omega) (by omega) (by decide) dX6_tire_36 (v := (M (q + 1) 2)) (by rw [hM1, upd2_ne1 (by omega)]) ?_
  refine rw_iast hx hb hW hnt4 (q + 1) hS.2 (v := (M (q + 1) 2)) (by omega) (by omega) (by decide) dX6_tire_37 (fun H locs hW => ?_)
  obtain ⟨M2, hM2⟩ : ∃ z, z = upd2 M1 (q + 1) 1 (M (q + 1) 2) := ⟨_, rfl⟩
  rw [← hM2] at hW
  refine rw_iinc (lv' := [(3, .int (iN 2)), (0, .ref (ad q)), (1, .int (iN x)), (2, .int (iN r))]) hx hb dX6_tire_38 hl (k := 0) rfl (by decide) rfl (fun ls hl => ?_)
  refine lv_goto (tgt := 19) hx hb dX6_tire_41 (by decide) ?_
  refine lv_iload_n hx hb dX6_tire_19 rfl (lv_at hl 0 rfl) ?_
  refine rw_iconst hx hb dX6_tire_20 ?_
  refine rw_icmp_ge (tgt := 44) hx hb dX6_tire_21 (by decide) (by decide) (by decide) (fun c => absurd c (by decide)) (fun _ => ?_)
  refine lv_aload_n hx hb dX6_tire_24 rfl (lv_at hl 1 rfl) ?_
  refine rw_getR hx hb hts hown hW q hS.1 1 (q + 1) rfl fX6_9 dX6_tire_25 ?_
  refine lv_iload_n hx hb dX6_tire_28 rfl (lv_at hl 0 rfl) ?_
  refine lv_aload_n hx hb dX6_tire_29 rfl (lv_at hl 1 rfl) ?_
  refine rw_getR hx hb hts hown hW q hS.1 1 (q + 1) rfl fX6_9 dX6_tire_30 ?_
  refine lv_iload_n hx hb dX6_tire_33 rfl (lv_at hl 0 rfl) ?_
  refine rw_iconst hx hb dX6_tire_34 ?_
  refine rw_iadd hx hb dX6_tire_35 ?_
  refine rw_stk (st' := [.int (iN 3), .ref (ad (q + 1)), .int (iN 2), .ref (ad (q + 1))]) rfl ?_
  refine rw_iald hx hb hW hnt4 (q + 1) hS.2 (by omega) (by omega) (by decide) dX6_tire_36 (v := (M (q + 1) 3)) (by rw [hM2, upd2_ne2 (by decide), hM1, upd2_ne1 (by omega)]) ?_
  refine rw_iast hx hb hW hnt4 (q + 1) hS.2 (v := (M (q + 1) 3)) (by omega) (by omega) (by decide) dX6_tire_37 (fun H locs hW => ?_)
  obtain ⟨M3, hM3⟩ : ∃ z, z = upd2 M2 (q + 1) 2 (M (q + 1) 3) := ⟨_, rfl⟩
  rw [← hM3] at hW
  refine rw_iinc (lv' := [(3, .int (iN 3)), (0, .ref (ad q)), (1, .int (iN x)), (2, .int (iN r))]) hx hb dX6_tire_38 hl (k := 0) rfl (by decide) rfl (fun ls hl => ?_)
  refine lv_goto (tgt := 19) hx hb dX6_tire_41 (by decide) ?_
  refine lv_iload_n hx hb dX6_tire_19 rfl (lv_at hl 0 rfl) ?_
  refine rw_iconst hx hb dX6_tire_20 ?_
  refine rw_icmp_ge (tgt := 44) hx hb dX6_tire_21 (by decide) (by decide) (by decide) (fun c => absurd c (by decide)) (fun _ => ?_)
  refine lv_aload_n hx hb dX6_tire_24 rfl (lv_at hl 1 rfl) ?_
  refine rw_getR hx hb hts hown hW q hS.1 1 (q + 1) rfl fX6_9 dX6_tire_25 ?_
  refine lv_iload_n hx hb dX6_tire_28 rfl (lv_at hl 0 rfl) ?_
  refine lv_aload_n hx hb dX6_tire_29 rfl (lv_at hl 1 rfl) ?_
  refine rw_getR hx hb hts hown hW q hS.1 1 (q + 1) rfl fX6_9 dX6_tire_30 ?_
  refine lv_iload_n hx hb dX6_tire_33 rfl (lv_at hl 0 rfl) ?_
  refine rw_iconst hx hb dX6_tire_34 ?_
  refine rw_iadd hx hb dX6_tire_35 ?_
  refine rw_stk (st' := [.int (iN 4), .ref (ad (q + 1)), .int (iN 3), .ref (ad (q + 1))]) rfl ?_
  refine rw_iald hx hb hW hnt4 (q + 1) hS.2 (by omega) (by omega) (by decide) dX6_tire_36 (v := (M (q + 1) 4)) (by rw [hM3, upd2_ne2 (by decide), hM2, upd2_ne2 (by decide), hM1, upd2_ne1 (by omega)]) ?_
  refine rw_iast hx hb hW hnt4 (q + 1) hS.2 (v := (M (q + 1) 4)) (by omega) (by omega) (by decide) dX6_tire_37 (fun H locs hW => ?_)
  obtain ⟨M4, hM4⟩ : ∃ z, z = upd2 M3 (q + 1) 3 (M (q + 1) 4) := ⟨_, rfl⟩
  rw [← hM4] at hW
  refine rw_iinc (lv' := [(3, .int (iN 4)), (0, .ref (ad q)), (1, .int (iN x)), (2, .int (iN r))]) hx hb dX6_tire_38 hl (k := 0) rfl (by decide) rfl (fun ls hl => ?_)
  refine lv_goto (tgt := 19) hx hb dX6_tire_41 (by decide) ?_
  refine lv_iload_n hx hb dX6_tire_19 rfl (lv_at hl 0 rfl) ?_
  refine rw_iconst hx hb dX6_tire_20 ?_
  refine rw_icmp_ge (tgt := 44) hx hb dX6_tire_21 (by decide) (by decide) (by decide) (fun _ => ?_) (fun c => absurd (by decide) c)
  refine lv_aload_n hx hb dX6_tire_44 rfl (lv_at hl 1 rfl) ?_
  refine rw_getR hx hb hts hown hW q hS.1 1 (q + 1) rfl fX6_9 dX6_tire_45 ?_
  refine rw_iconst hx hb dX6_tire_48 ?_
  refine rw_iconst hx hb dX6_tire_49 ?_
  refine rw_iast hx hb hW hnt4 (q + 1) hS.2 (v := 0) (by omega) (by omega) (by decide) dX6_tire_50 (fun H locs hW => ?_)
  obtain ⟨M5, hM5⟩ : ∃ z, z = upd2 M4 (q + 1) 4 0 := ⟨_, rfl⟩
  rw [← hM5] at hW
  refine lv_iload_n hx hb dX6_tire_51 rfl (lv_at hl 3 rfl) ?_
  refine rw_iconst hx hb dX6_tire_52 ?_
  refine rw_iconst hx hb dX6_tire_53 ?_
  refine rw_callN hx hb hml hts hown hW ⟨Nat.le_refl 0, Nat.le_refl 0⟩ [.int (iN r), .int (iN 1), .int (iN 4)] (c_X10_within (l := l) (G := G) (ad := ad) (CA := CA) (nt := nt) r 1 4 (by omega) (by omega) (by omega) M5) kX6_28 rfl ⟨Nat.le_of_ble_eq_true rfl, Nat.le_of_ble_eq_true rfl⟩ hl.1 rfl (Nat.le_of_ble_eq_true rfl) dX6_tire_54 (fun v6 M7 H locs hp8 hW => ?_)
  obtain ⟨a9, rfl, hp8, hp8m⟩ := hp8
  rw [hp8m] at hW
  rcases hp8 with ⟨rfl, hp8⟩ | ⟨rfl, hp8⟩
  · refine rw_stk (st' := [.int (iN 1)]) rfl ?_
    refine rw_if_eq (tgt := 70) hx hb dX6_tire_57 (by decide) (by decide) (fun c => absurd c (by decide)) (fun _ => ?_)
    refine lv_aload_n hx hb dX6_tire_60 rfl (lv_at hl 1 rfl) ?_
    refine rw_getR hx hb hts hown hW q hS.1 1 (q + 1) rfl fX6_9 dX6_tire_61 ?_
    refine lv_iload_n hx hb dX6_tire_64 rfl (lv_at hl 3 rfl) ?_
    refine lv_dup2_11 hx hb dX6_tire_65 rfl rfl ?_
    refine rw_iald hx hb hW hnt4 (q + 1) hS.2 (by omega) (by omega) (by decide) dX6_tire_66 (v := (M5 (q + 1) r)) rfl ?_
    refine lv_iload_n hx hb dX6_tire_67 rfl (lv_at hl 2 rfl) ?_
    refine rw_iadd hx hb dX6_tire_68 ?_
    refine rw_iast hx hb hW hnt4 (q + 1) hS.2 (v := (M5 (q + 1) r) + x) (by omega) (by omega) (by decide) dX6_tire_69 (fun H locs hW => ?_)
    obtain ⟨M10, hM10⟩ : ∃ z, z = upd2 M5 (q + 1) r ((M5 (q + 1) r) + x) := ⟨_, rfl⟩
    rw [← hM10] at hW
    refine rw_vret hx hb hr hlocks hW dX6_tire_70 (⟨rfl, ?_⟩)
    refine ⟨?_, ?_⟩
    · rcases (show r = 1 ∨ r = 2 ∨ r = 3 ∨ r = 4 by omega) with rfl | rfl | rfl | rfl <;> apply sd_ext <;> first | (intro j hj; exact tireS_out (fun i hi => sd_out _ _ hi) hj) | (simp [hM1, hM2, hM3, hM4, hM5, hM10, upd2_at, tireS, sd_0, sd_1, sd_2, sd_3, sd_4, sd_5, sd_6, sd_7]; done) | (simp [hM1, hM2, hM3, hM4, hM5, hM10, upd2_at, tireS, sd_0, sd_1, sd_2, sd_3, sd_4, sd_5, sd_6, sd_7]; omega)
    · intro k hk; simp only [hM1, hM2, hM3, hM4, hM5, hM10]; simp [upd2_at, show k ≠ q by omega, show k ≠ q + 1 by omega, upd2_ne1]
  · exfalso; omega
