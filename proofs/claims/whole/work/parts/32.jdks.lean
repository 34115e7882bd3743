section RN
variable {p : Program} {l : Launch} {e : Env} {R : Room} {s : State} {m : MethodId} {args : Array Value} {below : List Frame} {meth : Method} {c : Code} {H : Heap} {locs : List Loc} {cells slots : Nat} {Q : State → Prop}
variable {cc : ByteArray} {pc : Nat} {ls : Array Slot} {rest : List Value} {G : va_G} {ad : Nat → Nat} {CA : Nat → ClassId} {nt : Nat} {Ly : List LD} {M : Mem} {post : Option Value → Mem → Prop}
theorem rw_nret {ty : FieldType} (hx : p.tables.exec = Jvm.exec) (hb : c.code = cc) (hr : meth.sig.returnType = some ty) (hlocks : meth.locks = false) (hW : Wo G ad CA nt Ly (wA ad Ly) s M H locs) (hdg : decode cc pc = .ok (.ireturn, 1)) {a : Int} (hn : narrow ty (.int (iN a)) = .int (iN a)) (hq : post (some (.int (iN a))) M) : W p l e R s m args below meth c H locs cells slots (MQ below (Qg G ad CA nt Ly post) args s cells slots (wA ad Ly)) (F0 m pc ls [.int (iN a)]) :=
  W.zret hx hb hr hn (hW.fin hq) hW.S.2.2 hdg hlocks
theorem i2c_all : ∀ a : Fin 128, ((iN (a.val : Int)).toUInt32 % 65536).toInt32 = iN (a.val : Int) := by decide +kernel
theorem narrow_char_all : ∀ a : Fin 128, narrow .char (.int (iN (a.val : Int))) = .int (iN (a.val : Int)) := by decide +kernel
theorem band255_all : ∀ a : Fin 128, band (a.val : Int) 255 = (a.val : Int) := by decide +kernel
theorem fin128 {P : Int → Prop} (h : ∀ a : Fin 128, P (a.val : Int)) {x : Int} (hx : 0 ≤ x ∧ x ≤ 127) : P x := by
  have := h ⟨x.toNat, by omega⟩
  have e : ((x.toNat : Nat) : Int) = x := by omega
  rwa [e] at this
theorem rw_i2c (hx : p.tables.exec = Jvm.exec) (hb : c.code = cc) {a : Int} (hdg : decode cc pc = .ok (.i2c, 1)) (ha : 0 ≤ a ∧ a ≤ 127)
    (kk : W p l e R s m args below meth c H locs cells slots Q (F0 m (pc + 1) ls (.int (iN a) :: rest))) : W p l e R s m args below meth c H locs cells slots Q (F0 m pc ls (.int (iN a) :: rest)) := lv_i2c hx hb hdg (fin128 (P := fun a => ((iN a).toUInt32 % 65536).toInt32 = iN a) i2c_all ha) kk
end RN
theorem narrow_char {a : Int} (ha : 0 ≤ a ∧ a ≤ 127) : narrow .char (.int (iN a)) = .int (iN a) := fin128 (P := fun a => narrow .char (.int (iN a)) = .int (iN a)) narrow_char_all ha
theorem band_low {a : Int} (ha : 0 ≤ a ∧ a ≤ 127) : band a 255 = a := fin128 (P := fun a => band a 255 = a) band255_all ha
def lnS (i : Nat) : Int := ((lenS.getD i 0 : Nat) : Int)
theorem lnS_rng {i : Nat} (hi : i < 2) : 0 ≤ lnS i ∧ lnS i ≤ 48 := by
  rcases (show i = 0 ∨ i = 1 by omega) with rfl | rfl <;> decide
theorem chS_rng {i : Nat} (hi : i < 2) {k : Int} (h0 : 0 ≤ k) (h1 : k < 48) : 0 ≤ chS i k ∧ chS i k ≤ 127 := by
  have := chS_all ⟨i, hi⟩ ⟨k.toNat, by omega⟩
  have e : ((k.toNat : Nat) : Int) = k := by omega
  rwa [e] at this
abbrev P_J0_coder_7d493 (i : Nat) (M : Mem) : Option Value → Mem → Prop := oI (fun zz MM => zz = 0 ∧ MM = M)
set_option maxRecDepth 100000 in
set_option maxHeartbeats 4000000 in
theorem c_J0_coder_7d493 {l : Launch} {G : va_G} {ad : Nat → Nat} {CA : Nat → ClassId} {nt : Nat} {Ly : List LD} {adK adV : Nat → Nat} (i : Nat) (hi2 : i < 2) (M : Mem) : MtE l yJ0_coder_7d493 cJ0_coder_7d493 1 (some .byte) 0 0 G ad CA nt Ly adK adV [.ref (adK i)] M (P_J0_coder_7d493 i M) := by
  refine MtE.of (by decide) (Nat.le_of_ble_eq_true rfl) (fun p e s m args below meth c hx hb hr hml hts hown hlocks hnm hE hW ls hl => ?_)
  have hl : lv_has ls 1 [(0, .ref (adK i))] := hl
  obtain ⟨H, hH⟩ : ∃ z, z = s.heap := ⟨_, rfl⟩
  obtain ⟨locs, hlo⟩ : ∃ z : List Loc, z = [] := ⟨_, rfl⟩
  rw [← hH, ← hlo] at hW ⊢
  refine rw_strZ hx hb hts hown hW hE (wm_11 _ (List.mem_of_getElem? (i := 16) rfl)) dJ0_coder_7d493_0 ?_
  refine rw_if_eq (tgt := 13) hx hb dJ0_coder_7d493_3 (by decide) (by decide) (fun c => absurd c (by decide)) (fun _ => ?_)
  refine lv_aload_n hx hb dJ0_coder_7d493_6 rfl (lv_at hl 0 rfl) ?_
  refine rw_strC hx hb hts hown hW hE (by omega) (wm_11 _ (List.mem_of_getElem? (i := 17) rfl)) dJ0_coder_7d493_7 ?_
  refine lv_goto (tgt := 14) hx hb dJ0_coder_7d493_10 (by decide) ?_
  refine rw_nret hx hb hr hlocks hW dJ0_coder_7d493_14 rfl (⟨0, rfl, ?_⟩)
  exact ⟨rfl, rfl⟩
abbrev P_J0_isLatin1_aae02 (i : Nat) (M : Mem) : Option Value → Mem → Prop := oI (fun zz MM => zz = 1 ∧ MM = M)
set_option maxRecDepth 100000 in
set_option maxHeartbeats 4000000 in
theorem c_J0_isLatin1_aae02 {l : Launch} {G : va_G} {ad : Nat → Nat} {CA : Nat → ClassId} {nt : Nat} {Ly : List LD} {adK adV : Nat → Nat} (i : Nat) (hi2 : i < 2) (M : Mem) : MtE l yJ0_isLatin1_aae02 cJ0_isLatin1_aae02 1 (some .boolean) 0 0 G ad CA nt Ly adK adV [.ref (adK i)] M (P_J0_isLatin1_aae02 i M) := by
  refine MtE.of (by decide) (Nat.le_of_ble_eq_true rfl) (fun p e s m args below meth c hx hb hr hml hts hown hlocks hnm hE hW ls hl => ?_)
  have hl : lv_has ls 1 [(0, .ref (adK i))] := hl
  obtain ⟨H, hH⟩ : ∃ z, z = s.heap := ⟨_, rfl⟩
  obtain ⟨locs, hlo⟩ : ∃ z : List Loc, z = [] := ⟨_, rfl⟩
  rw [← hH, ← hlo] at hW ⊢
  refine rw_strZ hx hb hts hown hW hE (wm_11 _ (List.mem_of_getElem? (i := 16) rfl)) dJ0_isLatin1_aae02_0 ?_
  refine rw_if_eq (tgt := 17) hx hb dJ0_isLatin1_aae02_3 (by decide) (by decide) (fun c => absurd c (by decide)) (fun _ => ?_)
  refine lv_aload_n hx hb dJ0_isLatin1_aae02_6 rfl (lv_at hl 0 rfl) ?_
  refine rw_strC hx hb hts hown hW hE (by omega) (wm_11 _ (List.mem_of_getElem? (i := 17) rfl)) dJ0_isLatin1_aae02_7 ?_
  refine rw_if_ne (tgt := 17) hx hb dJ0_isLatin1_aae02_10 (by decide) (by decide) (fun c => absurd c (by decide)) (fun _ => ?_)
  refine rw_iconst hx hb dJ0_isLatin1_aae02_13 ?_
  refine lv_goto (tgt := 18) hx hb dJ0_isLatin1_aae02_14 (by decide) ?_
  refine rw_zret hx hb hr hlocks hW dJ0_isLatin1_aae02_18 (Or.inr rfl) (⟨1, rfl, ?_⟩)
  exact ⟨rfl, rfl⟩
abbrev P_J0_length_8abf5 (i : Nat) (M : Mem) : Option Value → Mem → Prop := oI (fun zz MM => zz = lnS i ∧ MM = M)
set_option maxRecDepth 100000 in
set_option maxHeartbeats 4000000 in
theorem c_J0_length_8abf5 {l : Launch} {G : va_G} {ad : Nat → Nat} {CA : Nat → ClassId} {nt : Nat} {Ly : List LD} {adK adV : Nat → Nat} (i : Nat) (hi2 : i < 2) (M : Mem) : MtE l yJ0_length_8abf5 cJ0_length_8abf5 1 (some .int) 1 20 G ad CA nt Ly adK adV [.ref (adK i)] M (P_J0_length_8abf5 i M) := by
  refine MtE.of (by decide) (Nat.le_of_ble_eq_true rfl) (fun p e s m args below meth c hx hb hr hml hts hown hlocks hnm hE hW ls hl => ?_)
  have hl : lv_has ls 1 [(0, .ref (adK i))] := hl
  obtain ⟨H, hH⟩ : ∃ z, z = s.heap := ⟨_, rfl⟩
  obtain ⟨locs, hlo⟩ : ∃ z : List Loc, z = [] := ⟨_, rfl⟩
  rw [← hH, ← hlo] at hW ⊢
  have hln := lnS_rng hi2
  refine lv_aload_n hx hb dJ0_length_8abf5_0 rfl (lv_at hl 0 rfl) ?_
  refine rw_strV hx hb hts hown hW hE (by omega) (wm_11 _ (List.mem_of_getElem? (i := 11) rfl)) dJ0_length_8abf5_1 ?_
  refine rw_strL hx hb hW hE (by omega) dJ0_length_8abf5_4 ?_
  refine rw_stk (st' := [.int (iN (lnS i))]) rfl ?_
  refine lv_aload_n hx hb dJ0_length_8abf5_5 rfl (lv_at hl 0 rfl) ?_
  refine rw_callVE hx hb hml hts hown hW hE ⟨Nat.le_refl 0, Nat.le_refl 0⟩ [] (hE.recv (by omega) hW) (c_J0_coder_7d493 (l := l) (G := G) (ad := ad) (CA := CA) (nt := nt) (adK := adK) (adV := adV) i (by omega) M) kJ0_335 rfl ⟨Nat.le_of_ble_eq_true rfl, Nat.le_of_ble_eq_true rfl⟩ hl.1 rfl (Nat.le_of_ble_eq_true rfl) dJ0_length_8abf5_6 (fun v1 M2 H locs hp3 hW => ?_)
  obtain ⟨_, rfl, rfl, hp3⟩ := hp3
  rw [hp3] at hW
  refine rw_stk (st' := [.int (iN 0), .int (iN (lnS i))]) rfl ?_
  refine rw_ishr hx hb dJ0_length_8abf5_9 (by omega) (by omega) (by omega) (by omega) ?_
  refine rw_iret hx hb hr hlocks hW dJ0_length_8abf5_10 (⟨(lnS i) / pow2 0, rfl, ?_⟩)
  exact ⟨by rw [show pow2 0 = 1 from by decide]; omega, rfl⟩
abbrev P_J3_checkIndex_8e157n (i : Int) (n : Int) (M : Mem) : Option Value → Mem → Prop := oI (fun zz MM => zz = (i + 0) ∧ MM = M)
set_option maxRecDepth 100000 in
set_option maxHeartbeats 4000000 in
theorem c_J3_checkIndex_8e157n {l : Launch} {G : va_G} {ad : Nat → Nat} {CA : Nat → ClassId} {nt : Nat} {Ly : List LD} (i : Int) (n : Int) (hi : 0 ≤ i ∧ i < n) (hn : n ≤ 1000) (M : Mem) : Mt l yJ3_checkIndex_8e157 cJ3_checkIndex_8e157 3 (some .int) 0 0 G ad CA nt Ly [.int (iN i), .int (iN n), .null] M (P_J3_checkIndex_8e157n i n M) := by
  refine Mt.of (by decide) (Nat.le_of_ble_eq_true rfl) (fun p e s m args below meth c hx hb hr hml hts hown hlocks hnm hW ls hl => ?_)
  have hl : lv_has ls 3 [(0, .int (iN i)), (1, .int (iN n)), (2, .null)] := hl
  obtain ⟨H, hH⟩ : ∃ z, z = s.heap := ⟨_, rfl⟩
  obtain ⟨locs, hlo⟩ : ∃ z : List Loc, z = [] := ⟨_, rfl⟩
  rw [← hH, ← hlo] at hW ⊢
  refine lv_iload_n hx hb dJ3_checkIndex_8e157_0 rfl (lv_at hl 0 rfl) ?_
  refine rw_if_lt (tgt := 9) hx hb dJ3_checkIndex_8e157_1 (by decide) (by omega) (fun c_1 => ?_) (fun c_1 => ?_)
  · omega
  · refine lv_iload_n hx hb dJ3_checkIndex_8e157_4 rfl (lv_at hl 0 rfl) ?_
    refine lv_iload_n hx hb dJ3_checkIndex_8e157_5 rfl (lv_at hl 1 rfl) ?_
    refine rw_icmp_lt (tgt := 16) hx hb dJ3_checkIndex_8e157_6 (by decide) (by omega) (by omega) (fun c_6 => ?_) (fun c_6 => ?_)
    · refine lv_iload_n hx hb dJ3_checkIndex_8e157_16 rfl (lv_at hl 0 rfl) ?_
      refine rw_iret hx hb hr hlocks hW dJ3_checkIndex_8e157_17 (⟨i, rfl, ?_⟩)
      exact ⟨by omega, rfl⟩
    · omega
abbrev P_J3_checkIndex_8e157r (i : Int) (n : Int) (t : Nat) (M : Mem) : Option Value → Mem → Prop := oI (fun zz MM => zz = (i + 0) ∧ MM = M)
set_option maxRecDepth 100000 in
set_option maxHeartbeats 4000000 in
theorem c_J3_checkIndex_8e157r {l : Launch} {G : va_G} {ad : Nat → Nat} {CA : Nat → ClassId} {nt : Nat} {Ly : List LD} (i : Int) (n : Int) (t : Nat) (hi : 0 ≤ i ∧ i < n) (hn : n ≤ 1000) (M : Mem) : Mt l yJ3_checkIndex_8e157 cJ3_checkIndex_8e157 3 (some .int) 0 0 G ad CA nt Ly [.int (iN i), .int (iN n), .ref t] M (P_J3_checkIndex_8e157r i n t M) := by
  refine Mt.of (by decide) (Nat.le_of_ble_eq_true rfl) (fun p e s m args below meth c hx hb hr hml hts hown hlocks hnm hW ls hl => ?_)
  have hl : lv_has ls 3 [(0, .int (iN i)), (1, .int (iN n)), (2, .ref t)] := hl
  obtain ⟨H, hH⟩ : ∃ z, z = s.heap := ⟨_, rfl⟩
  obtain ⟨locs, hlo⟩ : ∃ z : List Loc, z = [] := ⟨_, rfl⟩
  rw [← hH, ← hlo] at hW ⊢
  refine lv_iload_n hx hb dJ3_checkIndex_8e157_0 rfl (lv_at hl 0 rfl) ?_
  refine rw_if_lt (tgt := 9) hx hb dJ3_checkIndex_8e157_1 (by decide) (by omega) (fun c_1 => ?_) (fun c_1 => ?_)
  · omega
  · refine lv_iload_n hx hb dJ3_checkIndex_8e157_4 rfl (lv_at hl 0 rfl) ?_
    refine lv_iload_n hx hb dJ3_checkIndex_8e157_5 rfl (lv_at hl 1 rfl) ?_
    refine rw_icmp_lt (tgt := 16) hx hb dJ3_checkIndex_8e157_6 (by decide) (by omega) (by omega) (fun c_6 => ?_) (fun c_6 => ?_)
    · refine lv_iload_n hx hb dJ3_checkIndex_8e157_16 rfl (lv_at hl 0 rfl) ?_
      refine rw_iret hx hb hr hlocks hW dJ3_checkIndex_8e157_17 (⟨i, rfl, ?_⟩)
      exact ⟨by omega, rfl⟩
    · omega
abbrev P_J0_checkIndex_df160 (i : Int) (n : Int) (M : Mem) : Option Value → Mem → Prop := oV (fun MM => MM = M)
set_option maxRecDepth 100000 in
set_option maxHeartbeats 4000000 in
theorem c_J0_checkIndex_df160 {l : Launch} {G : va_G} {ad : Nat → Nat} {CA : Nat → ClassId} {nt : Nat} {Ly : List LD} {adK adV : Nat → Nat} (i : Int) (n : Int) (hi : 0 ≤ i ∧ i < n) (hn : n ≤ 1000) (M : Mem) : MtE l yJ0_checkIndex_df160 cJ0_checkIndex_df160 2 none 1 22 G ad CA nt Ly adK adV [.int (iN i), .int (iN n)] M (P_J0_checkIndex_df160 i n M) := by
  refine MtE.of (by decide) (Nat.le_of_ble_eq_true rfl) (fun p e s m args below meth c hx hb hr hml hts hown hlocks hnm hE hW ls hl => ?_)
  have hl : lv_has ls 2 [(0, .int (iN i)), (1, .int (iN n))] := hl
  obtain ⟨H, hH⟩ : ∃ z, z = s.heap := ⟨_, rfl⟩
  obtain ⟨locs, hlo⟩ : ∃ z : List Loc, z = [] := ⟨_, rfl⟩
  rw [← hH, ← hlo] at hW ⊢
  refine lv_iload_n hx hb dJ0_checkIndex_df160_0 rfl (lv_at hl 0 rfl) ?_
  refine lv_iload_n hx hb dJ0_checkIndex_df160_1 rfl (lv_at hl 1 rfl) ?_
  refine rw_strF hx hb hts hown hW hE (wm_12 _ (List.mem_of_getElem? (i := 9) rfl)) dJ0_checkIndex_df160_2 ?_ (fun tt => ?_)
  · refine rw_callS hx hb hml hts hown hW ⟨Nat.le_refl 0, Nat.le_refl 0⟩ [.int (iN i), .int (iN n), .null] (c_J3_checkIndex_8e157n (l := l) (G := G) (ad := ad) (CA := CA) (nt := nt) i n (by omega) (by omega) M) kJ0_1059 rfl ⟨Nat.le_of_ble_eq_true rfl, Nat.le_of_ble_eq_true rfl⟩ hl.1 rfl (Nat.le_of_ble_eq_true rfl) dJ0_checkIndex_df160_5 (fun v1 M2 H locs hp3 hW => ?_)
    obtain ⟨_, rfl, rfl, hp3⟩ := hp3
    rw [hp3] at hW
    refine rw_stk (st' := [.int (iN (i + 0))]) rfl ?_
    refine lv_pop hx hb dJ0_checkIndex_df160_8 rfl ?_
    refine rw_vret hx hb hr hlocks hW dJ0_checkIndex_df160_9 (⟨rfl, ?_⟩)
    rfl
  · refine rw_callS hx hb hml hts hown hW ⟨Nat.le_refl 0, Nat.le_refl 0⟩ [.int (iN i), .int (iN n), .ref tt] (c_J3_checkIndex_8e157r (l := l) (G := G) (ad := ad) (CA := CA) (nt := nt) i n tt (by omega) (by omega) M) kJ0_1059 rfl ⟨Nat.le_of_ble_eq_true rfl, Nat.le_of_ble_eq_true rfl⟩ hl.1 rfl (Nat.le_of_ble_eq_true rfl) dJ0_checkIndex_df160_5 (fun v4 M5 H locs hp6 hW => ?_)
    obtain ⟨_, rfl, rfl, hp6⟩ := hp6
    rw [hp6] at hW
    refine rw_stk (st' := [.int (iN (i + 0))]) rfl ?_
    refine lv_pop hx hb dJ0_checkIndex_df160_8 rfl ?_
    refine rw_vret hx hb hr hlocks hW dJ0_checkIndex_df160_9 (⟨rfl, ?_⟩)
    rfl
abbrev P_J1_charAt_3b067 (i : Nat) (k : Int) (M : Mem) : Option Value → Mem → Prop := oI (fun zz MM => zz = chS i k ∧ MM = M)
set_option maxRecDepth 100000 in
set_option maxHeartbeats 4000000 in
theorem c_J1_charAt_3b067 {l : Launch} {G : va_G} {ad : Nat → Nat} {CA : Nat → ClassId} {nt : Nat} {Ly : List LD} {adK adV : Nat → Nat} (i : Nat) (hi2 : i < 2) (k : Int) (hk : 0 ≤ k ∧ k < lnS i) (M : Mem) : MtE l yJ1_charAt_3b067 cJ1_charAt_3b067 2 (some .char) 2 43 G ad CA nt Ly adK adV [.ref (adV i), .int (iN k)] M (P_J1_charAt_3b067 i k M) := by
  refine MtE.of (by decide) (Nat.le_of_ble_eq_true rfl) (fun p e s m args below meth c hx hb hr hml hts hown hlocks hnm hE hW ls hl => ?_)
  have hl : lv_has ls 2 [(0, .ref (adV i)), (1, .int (iN k))] := hl
  obtain ⟨H, hH⟩ : ∃ z, z = s.heap := ⟨_, rfl⟩
  obtain ⟨locs, hlo⟩ : ∃ z : List Loc, z = [] := ⟨_, rfl⟩
  rw [← hH, ← hlo] at hW ⊢
  have hln := lnS_rng hi2
  have hch := chS_rng hi2 hk.1 (by omega : k < 48)
  refine lv_iload_n hx hb dJ1_charAt_3b067_0 rfl (lv_at hl 1 rfl) ?_
  refine lv_aload_n hx hb dJ1_charAt_3b067_1 rfl (lv_at hl 0 rfl) ?_
  refine rw_strL hx hb hW hE (by omega) dJ1_charAt_3b067_2 ?_
  refine rw_stk (st' := [.int (iN (lnS i)), .int (iN k)]) rfl ?_
  refine rw_callSE hx hb hml hts hown hW hE ⟨Nat.le_refl 0, Nat.le_refl 0⟩ [.int (iN k), .int (iN (lnS i))] (c_J0_checkIndex_df160 (l := l) (G := G) (ad := ad) (CA := CA) (nt := nt) (adK := adK) (adV := adV) k (lnS i) (by omega) (by omega) M) kJ1_9 rfl ⟨Nat.le_of_ble_eq_true rfl, Nat.le_of_ble_eq_true rfl⟩ hl.1 rfl (Nat.le_of_ble_eq_true rfl) dJ1_charAt_3b067_3 (fun v1 M2 H locs hp3 hW => ?_)
  obtain ⟨rfl, hp3⟩ := hp3
  rw [hp3] at hW
  refine rw_stk (st' := []) rfl ?_
  refine lv_aload_n hx hb dJ1_charAt_3b067_6 rfl (lv_at hl 0 rfl) ?_
  refine lv_iload_n hx hb dJ1_charAt_3b067_7 rfl (lv_at hl 1 rfl) ?_
  refine rw_strB hx hb hW hE (by omega) hk.1 hk.2 (by omega) dJ1_charAt_3b067_8 ?_
  refine rw_sipush hx hb dJ1_charAt_3b067_9 (by decide) ?_
  refine rw_iand hx hb dJ1_charAt_3b067_12 ?_
  rw [band_low hch]
  refine rw_i2c hx hb dJ1_charAt_3b067_13 hch ?_
  refine rw_nret hx hb hr hlocks hW dJ1_charAt_3b067_14 (narrow_char hch) (⟨chS i k, rfl, ?_⟩)
  exact ⟨rfl, rfl⟩
abbrev P_J0_charAt_5068e (i : Nat) (k : Int) (M : Mem) : Option Value → Mem → Prop := oI (fun zz MM => zz = chS i k ∧ MM = M)
set_option maxRecDepth 100000 in
set_option maxHeartbeats 4000000 in
theorem c_J0_charAt_5068e {l : Launch} {G : va_G} {ad : Nat → Nat} {CA : Nat → ClassId} {nt : Nat} {Ly : List LD} {adK adV : Nat → Nat} (i : Nat) (hi2 : i < 2) (k : Int) (hk : 0 ≤ k ∧ k < lnS i) (M : Mem) : MtE l yJ0_charAt_5068e cJ0_charAt_5068e 2 (some .char) 3 64 G ad CA nt Ly adK adV [.ref (adK i), .int (iN k)] M (P_J0_charAt_5068e i k M) := by
  refine MtE.of (by decide) (Nat.le_of_ble_eq_true rfl) (fun p e s m args below meth c hx hb hr hml hts hown hlocks hnm hE hW ls hl => ?_)
  have hl : lv_has ls 2 [(0, .ref (adK i)), (1, .int (iN k))] := hl
  obtain ⟨H, hH⟩ : ∃ z, z = s.heap := ⟨_, rfl⟩
  obtain ⟨locs, hlo⟩ : ∃ z : List Loc, z = [] := ⟨_, rfl⟩
  rw [← hH, ← hlo] at hW ⊢
  have hln := lnS_rng hi2
  have hch := chS_rng hi2 hk.1 (by omega : k < 48)
  refine lv_aload_n hx hb dJ0_charAt_5068e_0 rfl (lv_at hl 0 rfl) ?_
  refine rw_callVE hx hb hml hts hown hW hE ⟨Nat.le_refl 0, Nat.le_refl 0⟩ [] (hE.recv (by omega) hW) (c_J0_isLatin1_aae02 (l := l) (G := G) (ad := ad) (CA := CA) (nt := nt) (adK := adK) (adV := adV) i (by omega) M) kJ0_492 rfl ⟨Nat.le_of_ble_eq_true rfl, Nat.le_of_ble_eq_true rfl⟩ hl.1 rfl (Nat.le_of_ble_eq_true rfl) dJ0_charAt_5068e_1 (fun v1 M2 H locs hp3 hW => ?_)
  obtain ⟨_, rfl, rfl, hp3⟩ := hp3
  rw [hp3] at hW
  refine rw_stk (st' := [.int (iN 1)]) rfl ?_
  refine rw_if_eq (tgt := 16) hx hb dJ0_charAt_5068e_4 (by decide) (by decide) (fun c => absurd c (by decide)) (fun _ => ?_)
  refine lv_aload_n hx hb dJ0_charAt_5068e_7 rfl (lv_at hl 0 rfl) ?_
  refine rw_strV hx hb hts hown hW hE (by omega) (wm_11 _ (List.mem_of_getElem? (i := 11) rfl)) dJ0_charAt_5068e_8 ?_
  refine lv_iload_n hx hb dJ0_charAt_5068e_11 rfl (lv_at hl 1 rfl) ?_
  refine rw_callSE hx hb hml hts hown hW hE ⟨Nat.le_refl 0, Nat.le_refl 0⟩ [.ref (adV i), .int (iN k)] (c_J1_charAt_3b067 (l := l) (G := G) (ad := ad) (CA := CA) (nt := nt) (adK := adK) (adV := adV) i (by omega) k (by omega) M) kJ0_495 rfl ⟨Nat.le_of_ble_eq_true rfl, Nat.le_of_ble_eq_true rfl⟩ hl.1 rfl (Nat.le_of_ble_eq_true rfl) dJ0_charAt_5068e_12 (fun v4 M5 H locs hp6 hW => ?_)
  obtain ⟨_, rfl, rfl, hp6⟩ := hp6
  rw [hp6] at hW
  refine rw_stk (st' := [.int (iN (chS i k))]) rfl ?_
  refine rw_nret hx hb hr hlocks hW dJ0_charAt_5068e_15 (narrow_char hch) (⟨chS i k, rfl, ?_⟩)
  exact ⟨rfl, rfl⟩
