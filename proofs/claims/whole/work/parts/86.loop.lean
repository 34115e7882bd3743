/-! the law's loop -/
section LOOP
variable {p : Program} {l : Launch} {e : Env} {s : State} {m : MethodId} {args : Array Value} {below : List Frame} {meth : Method} {c : Code} {H : Heap} {locs : List Loc} {cells slots : Nat} {Q : State → Prop}
variable {ls : Array Slot} {G : va_G} {ad1 ad2 : Nat → Nat} {CA : Nat → ClassId} {M S : Mem} {b L : Nat} {xs : Nat → Int32} {adK adV : Nat → Nat}
set_option maxRecDepth 100000
set_option maxHeartbeats 4000000
theorem band63x (x : Int32) : 0 ≤ (x &&& iN 63).toInt ∧ (x &&& iN 63).toInt ≤ 63 := by
  have h : (x &&& iN 63).toBitVec = x.toBitVec &&& 63#32 := rfl
  have h1 : (x.toBitVec &&& 63#32).toNat ≤ 63 := by
    rw [BitVec.toNat_and]
    exact Nat.and_le_right
  have h2 : (x &&& iN 63).toInt = ((x.toBitVec &&& 63#32).toNat : Int) := by
    show (x &&& iN 63).toBitVec.toInt = _
    rw [h, BitVec.toInt_eq_toNat_of_lt (by omega)]
  omega
theorem band63 (a : Int) : 0 ≤ band a 63 ∧ band a 63 ≤ 63 := band63x (iN a)
theorem law_switch (C : LC p s m args c b L xs) (hE : SEL adK adV s) (hT : Tw G CA ad1 ad2 s M S H locs) (h : RR M S) (hc : cells ≤ room_1.cells ∧ slots ≤ room_1.slots) {i : Int} (hi : 0 ≤ i ∧ i + 5 ≤ L) (hl : lv_has ls 4 [(3, .int (iN i)), (2, .ref (ad2 0)), (1, .ref (ad1 0)), (0, .ref b)])
    (kk : ∀ (M' S' : Mem) (H1 : Heap) (locs1 : List Loc), Tw G CA ad1 ad2 s M' S' H1 locs1 → RR M' S' → W p l e room_1 s m args below meth c H1 locs1 cells slots Q (F0 m 1409 ls [])) : W p l e room_1 s m args below meth c H locs cells slots Q (F0 m 26 ls []) := by
  obtain ⟨hx, hb, hml, hts, hown, hX, hbl, hL⟩ := id C
  refine lv_aload_n hx hb dL_law_26 rfl (lv_at hl 3 rfl) ?_
  refine lv_iload_n hx hb dL_law_27 rfl (lv_at hl 0 rfl) ?_
  refine va_sld (H0 := s.heap) (A := AL s) hx hb hX hbl (fun z => absurd hbl (Nat.not_lt.mpr z)) hT.1.S (iN_vpin (by omega) (by omega) (by omega)) dL_law_28 ?_
  obtain ⟨x0, hx0, e0⟩ := iN_of (xs (iN i).toNatClampNeg)
  rw [e0]
  refine rw_bipush hx hb dL_law_29 (by decide) ?_
  refine rw_iand hx hb dL_law_31 ?_
  obtain ⟨w, hw⟩ : ∃ w : Int, w = band x0 63 := ⟨_, rfl⟩
  rw [← hw]
  have hr := band63 x0
  rw [← hw] at hr
  by_cases c1 : w ≤ 38
  · rcases (show w = 0 ∨ w = 1 ∨ w = 2 ∨ w = 3 ∨ w = 4 ∨ w = 5 ∨ w = 6 ∨ w = 7 ∨ w = 8 ∨ w = 9 ∨ w = 10 ∨ w = 11 ∨ w = 12 ∨ w = 13 ∨ w = 14 ∨ w = 15 ∨ w = 16 ∨ w = 17 ∨ w = 18 ∨ w = 19 ∨ w = 20 ∨ w = 21 ∨ w = 22 ∨ w = 23 ∨ w = 24 ∨ w = 25 ∨ w = 26 ∨ w = 27 ∨ w = 28 ∨ w = 29 ∨ w = 30 ∨ w = 31 ∨ w = 32 ∨ w = 33 ∨ w = 34 ∨ w = 35 ∨ w = 36 ∨ w = 37 ∨ w = 38 by omega) with c2 | c2 | c2 | c2 | c2 | c2 | c2 | c2 | c2 | c2 | c2 | c2 | c2 | c2 | c2 | c2 | c2 | c2 | c2 | c2 | c2 | c2 | c2 | c2 | c2 | c2 | c2 | c2 | c2 | c2 | c2 | c2 | c2 | c2 | c2 | c2 | c2 | c2 | c2
    · exact rw_tswK hx hb dL_law_32 ⟨by omega, by omega⟩ 0 ⟨by omega, by decide⟩ rfl (tgt := 204) (by decide) (law_feed C hT h hc hi hl kk)
    · exact rw_tswK hx hb dL_law_32 ⟨by omega, by omega⟩ 1 ⟨by omega, by decide⟩ rfl (tgt := 257) (by decide) (law_end C hT h hc hi hl kk)
    · exact rw_tswK hx hb dL_law_32 ⟨by omega, by omega⟩ 2 ⟨by omega, by decide⟩ rfl (tgt := 280) (by decide) (law_text C hE hT h hc hi hl kk)
    · exact rw_tswK hx hb dL_law_32 ⟨by omega, by omega⟩ 3 ⟨by omega, by decide⟩ rfl (tgt := 293) (by decide) (law_fault C hT h hc hi hl kk)
    · exact rw_tswK hx hb dL_law_32 ⟨by omega, by omega⟩ 4 ⟨by omega, by decide⟩ rfl (tgt := 306) (by decide) (law_rule C hT h hc hi hl kk)
    · exact rw_tswK hx hb dL_law_32 ⟨by omega, by omega⟩ 5 ⟨by omega, by decide⟩ rfl (tgt := 329) (by decide) (law_cell C hT h hc hi hl kk)
    · exact rw_tswK hx hb dL_law_32 ⟨by omega, by omega⟩ 6 ⟨by omega, by decide⟩ rfl (tgt := 362) (by decide) (law_side C hT h hc hi hl kk)
    · exact rw_tswK hx hb dL_law_32 ⟨by omega, by omega⟩ 7 ⟨by omega, by decide⟩ rfl (tgt := 395) (by decide) (law_room C hT h hc hi hl kk)
    · exact rw_tswK hx hb dL_law_32 ⟨by omega, by omega⟩ 8 ⟨by omega, by decide⟩ rfl (tgt := 428) (by decide) (law_slope C hT h hc hi hl kk)
    · exact rw_tswK hx hb dL_law_32 ⟨by omega, by omega⟩ 9 ⟨by omega, by decide⟩ rfl (tgt := 461) (by decide) (law_hedge C hT h hc hi hl kk)
    · exact rw_tswK hx hb dL_law_32 ⟨by omega, by omega⟩ 10 ⟨by omega, by decide⟩ rfl (tgt := 494) (by decide) (law_fool C hT h hc hi hl kk)
    · exact rw_tswK hx hb dL_law_32 ⟨by omega, by omega⟩ 11 ⟨by omega, by decide⟩ rfl (tgt := 527) (by decide) (law_men C hT h hc hi hl kk)
    · exact rw_tswK hx hb dL_law_32 ⟨by omega, by omega⟩ 12 ⟨by omega, by decide⟩ rfl (tgt := 560) (by decide) (law_captain C hT h hc hi hl kk)
    · exact rw_tswK hx hb dL_law_32 ⟨by omega, by omega⟩ 13 ⟨by omega, by decide⟩ rfl (tgt := 603) (by decide) (law_rest C hT h hc hi hl kk)
    · exact rw_tswK hx hb dL_law_32 ⟨by omega, by omega⟩ 14 ⟨by omega, by decide⟩ rfl (tgt := 626) (by decide) (law_breaks C hT h hc hi hl kk)
    · exact rw_tswK hx hb dL_law_32 ⟨by omega, by omega⟩ 15 ⟨by omega, by decide⟩ rfl (tgt := 649) (by decide) (law_put C hT h hc hi hl kk)
    · exact rw_tswK hx hb dL_law_32 ⟨by omega, by omega⟩ 16 ⟨by omega, by decide⟩ rfl (tgt := 672) (by decide) (law_sends C hT h hc hi hl kk)
    · exact rw_tswK hx hb dL_law_32 ⟨by omega, by omega⟩ 17 ⟨by omega, by decide⟩ rfl (tgt := 695) (by decide) (law_net C hT h hc hi hl kk)
    · exact rw_tswK hx hb dL_law_32 ⟨by omega, by omega⟩ 18 ⟨by omega, by decide⟩ rfl (tgt := 728) (by decide) (law_go C hT h hc hi hl kk)
    · exact rw_tswK hx hb dL_law_32 ⟨by omega, by omega⟩ 19 ⟨by omega, by decide⟩ rfl (tgt := 787) (by decide) (law_ahead C hT h hc hi hl kk)
    · exact rw_tswK hx hb dL_law_32 ⟨by omega, by omega⟩ 20 ⟨by omega, by decide⟩ rfl (tgt := 810) (by decide) (law_over C hT h hc hi hl kk)
    · exact rw_tswK hx hb dL_law_32 ⟨by omega, by omega⟩ 21 ⟨by omega, by decide⟩ rfl (tgt := 823) (by decide) (law_odds C hT h hc hi hl kk)
    · exact rw_tswK hx hb dL_law_32 ⟨by omega, by omega⟩ 22 ⟨by omega, by decide⟩ rfl (tgt := 867) (by decide) (law_mean C hT h hc hi hl kk)
    · exact rw_tswK hx hb dL_law_32 ⟨by omega, by omega⟩ 23 ⟨by omega, by decide⟩ rfl (tgt := 901) (by decide) (law_reply C hT h hc hi hl kk)
    · exact rw_tswK hx hb dL_law_32 ⟨by omega, by omega⟩ 24 ⟨by omega, by decide⟩ rfl (tgt := 944) (by decide) (law_hold C hT h hc hi hl kk)
    · exact rw_tswK hx hb dL_law_32 ⟨by omega, by omega⟩ 25 ⟨by omega, by decide⟩ rfl (tgt := 987) (by decide) (law_table C hT h hc hi hl kk)
    · exact rw_tswK hx hb dL_law_32 ⟨by omega, by omega⟩ 26 ⟨by omega, by decide⟩ rfl (tgt := 1030) (by decide) (law_without C hT h hc hi hl kk)
    · exact rw_tswK hx hb dL_law_32 ⟨by omega, by omega⟩ 27 ⟨by omega, by decide⟩ rfl (tgt := 1063) (by decide) (law_tell C hT h hc hi hl kk)
    · exact rw_tswK hx hb dL_law_32 ⟨by omega, by omega⟩ 28 ⟨by omega, by decide⟩ rfl (tgt := 1096) (by decide) (law_forget C hT h hc hi hl kk)
    · exact rw_tswK hx hb dL_law_32 ⟨by omega, by omega⟩ 29 ⟨by omega, by decide⟩ rfl (tgt := 1119) (by decide) (law_lies C hT h hc hi hl kk)
    · exact rw_tswK hx hb dL_law_32 ⟨by omega, by omega⟩ 30 ⟨by omega, by decide⟩ rfl (tgt := 1132) (by decide) (law_where C hT h hc hi hl kk)
    · exact rw_tswK hx hb dL_law_32 ⟨by omega, by omega⟩ 31 ⟨by omega, by decide⟩ rfl (tgt := 1145) (by decide) (law_play C hT h hc hi hl kk)
    · exact rw_tswK hx hb dL_law_32 ⟨by omega, by omega⟩ 32 ⟨by omega, by decide⟩ rfl (tgt := 1188) (by decide) (law_keep C hT h hc hi hl kk)
    · exact rw_tswK hx hb dL_law_32 ⟨by omega, by omega⟩ 33 ⟨by omega, by decide⟩ rfl (tgt := 1211) (by decide) (law_back C hT h hc hi hl kk)
    · exact rw_tswK hx hb dL_law_32 ⟨by omega, by omega⟩ 34 ⟨by omega, by decide⟩ rfl (tgt := 1234) (by decide) (law_sheet C hT h hc hi hl kk)
    · exact rw_tswK hx hb dL_law_32 ⟨by omega, by omega⟩ 35 ⟨by omega, by decide⟩ rfl (tgt := 1277) (by decide) (law_lay C hT h hc hi hl kk)
    · exact rw_tswK hx hb dL_law_32 ⟨by omega, by omega⟩ 36 ⟨by omega, by decide⟩ rfl (tgt := 1320) (by decide) (law_read C hT h hc hi hl kk)
    · exact rw_tswK hx hb dL_law_32 ⟨by omega, by omega⟩ 37 ⟨by omega, by decide⟩ rfl (tgt := 1373) (by decide) (law_torn C hT h hc hi hl kk)
    · exact rw_tswK hx hb dL_law_32 ⟨by omega, by omega⟩ 38 ⟨by omega, by decide⟩ rfl (tgt := 1386) (by decide) (law_count C hT h hc hi hl kk)
  · refine lv_tableOut (tgt := 1409) hx hb dL_law_32 (Or.inr ?_) (by decide) (kk _ _ _ _ hT h)
    rw [iN_toInt ⟨by omega, by omega⟩]; omega
/-- the whole loop: at its end nothing but 1 stands on the stack -/
theorem law_loop (C : LC p s m args c b L xs) (hE : SEL adK adV s) (hc : cells ≤ room_1.cells ∧ slots ≤ room_1.slots)
    (kend : ∀ (M' S' : Mem) (H1 : Heap) (locs1 : List Loc) (ls1 : Array Slot), Tw G CA ad1 ad2 s M' S' H1 locs1 → W p l e room_1 s m args below meth c H1 locs1 cells slots Q (F0 m 1415 ls1 [])) :
    ∀ (n : Nat) (i : Int) (M S : Mem) (H : Heap) (locs : List Loc) (ls : Array Slot), 0 ≤ i → i ≤ L → (L : Int) + 1 ≤ i + n → Tw G CA ad1 ad2 s M S H locs → RR M S → lv_has ls 4 [(3, .int (iN i)), (2, .ref (ad2 0)), (1, .ref (ad1 0)), (0, .ref b)] → W p l e room_1 s m args below meth c H locs cells slots Q (F0 m 18 ls []) := by
  obtain ⟨hx, hb, hml, hts, hown, hX, hbl, hL⟩ := id C
  have hbA : ¬ AL s b := Nat.not_le.mpr hbl
  intro n
  induction n with
  | zero =>
    intro i M S H locs ls h0 h1 h2
    exfalso; omega
  | succ n ih =>
    intro i M S H locs ls h0 h1 h2 hT h hl
    refine lv_iload_n hx hb dL_law_18 rfl (lv_at hl 0 rfl) ?_
    refine lv_aload_n hx hb dL_law_19 rfl (lv_at hl 3 rfl) ?_
    refine va_slen (H0 := s.heap) (A := AL s) hx hb hX hbl hbA hT.1.S dL_law_20 ?_
    refine rw_stk (st' := [.int (iN (L : Int)), .int (iN i)]) (by rw [show iN (L : Int) = Int32.ofNat L from Int32.ofInt_eq_ofNat]) ?_
    refine rw_iconst hx hb dL_law_21 ?_
    refine rw_isub hx hb dL_law_22 ?_
    refine rw_icmp_gt (tgt := 1415) hx hb dL_law_23 (by decide) ⟨by omega, by omega⟩ ⟨by omega, by omega⟩ (fun _ => kend _ _ _ _ _ hT) (fun c1 => ?_)
    have hi : 0 ≤ i ∧ i + 5 ≤ L := ⟨h0, by omega⟩
    refine law_switch C hE hT h hc hi hl (fun M' S' H1 locs1 hT1 hr => ?_)
    refine rw_iinc (lv' := [(3, .int (iN (i + 5))), (2, .ref (ad2 0)), (1, .ref (ad1 0)), (0, .ref b)]) hx hb dL_law_1409 hl (k := 0) rfl (by decide) rfl (fun ls hl => ?_)
    refine lv_goto (tgt := 18) hx hb dL_law_1412 (by decide) ?_
    exact ih (i + 5) M' S' H1 locs1 ls (by omega) (by omega) (by omega) hT1 hr hl
end LOOP
