def st0 : PX := .inr (0, 0, 0, fun _ _ => false, setF clearF 27 (-1))
theorem bitB_0 (b : Int) : bitB 0 b = false := by
  unfold bitB
  rw [Int.zero_ediv]
  rfl
abbrev P_X3_open (M : Mem) : Option Value → Mem → Prop := oV (fun MM => Rn M MM st0)
set_option maxRecDepth 100000 in
set_option maxHeartbeats 4000000 in
theorem c_X3_open {l : Launch} {G : va_G} {ad : Nat → Nat} {CA : Nat → ClassId} {nt : Nat} (hnt : 6 ≤ nt) (M : Mem) (hTp : 0 ≤ M 18 1 ∧ M 18 1 ≤ 320) : Mt l yX3_open cX3_open 2 none 2 42 G ad CA nt LyK [.ref (ad 17)] M (P_X3_open M) := by
  refine Mt.of (by decide) (Nat.le_of_ble_eq_true rfl) (fun p e s m args below meth c hx hb hr hml hts hown hlocks hnm hW ls hl => ?_)
  have hl : lv_has ls 2 [(0, .ref (ad 17))] := hl
  have hnt4 : 4 ≤ nt := by omega
  obtain ⟨H, hH⟩ : ∃ z, z = s.heap := ⟨_, rfl⟩
  obtain ⟨locs, hlo⟩ : ∃ z : List Loc, z = [] := ⟨_, rfl⟩
  rw [← hH, ← hlo] at hW ⊢
  refine lv_aload_n hx hb dX3_open_0 rfl (lv_at hl 0 rfl) ?_
  refine rw_getR hx hb hts hown hW 17 lk_17 0 18 rfl fX3_12 dX3_open_1 ?_
  refine rw_callV hx hb hml hts hown hW ⟨Nat.le_refl 0, Nat.le_refl 0⟩ [] 18 lk_18 rfl (c_X8_rewind (l := l) (G := G) (ad := ad) (CA := CA) (nt := nt) M) kX3_29 rfl ⟨Nat.le_of_ble_eq_true rfl, Nat.le_of_ble_eq_true rfl⟩ hl.1 rfl (Nat.le_of_ble_eq_true rfl) dX3_open_4 (fun v1 M2 H locs hp3 hW => ?_)
  obtain ⟨rfl, hM2⟩ := hp3
  refine rw_stk (st' := []) rfl ?_
  refine lv_aload_n hx hb dX3_open_7 rfl (lv_at hl 0 rfl) ?_
  refine rw_getR hx hb hts hown hW 17 lk_17 1 20 rfl fX3_21 dX3_open_8 ?_
  refine rw_callV hx hb hml hts hown hW ⟨Nat.le_refl 0, Nat.le_refl 0⟩ [] 20 fk_20.1 rfl (c_X0_clear (l := l) (G := G) (ad := ad) (CA := CA) (nt := nt) (by omega) 20 fk_20 M2) kX3_32 rfl ⟨Nat.le_of_ble_eq_true rfl, Nat.le_of_ble_eq_true rfl⟩ hl.1 rfl (Nat.le_of_ble_eq_true rfl) dX3_open_11 (fun v4 M5 H locs hp6 hW => ?_)
  obtain ⟨rfl, hM5⟩ := hp6
  refine rw_stk (st' := []) rfl ?_
  refine lv_aload_n hx hb dX3_open_14 rfl (lv_at hl 0 rfl) ?_
  refine rw_getR hx hb hts hown hW 17 lk_17 1 20 rfl fX3_21 dX3_open_15 ?_
  refine rw_iconst hx hb dX3_open_18 ?_
  refine rw_putI hx hb hts hown hW 20 fk_20.1 1 1 rfl rfl qX3_35 (v := (-1)) dX3_open_19 (fun H locs hW => ?_)
  obtain ⟨M7, hM7⟩ : ∃ z, z = upd2 M5 20 1 (-1) := ⟨_, rfl⟩
  rw [← hM7] at hW
  refine rw_iconst hx hb dX3_open_22 ?_
  refine lv_istore_n (lv' := [(1, .int (iN 0)), (0, .ref (ad 17))]) hx hb dX3_open_23 rfl hl (by decide) rfl (fun ls hl => ?_)
  have hC_24 : ∀ N : Nat, ∀ (i : Int) (Mx : Mem) (H : Heap) (locs : List Loc) (ls : Array Slot), (9 - i).toNat < N → (0 ≤ i ∧ i ≤ 9) → (∀ j, 0 ≤ j → j < i → Mx 28 j = 0) → (∀ (q : Nat) (j : Int), ¬ ((q = 18 ∧ 2 ≤ j) ∨ (20 ≤ q ∧ q ≤ 28)) → Mx q j = M q j) → (fld Mx 20 = setF clearF 27 (-1)) → (Mx 18 2 = 0) → Wo G ad CA nt LyK (wA ad LyK) s Mx H locs → lv_has ls 2 [(0, .ref (ad 17)), (1, .int (iN i))] → Wf l 2 42 G ad CA nt LyK (P_X3_open M) p e s m args below meth c H locs (F0 m 24 ls []) := by
    intro N
    induction N with
    | zero => intro i Mx H locs ls hN; exact absurd hN (Nat.not_lt_zero _)
    | succ N ih =>
      intro i Mx H locs ls hN hi hz hfr hf h2 hW hl
      refine lv_iload_n hx hb dX3_open_24 rfl (lv_at hl 1 rfl) ?_
      refine rw_bipush hx hb dX3_open_25 (by decide) ?_
      refine rw_icmp_ge (tgt := 43) hx hb dX3_open_27 (by decide) (by omega) (by decide) (fun c_27 => ?_) (fun c_27 => ?_)
      · refine lv_aload_n hx hb dX3_open_43 rfl (lv_at hl 0 rfl) ?_
        refine rw_iconst hx hb dX3_open_44 ?_
        refine rw_putI hx hb hts hown hW 17 lk_17 3 3 rfl rfl qX3_39 (v := 0) dX3_open_45 (fun H locs hW => ?_)
        obtain ⟨M8, hM8⟩ : ∃ z, z = upd2 Mx 17 3 0 := ⟨_, rfl⟩
        rw [← hM8] at hW
        refine lv_aload_n hx hb dX3_open_48 rfl (lv_at hl 0 rfl) ?_
        refine rw_iconst hx hb dX3_open_49 ?_
        refine rw_putI hx hb hts hown hW 17 lk_17 4 4 rfl rfl qX3_42 (v := 0) dX3_open_50 (fun H locs hW => ?_)
        obtain ⟨M9, hM9⟩ : ∃ z, z = upd2 M8 17 4 0 := ⟨_, rfl⟩
        rw [← hM9] at hW
        refine rw_vret hx hb hr hlocks hW dX3_open_53 (⟨rfl, ?_⟩)
        have e : ∀ (q : Nat) (j : Int), ¬ (q = 17 ∧ (j = 3 ∨ j = 4)) → M9 q j = Mx q j := fun q j hq => by rw [hM9, hM8, upd2_at, if_neg (by omega), upd2_at, if_neg (by omega)]
        have e3 : M9 17 3 = 0 := by rw [hM9, hM8, upd2_at, if_neg (by omega), upd2_eq]
        have e4 : M9 17 4 = 0 := by rw [hM9, hM8, upd2_eq]
        refine ⟨⟨fun q j hq => (e q j (by omega)).trans (hfr q j (by omega)), by rw [e 18 2 (by omega), h2]; omega, ⟨by rw [e3]; decide, by rw [e 20 0 (by omega), e 20 1 (by omega), ← fld_47 Mx 20, ← fld_27 Mx 20, hf]; decide⟩, fun j z1 z2 => by rw [e 28 j (by omega), hz j z1 (by omega)]; decide, by omega⟩, e4, (e 18 2 (by omega)).trans h2, e3, ?_, fun l b z1 z2 z3 z4 => by rw [e 28 l (by omega), hz l z1 (by omega)]; exact bitB_0 b⟩
        rw [← hf]; exact fld_eq8 (fun q z1 z2 => funext fun j => e q j (by omega))
      · refine lv_aload_n hx hb dX3_open_30 rfl (lv_at hl 0 rfl) ?_
        refine rw_getR hx hb hts hown hW 17 lk_17 2 28 rfl fX3_25 dX3_open_31 ?_
        refine lv_iload_n hx hb dX3_open_34 rfl (lv_at hl 1 rfl) ?_
        refine rw_iconst hx hb dX3_open_35 ?_
        refine rw_iast hx hb hW hnt4 28 lk_28 (v := 0) (by omega) (by omega) (by decide) dX3_open_36 (fun H locs hW => ?_)
        obtain ⟨M10, hM10⟩ : ∃ z, z = upd2 Mx 28 i 0 := ⟨_, rfl⟩
        rw [← hM10] at hW
        refine rw_iinc (lv' := [(1, .int (iN (i + 1))), (0, .ref (ad 17))]) hx hb dX3_open_37 hl (k := 1) rfl (by decide) rfl (fun ls hl => ?_)
        refine lv_goto (tgt := 24) hx hb dX3_open_40 (by decide) ?_
        exact ih (i + 1) M10 H locs ls (by omega) (by omega) (fun j q1 q2 => by by_cases e : j = i; subst e; simp [hM10, upd2_at]; simp [hM10, upd2_at, e]; exact hz j q1 (by omega)) (fun q j hq => by rw [hM10, upd2_at, if_neg (by omega)]; exact hfr q j hq) (by rw [hM10, ← hf]; exact fld_eq8 (fun q h1 h2 => upd2_ne1 (by omega))) (by rw [hM10, upd2_ne1 (by decide)]; exact h2) hW (lv_sub hl [1, 0] rfl)
  exact hC_24 _ 0 M7 H locs ls (Nat.lt_succ_self _) (by omega) (fun j q1 q2 => absurd q2 (by omega)) (fun q j hq => by rw [hM7, upd2_at, if_neg (by omega), hM5.2 q (by omega), hM2, upd2_at, if_neg (by omega)]) (by rw [hM7, fld_setown M5 20 1 27 (-1) (by decide), hM5.1]) (by rw [hM7, upd2_ne1 (by decide), hM5.2 18 (by omega), hM2, upd2_eq]) hW (lv_sub hl [1, 0] rfl)
