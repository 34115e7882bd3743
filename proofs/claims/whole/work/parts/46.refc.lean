theorem shr_bits (x : Int32) : (x >>> (iN 16 &&& 31)) &&& iN 32767 = (x.toUInt32 >>> ((iN 16).toUInt32 &&& Int32.toUInt32 31)).toInt32 &&& iN 32767 := by
  apply Int32.toBitVec_inj.mp
  have e1 : (iN 16 &&& 31) = 16 := by decide
  have e2 : ((iN 16).toUInt32 &&& Int32.toUInt32 31) = 16 := by decide
  rw [e1, e2, Int32.toBitVec_and, Int32.toBitVec_and, Int32.toBitVec_shiftRight]
  have e3 : ((16 : Int32).toBitVec.smod 32) = 16#32 := by decide
  have e4 : (iN 32767).toBitVec = 32767#32 := by decide
  show BitVec.sshiftRight' x.toBitVec _ &&& _ = (x.toUInt32 >>> 16).toBitVec &&& _
  rw [e4, UInt32.toBitVec_shiftRight]
  apply BitVec.eq_of_getLsbD_eq
  intro i hi
  have e5 : (16 : UInt32).toBitVec % 32 = 16#32 := by decide
  simp only [BitVec.getLsbD_and, BitVec.sshiftRight', e3, BitVec.ushiftRight_eq', e5]
  by_cases h : i < 15
  · simp [BitVec.getLsbD_sshiftRight, BitVec.getLsbD_ushiftRight]
    have h1 : ¬ 32 ≤ i := by omega
    have h2 : 16 + i < 32 := by omega
    simp [h1, h2]
  · have : (32767#32).getLsbD i = false := by
      have : ∀ j : Fin 32, 15 ≤ j.val → (32767#32).getLsbD j.val = false := by decide
      exact this ⟨i, hi⟩ (show 15 ≤ i by omega)
    simp [this]
theorem drawS_is (x : Int32) : (x >>> (iN 16 &&& 31)) &&& iN 32767 = iN (drawC x) := by rw [shr_bits, drawC_is]
theorem tryP_34 {M M1 M2 : Mem} {p : Int} {s t : Int} (hs : s = 0 ∨ s = 1) (h1 : M1 = upd2 M 1 (p + (28 + 8 * s + 6)) 2) (h2 : M2 = upd2 M1 1 (p + (28 + 8 * s + 7)) t) : pg M2 p = tryF (pg M p) s t := by
  rw [h2, pg_put M1 (i := 28 + 8 * s + 7) (by omega) rfl rfl, h1, pg_put M (i := 28 + 8 * s + 6) (by omega) rfl rfl]
  unfold tryF
  rw [pgV_raw (by omega), pgV_raw (by omega)]
theorem place_spot (M : Mem) (p : Int) {a : Int} : (if a = 20 then -1 else if a = 21 then M 0 1 else a) = spotF (pg M p) a - 1 := by
  unfold spotF
  rw [pg_47]
  (repeat' split) <;> omega
def HBf (f : Int → Int) (s i n t b : Int) : Prop := (b = 1 ∧ ∀ k : Nat, k < t.toNat → ¬ beyondF (capN f (k + 1)) s i) ∨ (b = 0 ∧ ∃ k : Nat, k < n.toNat ∧ beyondF (capN f (k + 1)) s i)
theorem HBf.on {f : Int → Int} {s i n t b : Int} (h : HBf f s i n t b) (hb : ¬ b = 0) : ∀ k : Nat, k < t.toNat → ¬ beyondF (capN f (k + 1)) s i := by
  rcases h with ⟨-, q⟩ | ⟨q, -⟩
  · exact q
  · exact absurd q hb
theorem HBf.off {f : Int → Int} {s i n t b : Int} (h : HBf f s i n t b) (hb : b = 0) : ¬ holdsF f s i n := by
  rcases h with ⟨q, -⟩ | ⟨-, k, hk, hz⟩
  · exact absurd q (by omega)
  · exact fun hh => hh k hk hz
abbrev P_X11_copies (fz : Int) (tz : Int) (M : Mem) : Option Value → Mem → Prop := oV (fun MM => pg MM tz = pg M fz ∧ SameS M MM tz)
set_option maxRecDepth 100000 in
set_option maxHeartbeats 4000000 in
theorem c_X11_copies {l : Launch} {G : va_G} {ad : Nat → Nat} {CA : Nat → ClassId} {nt : Nat} (hnt : 6 ≤ nt) (fz : Int) (tz : Int) (hf : 0 ≤ fz ∧ fz ≤ 188) (ht : 0 ≤ tz ∧ tz ≤ 188) (hd : fz + 47 ≤ tz ∨ tz + 47 ≤ fz) (M : Mem) : Mt l yX11_copies cX11_copies 4 none 0 0 G ad CA nt LyM [.ref (ad 0), .int (iN fz), .int (iN tz)] M (P_X11_copies fz tz M) := by
  refine Mt.of (by decide) (Nat.le_of_ble_eq_true rfl) (fun p e s m args below meth c hx hb hr hml hts hown hlocks hnm hW ls hl => ?_)
  have hl : lv_has ls 4 [(0, .ref (ad 0)), (1, .int (iN fz)), (2, .int (iN tz))] := hl
  have hnt4 : 4 ≤ nt := by omega
  obtain ⟨H, hH⟩ : ∃ z, z = s.heap := ⟨_, rfl⟩
  obtain ⟨locs, hlo⟩ : ∃ z : List Loc, z = [] := ⟨_, rfl⟩
  rw [← hH, ← hlo] at hW ⊢
  have hC_2 : ∀ N : Nat, ∀ (k : Int) (Mx : Mem) (H : Heap) (locs : List Loc) (ls : Array Slot), (47 - k).toNat < N → (0 ≤ k ∧ k ≤ 47) → (SameS M Mx tz) → (∀ j, 0 ≤ j → j < k → Mx 1 (tz + j) = M 1 (fz + j)) → Wo G ad CA nt LyM (wA ad LyM) s Mx H locs → lv_has ls 4 [(0, .ref (ad 0)), (1, .int (iN fz)), (2, .int (iN tz)), (3, .int (iN k))] → Wf l 0 0 G ad CA nt LyM (P_X11_copies fz tz M) p e s m args below meth c H locs (F0 m 2 ls []) := by
    intro N
    induction N with
    | zero => intro k Mx H locs ls hN; exact absurd hN (Nat.not_lt_zero _)
    | succ N ih2 =>
      intro k Mx H locs ls hN hk hs hq hW hl
      refine lv_iload_n hx hb dX11_copies_2 rfl (lv_at hl 3 rfl) ?_
      refine rw_bipush hx hb dX11_copies_3 (by decide) ?_
      refine rw_icmp_ge (tgt := 30) hx hb dX11_copies_5 (by decide) (by omega) (by decide) (fun c_5 => ?_) (fun c_5 => ?_)
      · refine rw_vret hx hb hr hlocks hW dX11_copies_30 (⟨rfl, ?_⟩)
        exact ⟨pg_eq (congrFun (hs.1 0 (by decide)) 1) (fun j h1 h2 => hq j h1 (by omega)), hs⟩
      · refine lv_aload_n hx hb dX11_copies_8 rfl (lv_at hl 0 rfl) ?_
        refine rw_getR hx hb hts hown hW 0 lm_0 0 1 rfl fX11_7 dX11_copies_9 ?_
        refine lv_iload_n hx hb dX11_copies_12 rfl (lv_at hl 2 rfl) ?_
        refine lv_iload_n hx hb dX11_copies_13 rfl (lv_at hl 3 rfl) ?_
        refine rw_iadd hx hb dX11_copies_14 ?_
        refine lv_aload_n hx hb dX11_copies_15 rfl (lv_at hl 0 rfl) ?_
        refine rw_getR hx hb hts hown hW 0 lm_0 0 1 rfl fX11_7 dX11_copies_16 ?_
        refine lv_iload_n hx hb dX11_copies_19 rfl (lv_at hl 1 rfl) ?_
        refine lv_iload_n hx hb dX11_copies_20 rfl (lv_at hl 3 rfl) ?_
        refine rw_iadd hx hb dX11_copies_21 ?_
        refine rw_iald hx hb hW hnt4 1 lm_1 (by omega) (by omega) (by decide) dX11_copies_22 (v := (Mx 1 (fz + k))) rfl ?_
        refine rw_iast hx hb hW hnt4 1 lm_1 (v := (Mx 1 (fz + k))) (by omega) (by omega) (by decide) dX11_copies_23 (fun H locs hW => ?_)
        obtain ⟨M1, hM1⟩ : ∃ z, z = upd2 Mx 1 (tz + k) (Mx 1 (fz + k)) := ⟨_, rfl⟩
        rw [← hM1] at hW
        refine rw_iinc (lv' := [(3, .int (iN (k + 1))), (0, .ref (ad 0)), (1, .int (iN fz)), (2, .int (iN tz))]) hx hb dX11_copies_24 hl (k := 3) rfl (by decide) rfl (fun ls hl => ?_)
        refine lv_goto (tgt := 2) hx hb dX11_copies_27 (by decide) ?_
        exact ih2 (k + 1) M1 H locs ls (by omega) (by omega) (by rw [hM1]; exact hs.up (by omega)) (fun j q1 q2 => by by_cases e : j = k; subst e; rw [hM1, upd2_eq]; exact hs.2 _ (by omega); rw [hM1, upd2_ne2 (by omega)]; exact hq j q1 (by omega)) hW (lv_sub hl [1, 2, 3, 0] rfl)
  refine rw_iconst hx hb dX11_copies_0 ?_
  refine lv_istore_n (lv' := [(3, .int (iN 0)), (0, .ref (ad 0)), (1, .int (iN fz)), (2, .int (iN tz))]) hx hb dX11_copies_1 rfl hl (by decide) rfl (fun ls hl => ?_)
  exact hC_2 _ 0 M H locs ls (Nat.lt_succ_self _) (by omega) SameS.rf (fun j q1 q2 => absurd q2 (by omega)) hW (lv_sub hl [1, 2, 3, 0] rfl)
abbrev P_X11_triesOne (w : Int) (M : Mem) : Option Value → Mem → Prop := oV (fun MM => pg MM 188 = passCap (pg M 188) w ∧ SameS M MM 188)
set_option maxRecDepth 100000 in
set_option maxHeartbeats 4000000 in
theorem c_X11_triesOne {l : Launch} {G : va_G} {ad : Nat → Nat} {CA : Nat → ClassId} {nt : Nat} (hnt : 6 ≤ nt) (w : Int) (hw : w = 0 ∨ w = 1) (M : Mem) (hI : InvF (pg M 188)) : Mt l yX11_triesOne cX11_triesOne 3 none 4 99 G ad CA nt LyM [.ref (ad 0), .int (iN w)] M (P_X11_triesOne w M) := by
  refine Mt.of (by decide) (Nat.le_of_ble_eq_true rfl) (fun p e s m args below meth c hx hb hr hml hts hown hlocks hnm hW ls hl => ?_)
  have hl : lv_has ls 3 [(0, .ref (ad 0)), (1, .int (iN w))] := hl
  have hnt4 : 4 ≤ nt := by omega
  obtain ⟨H, hH⟩ : ∃ z, z = s.heap := ⟨_, rfl⟩
  obtain ⟨locs, hlo⟩ : ∃ z : List Loc, z = [] := ⟨_, rfl⟩
  rw [← hH, ← hlo] at hW ⊢
  have hc := hI.1
  have hk := hI.2.1
  have h47 : pg M 188 47 = M 0 1 := rfl
  have hrr := hI.2.2.1
  have hm := hI.2.2.2.2.1
  have hz0 := InvF.sd _ hI (s := 0) (Or.inl rfl)
  have hz1 := InvF.sd _ hI (s := 1) (Or.inr rfl)
  have hf0 := hz0.1
  have hf1 := hz1.1
  have hq0 := hz0.2.2.2.2.2
  have hq1 := hz1.2.2.2.2.2
  have hg0 := hz0.2.1
  have hg1 := hz1.2.1
  have hg2 := hz0.2.2.1
  have hg3 := hz1.2.2.1
  have hg4 := hz0.2.2.2.1
  have hg5 := hz1.2.2.2.1
  have hg6 := hz0.2.2.2.2.1
  have hg7 := hz1.2.2.2.2.1
  have hs0 := sentF_rng hI (s := 0) (Or.inl rfl)
  have hs1 := sentF_rng hI (s := 1) (Or.inr rfl)
  refine lv_aload_n hx hb dX11_triesOne_0 rfl (lv_at hl 0 rfl) ?_
  refine rw_sipush hx hb dX11_triesOne_1 (by decide) ?_
  refine rw_callV hx hb hml hts hown hW ⟨Nat.le_refl 0, Nat.le_refl 0⟩ [.int (iN 188)] 0 lm_0 rfl (c_X11_isOver (l := l) (G := G) (ad := ad) (CA := CA) (nt := nt) (by omega) 188 (by first | omega | decide) M hI) kX11_188 rfl ⟨Nat.le_of_ble_eq_true rfl, Nat.le_of_ble_eq_true rfl⟩ hl.1 rfl (Nat.le_of_ble_eq_true rfl) dX11_triesOne_4 (fun v1 M2 H locs hp3 hW => ?_)
  obtain ⟨a4, rfl, hp3, hp3m⟩ := hp3
  rw [hp3m] at hW
  rcases hp3 with ⟨rfl, hp3⟩ | ⟨rfl, hp3⟩
  · refine rw_stk (st' := [.int (iN 1)]) rfl ?_
    refine rw_if_ne (tgt := 36) hx hb dX11_triesOne_7 (by decide) (by decide) (fun _ => ?_) (fun c => absurd c (by decide))
    refine rw_vret hx hb hr hlocks hW dX11_triesOne_36 (⟨rfl, ?_⟩)
    exact ⟨by unfold passCap; rw [if_pos (by omega)], SameS.rf⟩
  · refine rw_stk (st' := [.int (iN 0)]) rfl ?_
    refine rw_if_ne (tgt := 36) hx hb dX11_triesOne_7 (by decide) (by decide) (fun c => absurd c (by decide)) (fun _ => ?_)
    refine lv_aload_n hx hb dX11_triesOne_10 rfl (lv_at hl 0 rfl) ?_
    refine rw_sipush hx hb dX11_triesOne_11 (by decide) ?_
    refine rw_iconst hx hb dX11_triesOne_14 ?_
    refine rw_callV hx hb hml hts hown hW ⟨Nat.le_refl 0, Nat.le_refl 0⟩ [.int (iN 188), .int (iN 0)] 0 lm_0 rfl (c_X11_sentBy (l := l) (G := G) (ad := ad) (CA := CA) (nt := nt) (by omega) 188 (by first | omega | decide) 0 (by first | omega | decide) M hI) kX11_191 rfl ⟨Nat.le_of_ble_eq_true rfl, Nat.le_of_ble_eq_true rfl⟩ hl.1 rfl (Nat.le_of_ble_eq_true rfl) dX11_triesOne_15 (fun v5 M6 H locs hp7 hW => ?_)
    obtain ⟨_, rfl, rfl, hp7⟩ := hp7
    rw [hp7] at hW
    refine rw_stk (st' := [.int (iN (sentF (pg M 188) 0))]) rfl ?_
    refine lv_istore_n (lv' := [(2, .int (iN (sentF (pg M 188) 0))), (0, .ref (ad 0)), (1, .int (iN w))]) hx hb dX11_triesOne_18 rfl hl (by decide) rfl (fun ls hl => ?_)
    refine lv_aload_n hx hb dX11_triesOne_19 rfl (lv_at hl 1 rfl) ?_
    refine rw_sipush hx hb dX11_triesOne_20 (by decide) ?_
    refine lv_iload_n hx hb dX11_triesOne_23 rfl (lv_at hl 0 rfl) ?_
    refine lv_aload_n hx hb dX11_triesOne_24 rfl (lv_at hl 1 rfl) ?_
    refine rw_sipush hx hb dX11_triesOne_25 (by decide) ?_
    refine rw_iconst hx hb dX11_triesOne_28 ?_
    refine rw_callV hx hb hml hts hown hW ⟨Nat.le_refl 0, Nat.le_refl 0⟩ [.int (iN 188), .int (iN 1)] 0 lm_0 rfl (c_X11_sentBy (l := l) (G := G) (ad := ad) (CA := CA) (nt := nt) (by omega) 188 (by first | omega | decide) 1 (by first | omega | decide) M hI) kX11_191 rfl ⟨Nat.le_of_ble_eq_true rfl, Nat.le_of_ble_eq_true rfl⟩ hl.1 rfl (Nat.le_of_ble_eq_true rfl) dX11_triesOne_29 (fun v8 M9 H locs hp10 hW => ?_)
    obtain ⟨_, rfl, rfl, hp10⟩ := hp10
    rw [hp10] at hW
    refine rw_stk (st' := [.int (iN (sentF (pg M 188) 1)), .int (iN (sentF (pg M 188) 0)), .int (iN 188), .ref (ad 0)]) rfl ?_
    refine lv_iload_n hx hb dX11_triesOne_32 rfl (lv_at hl 2 rfl) ?_
    refine rw_callV hx hb hml hts hown hW ⟨Nat.le_refl 0, Nat.le_refl 0⟩ [.int (iN 188), .int (iN (sentF (pg M 188) 0)), .int (iN (sentF (pg M 188) 1)), .int (iN w)] 0 lm_0 rfl (c_X11_minutes (l := l) (G := G) (ad := ad) (CA := CA) (nt := nt) (by omega) 188 (by first | omega | decide) (sentF (pg M 188) 0) (sentF (pg M 188) 1) w (by first | omega | decide) M hI (by first | omega | decide) (by first | omega | decide) (by first | omega | decide)) kX11_198 rfl ⟨Nat.le_of_ble_eq_true rfl, Nat.le_of_ble_eq_true rfl⟩ hl.1 rfl (Nat.le_of_ble_eq_true rfl) dX11_triesOne_33 (fun v11 M12 H locs hp13 hW => ?_)
    obtain ⟨rfl, hM12⟩ := hp13
    refine rw_stk (st' := []) rfl ?_
    refine rw_vret hx hb hr hlocks hW dX11_triesOne_36 (⟨rfl, ?_⟩)
    exact ⟨by unfold passCap; rw [if_neg (by omega)]; exact hM12.1, hM12.2⟩
abbrev P_X11_triesOn (n : Int) (M : Mem) : Option Value → Mem → Prop := oI (fun zz MM => zz = capN (pg M 188) n.toNat 27 ∧ pg MM 188 = capN (pg M 188) n.toNat ∧ SameS M MM 188)
set_option maxRecDepth 100000 in
set_option maxHeartbeats 4000000 in
theorem c_X11_triesOn {l : Launch} {G : va_G} {ad : Nat → Nat} {CA : Nat → ClassId} {nt : Nat} (hnt : 6 ≤ nt) (n : Int) (hn : 0 ≤ n ∧ n ≤ 60) (M : Mem) (hI : InvF (pg M 188)) (hm : pg M 188 46 ≤ 2000) : Mt l yX11_triesOn cX11_triesOn 3 (some .int) 5 121 G ad CA nt LyM [.ref (ad 0), .int (iN n)] M (P_X11_triesOn n M) := by
  refine Mt.of (by decide) (Nat.le_of_ble_eq_true rfl) (fun p e s m args below meth c hx hb hr hml hts hown hlocks hnm hW ls hl => ?_)
  have hl : lv_has ls 3 [(0, .ref (ad 0)), (1, .int (iN n))] := hl
  have hnt4 : 4 ≤ nt := by omega
  obtain ⟨H, hH⟩ : ∃ z, z = s.heap := ⟨_, rfl⟩
  obtain ⟨locs, hlo⟩ : ∃ z : List Loc, z = [] := ⟨_, rfl⟩
  rw [← hH, ← hlo] at hW ⊢
  have hC_2 : ∀ N : Nat, ∀ (t : Int) (Mx : Mem) (H : Heap) (locs : List Loc) (ls : Array Slot), (n - t).toNat < N → (0 ≤ t ∧ t ≤ n) → (pg Mx 188 = capN (pg M 188) t.toNat) → (SameS M Mx 188) → Wo G ad CA nt LyM (wA ad LyM) s Mx H locs → lv_has ls 3 [(0, .ref (ad 0)), (1, .int (iN n)), (2, .int (iN t))] → Wf l 5 121 G ad CA nt LyM (P_X11_triesOn n M) p e s m args below meth c H locs (F0 m 2 ls []) := by
    intro N
    induction N with
    | zero => intro t Mx H locs ls hN; exact absurd hN (Nat.not_lt_zero _)
    | succ N ih2 =>
      intro t Mx H locs ls hN ht hf hs hW hl
      have hJ := capN_inv hI t.toNat (by omega)
      rw [← hf] at hJ
      have hI := hJ.1
      refine lv_iload_n hx hb dX11_triesOn_2 rfl (lv_at hl 2 rfl) ?_
      refine lv_iload_n hx hb dX11_triesOn_3 rfl (lv_at hl 1 rfl) ?_
      refine rw_icmp_ge (tgt := 18) hx hb dX11_triesOn_4 (by decide) (by omega) (by omega) (fun c_4 => ?_) (fun c_4 => ?_)
      · refine lv_aload_n hx hb dX11_triesOn_18 rfl (lv_at hl 0 rfl) ?_
        refine rw_sipush hx hb dX11_triesOn_19 (by decide) ?_
        refine rw_callV hx hb hml hts hown hW ⟨Nat.le_refl 0, Nat.le_refl 0⟩ [.int (iN 188)] 0 lm_0 rfl (c_X11_keg (l := l) (G := G) (ad := ad) (CA := CA) (nt := nt) (by omega) 188 (by first | omega | decide) Mx) kX11_146 rfl ⟨Nat.le_of_ble_eq_true rfl, Nat.le_of_ble_eq_true rfl⟩ hl.1 rfl (Nat.le_of_ble_eq_true rfl) dX11_triesOn_22 (fun v1 M2 H locs hp3 hW => ?_)
        obtain ⟨_, rfl, rfl, hp3⟩ := hp3
        rw [hp3] at hW
        refine rw_stk (st' := [.int (iN (pg Mx 188 27))]) rfl ?_
        refine rw_iret hx hb hr hlocks hW dX11_triesOn_25 (⟨pg Mx 188 27, rfl, ?_⟩)
        have e : t = n := by omega
        subst e
        exact ⟨by rw [← hf], hf, hs⟩
      · refine lv_aload_n hx hb dX11_triesOn_7 rfl (lv_at hl 0 rfl) ?_
        refine rw_iconst hx hb dX11_triesOn_8 ?_
        refine rw_callV hx hb hml hts hown hW ⟨Nat.le_refl 0, Nat.le_refl 0⟩ [.int (iN 0)] 0 lm_0 rfl (c_X11_triesOne (l := l) (G := G) (ad := ad) (CA := CA) (nt := nt) (by omega) 0 (by first | omega | decide) Mx hI) kX11_206 rfl ⟨Nat.le_of_ble_eq_true rfl, Nat.le_of_ble_eq_true rfl⟩ hl.1 rfl (Nat.le_of_ble_eq_true rfl) dX11_triesOn_9 (fun v4 M5 H locs hp6 hW => ?_)
        obtain ⟨rfl, hM5⟩ := hp6
        refine rw_stk (st' := []) rfl ?_
        refine rw_iinc (lv' := [(2, .int (iN (t + 1))), (0, .ref (ad 0)), (1, .int (iN n))]) hx hb dX11_triesOn_12 hl (k := 2) rfl (by decide) rfl (fun ls hl => ?_)
        refine lv_goto (tgt := 2) hx hb dX11_triesOn_15 (by decide) ?_
        exact ih2 (t + 1) M5 H locs ls (by omega) (by omega) (by rw [hM5.1, hf, show (t + 1).toNat = t.toNat + 1 by omega]; rfl) (hs.trans hM5.2) hW (lv_sub hl [1, 2, 0] rfl)
  refine rw_iconst hx hb dX11_triesOn_0 ?_
  refine lv_istore_n (lv' := [(2, .int (iN 0)), (0, .ref (ad 0)), (1, .int (iN n))]) hx hb dX11_triesOn_1 rfl hl (by decide) rfl (fun ls hl => ?_)
  exact hC_2 _ 0 M H locs ls (Nat.lt_succ_self _) (by omega) rfl SameS.rf hW (lv_sub hl [1, 2, 0] rfl)
abbrev P_X11_ahead (n : Int) (M : Mem) : Option Value → Mem → Prop := oI (fun zz MM => ((0 ≤ n ∧ n ≤ 60) ∧ zz = capN (pg M 0) n.toNat 27 ∧ SameS M MM 188) ∨ (¬ (0 ≤ n ∧ n ≤ 60) ∧ zz = -1 ∧ MM = M))
set_option maxRecDepth 100000 in
set_option maxHeartbeats 4000000 in
theorem c_X11_ahead {l : Launch} {G : va_G} {ad : Nat → Nat} {CA : Nat → ClassId} {nt : Nat} (hnt : 6 ≤ nt) (n : Int) (hn9 : in32 n) (M : Mem) (hI : InvF (pg M 0)) (hm : pg M 0 46 ≤ 999) : Mt l yX11_ahead cX11_ahead 2 (some .int) 6 143 G ad CA nt LyM [.ref (ad 0), .int (iN n)] M (P_X11_ahead n M) := by
  refine Mt.of (by decide) (Nat.le_of_ble_eq_true rfl) (fun p e s m args below meth c hx hb hr hml hts hown hlocks hnm hW ls hl => ?_)
  have hl : lv_has ls 2 [(0, .ref (ad 0)), (1, .int (iN n))] := hl
  have hnt4 : 4 ≤ nt := by omega
  obtain ⟨H, hH⟩ : ∃ z, z = s.heap := ⟨_, rfl⟩
  obtain ⟨locs, hlo⟩ : ∃ z : List Loc, z = [] := ⟨_, rfl⟩
  rw [← hH, ← hlo] at hW ⊢
  refine lv_iload_n hx hb dX11_ahead_0 rfl (lv_at hl 1 rfl) ?_
  refine rw_i2l hx hb dX11_ahead_1 (by omega) ?_
  refine lv_lconst (v := jN 0) hx hb dX11_ahead_2 rfl ?_
  refine lv_ldc2 (v := 60) hx hb hown (hts _ (wm_31 _ (List.mem_of_getElem? (i := 9) rfl))) dX11_ahead_3 ?_
  refine rw_stk (st' := [.long (jN 60), .long (jN 0), .long (jN n)]) (by rw [show (60 : Int64) = jN 60 from by decide]) ?_
  refine rw_callS hx hb hml hts hown hW ⟨Nat.le_refl 0, Nat.le_refl 0⟩ [.long (jN n), .long (jN 0), .long (jN 60)] (c_X11_in (l := l) (G := G) (ad := ad) (CA := CA) (nt := nt) n 0 60 (by first | omega | decide) (by first | omega | decide) (by first | omega | decide) M) kX11_57 rfl ⟨Nat.le_of_ble_eq_true rfl, Nat.le_of_ble_eq_true rfl⟩ hl.1 rfl (Nat.le_of_ble_eq_true rfl) dX11_ahead_6 (fun v1 M2 H locs hp3 hW => ?_)
  obtain ⟨a4, rfl, hp3, hp3m⟩ := hp3
  rw [hp3m] at hW
  rcases hp3 with ⟨rfl, hp3⟩ | ⟨rfl, hp3⟩
  · refine rw_stk (st' := [.int (iN 1)]) rfl ?_
    refine rw_if_ne (tgt := 14) hx hb dX11_ahead_9 (by decide) (by decide) (fun _ => ?_) (fun c => absurd c (by decide))
    refine lv_aload_n hx hb dX11_ahead_14 rfl (lv_at hl 0 rfl) ?_
    refine rw_iconst hx hb dX11_ahead_15 ?_
    refine rw_sipush hx hb dX11_ahead_16 (by decide) ?_
    refine rw_callV hx hb hml hts hown hW ⟨Nat.le_refl 0, Nat.le_refl 0⟩ [.int (iN 0), .int (iN 188)] 0 lm_0 rfl (c_X11_copies (l := l) (G := G) (ad := ad) (CA := CA) (nt := nt) (by omega) 0 188 (by first | omega | decide) (by first | omega | decide) (by first | omega | decide) M) kX11_212 rfl ⟨Nat.le_of_ble_eq_true rfl, Nat.le_of_ble_eq_true rfl⟩ hl.1 rfl (Nat.le_of_ble_eq_true rfl) dX11_ahead_19 (fun v5 M6 H locs hp7 hW => ?_)
    obtain ⟨rfl, hM6⟩ := hp7
    refine rw_stk (st' := []) rfl ?_
    refine lv_aload_n hx hb dX11_ahead_22 rfl (lv_at hl 0 rfl) ?_
    refine lv_iload_n hx hb dX11_ahead_23 rfl (lv_at hl 1 rfl) ?_
    refine rw_callV hx hb hml hts hown hW ⟨Nat.le_refl 0, Nat.le_refl 0⟩ [.int (iN n)] 0 lm_0 rfl (c_X11_triesOn (l := l) (G := G) (ad := ad) (CA := CA) (nt := nt) (by omega) n (by first | omega | decide) M6 (by rw [hM6.1]; exact hI) (by rw [hM6.1]; omega)) kX11_216 rfl ⟨Nat.le_of_ble_eq_true rfl, Nat.le_of_ble_eq_true rfl⟩ hl.1 rfl (Nat.le_of_ble_eq_true rfl) dX11_ahead_24 (fun v8 M9 H locs hp10 hW => ?_)
    obtain ⟨a11, rfl, hM9⟩ := hp10
    refine rw_stk (st' := [.int (iN a11)]) rfl ?_
    refine rw_iret hx hb hr hlocks hW dX11_ahead_27 (⟨a11, rfl, ?_⟩)
    rw [hM6.1] at hM9
    exact Or.inl ⟨by omega, hM9.1, hM6.2.trans hM9.2.2⟩
  · refine rw_stk (st' := [.int (iN 0)]) rfl ?_
    refine rw_if_ne (tgt := 14) hx hb dX11_ahead_9 (by decide) (by decide) (fun c => absurd c (by decide)) (fun _ => ?_)
    refine rw_iconst hx hb dX11_ahead_12 ?_
    refine rw_iret hx hb hr hlocks hW dX11_ahead_13 (⟨(-1), rfl, ?_⟩)
    exact Or.inr ⟨by omega, rfl, rfl⟩
abbrev P_X11_over (M : Mem) : Option Value → Mem → Prop := oI (fun zz MM => OverF (pg M 0) zz ∧ SameS M MM 188)
set_option maxRecDepth 100000 in
set_option maxHeartbeats 4000000 in
theorem c_X11_over {l : Launch} {G : va_G} {ad : Nat → Nat} {CA : Nat → ClassId} {nt : Nat} (hnt : 6 ≤ nt) (M : Mem) (hI : InvF (pg M 0)) (hm : pg M 0 46 ≤ 999) : Mt l yX11_over cX11_over 2 (some .int) 5 121 G ad CA nt LyM [.ref (ad 0)] M (P_X11_over M) := by
  refine Mt.of (by decide) (Nat.le_of_ble_eq_true rfl) (fun p e s m args below meth c hx hb hr hml hts hown hlocks hnm hW ls hl => ?_)
  have hl : lv_has ls 2 [(0, .ref (ad 0))] := hl
  have hnt4 : 4 ≤ nt := by omega
  obtain ⟨H, hH⟩ : ∃ z, z = s.heap := ⟨_, rfl⟩
  obtain ⟨locs, hlo⟩ : ∃ z : List Loc, z = [] := ⟨_, rfl⟩
  rw [← hH, ← hlo] at hW ⊢
  have hC_10 : ∀ N : Nat, ∀ (t : Int) (Mx : Mem) (H : Heap) (locs : List Loc) (ls : Array Slot), (61 - t).toNat < N → (0 ≤ t ∧ t ≤ 61) → (pg Mx 188 = capN (pg M 0) t.toNat) → (SameS M Mx 188) → (∀ k : Nat, (k : Int) < t → ¬ overF (capN (pg M 0) k)) → Wo G ad CA nt LyM (wA ad LyM) s Mx H locs → lv_has ls 2 [(0, .ref (ad 0)), (1, .int (iN t))] → Wf l 5 121 G ad CA nt LyM (P_X11_over M) p e s m args below meth c H locs (F0 m 10 ls []) := by
    intro N
    induction N with
    | zero => intro t Mx H locs ls hN; exact absurd hN (Nat.not_lt_zero _)
    | succ N ih10 =>
      intro t Mx H locs ls hN ht hf hs hq hW hl
      have hJ := capN_inv hI t.toNat (by omega)
      rw [← hf] at hJ
      refine lv_iload_n hx hb dX11_over_10 rfl (lv_at hl 1 rfl) ?_
      refine rw_bipush hx hb dX11_over_11 (by decide) ?_
      refine rw_icmp_gt (tgt := 39) hx hb dX11_over_13 (by decide) (by omega) (by decide) (fun c_13 => ?_) (fun c_13 => ?_)
      · refine rw_bipush hx hb dX11_over_39 (by decide) ?_
        refine rw_iret hx hb hr hlocks hW dX11_over_41 (⟨(-4), rfl, ?_⟩)
        exact ⟨Or.inr ⟨rfl, fun k hk => hq k (by omega)⟩, hs⟩
      · refine lv_aload_n hx hb dX11_over_16 rfl (lv_at hl 0 rfl) ?_
        refine rw_sipush hx hb dX11_over_17 (by decide) ?_
        refine rw_callV hx hb hml hts hown hW ⟨Nat.le_refl 0, Nat.le_refl 0⟩ [.int (iN 188)] 0 lm_0 rfl (c_X11_isOver (l := l) (G := G) (ad := ad) (CA := CA) (nt := nt) (by omega) 188 (by first | omega | decide) Mx hJ.1) kX11_188 rfl ⟨Nat.le_of_ble_eq_true rfl, Nat.le_of_ble_eq_true rfl⟩ hl.1 rfl (Nat.le_of_ble_eq_true rfl) dX11_over_20 (fun v1 M2 H locs hp3 hW => ?_)
        obtain ⟨a4, rfl, hp3, hp3m⟩ := hp3
        rw [hp3m] at hW
        rcases hp3 with ⟨rfl, hp3⟩ | ⟨rfl, hp3⟩
        · refine rw_stk (st' := [.int (iN 1)]) rfl ?_
          refine rw_if_eq (tgt := 28) hx hb dX11_over_23 (by decide) (by decide) (fun c => absurd c (by decide)) (fun _ => ?_)
          refine lv_iload_n hx hb dX11_over_26 rfl (lv_at hl 1 rfl) ?_
          refine rw_iret hx hb hr hlocks hW dX11_over_27 (⟨t, rfl, ?_⟩)
          refine ⟨Or.inl ⟨by omega, by omega, ?_, hq⟩, hs⟩
          rw [← hf]
          assumption
        · have hno : ¬ overF (pg Mx 188) := hp3
          refine rw_stk (st' := [.int (iN 0)]) rfl ?_
          refine rw_if_eq (tgt := 28) hx hb dX11_over_23 (by decide) (by decide) (fun _ => ?_) (fun c => absurd (by decide) c)
          refine lv_aload_n hx hb dX11_over_28 rfl (lv_at hl 0 rfl) ?_
          refine rw_iconst hx hb dX11_over_29 ?_
          refine rw_callV hx hb hml hts hown hW ⟨Nat.le_refl 0, Nat.le_refl 0⟩ [.int (iN 0)] 0 lm_0 rfl (c_X11_triesOne (l := l) (G := G) (ad := ad) (CA := CA) (nt := nt) (by omega) 0 (by first | omega | decide) Mx hJ.1) kX11_206 rfl ⟨Nat.le_of_ble_eq_true rfl, Nat.le_of_ble_eq_true rfl⟩ hl.1 rfl (Nat.le_of_ble_eq_true rfl) dX11_over_30 (fun v5 M6 H locs hp7 hW => ?_)
          obtain ⟨rfl, hM6⟩ := hp7
          refine rw_stk (st' := []) rfl ?_
          refine rw_iinc (lv' := [(1, .int (iN (t + 1))), (0, .ref (ad 0))]) hx hb dX11_over_33 hl (k := 1) rfl (by decide) rfl (fun ls hl => ?_)
          refine lv_goto (tgt := 10) hx hb dX11_over_36 (by decide) ?_
          exact ih10 (t + 1) M6 H locs ls (by omega) (by omega) (by rw [hM6.1, hf, show (t + 1).toNat = t.toNat + 1 by omega]; rfl) (hs.trans hM6.2) (fun k hk => by rcases Nat.lt_or_ge k t.toNat with q | q; exact hq k (by omega); rw [show k = t.toNat by omega, ← hf]; exact hno) hW (lv_sub hl [1, 0] rfl)
  refine lv_aload_n hx hb dX11_over_0 rfl (lv_at hl 0 rfl) ?_
  refine rw_iconst hx hb dX11_over_1 ?_
  refine rw_sipush hx hb dX11_over_2 (by decide) ?_
  refine rw_callV hx hb hml hts hown hW ⟨Nat.le_refl 0, Nat.le_refl 0⟩ [.int (iN 0), .int (iN 188)] 0 lm_0 rfl (c_X11_copies (l := l) (G := G) (ad := ad) (CA := CA) (nt := nt) (by omega) 0 188 (by first | omega | decide) (by first | omega | decide) (by first | omega | decide) M) kX11_212 rfl ⟨Nat.le_of_ble_eq_true rfl, Nat.le_of_ble_eq_true rfl⟩ hl.1 rfl (Nat.le_of_ble_eq_true rfl) dX11_over_5 (fun v8 M9 H locs hp10 hW => ?_)
  obtain ⟨rfl, hM9⟩ := hp10
  refine rw_stk (st' := []) rfl ?_
  refine rw_iconst hx hb dX11_over_8 ?_
  refine lv_istore_n (lv' := [(1, .int (iN 0)), (0, .ref (ad 0))]) hx hb dX11_over_9 rfl hl (by decide) rfl (fun ls hl => ?_)
  exact hC_10 _ 0 M9 H locs ls (Nat.lt_succ_self _) (by omega) hM9.1 hM9.2 (fun k hk => absurd hk (by omega)) hW (lv_sub hl [1, 0] rfl)
abbrev P_X11_table (x : Int) (y : Int) (n : Int) (M : Mem) : Option Value → Mem → Prop := oI (fun zz MM => (((0 ≤ x ∧ x ≤ 4) ∧ (0 ≤ y ∧ y ≤ 4) ∧ 0 ≤ n ∧ n ≤ 60) ∧ zz = capN (kindsF (pg M 0) x y) n.toNat 27 ∧ SameS M MM 188) ∨ (¬ ((0 ≤ x ∧ x ≤ 4) ∧ (0 ≤ y ∧ y ≤ 4) ∧ 0 ≤ n ∧ n ≤ 60) ∧ zz = -1 ∧ MM = M))
set_option maxRecDepth 100000 in
set_option maxHeartbeats 4000000 in
theorem c_X11_table {l : Launch} {G : va_G} {ad : Nat → Nat} {CA : Nat → ClassId} {nt : Nat} (hnt : 6 ≤ nt) (x : Int) (hx9 : in32 x) (y : Int) (hy9 : in32 y) (n : Int) (hn9 : in32 n) (M : Mem) (hI : InvF (pg M 0)) (hm : pg M 0 46 ≤ 999) : Mt l yX11_table cX11_table 4 (some .int) 6 143 G ad CA nt LyM [.ref (ad 0), .int (iN x), .int (iN y), .int (iN n)] M (P_X11_table x y n M) := by
  refine Mt.of (by decide) (Nat.le_of_ble_eq_true rfl) (fun p e s m args below meth c hx hb hr hml hts hown hlocks hnm hW ls hl => ?_)
  have hl : lv_has ls 4 [(0, .ref (ad 0)), (1, .int (iN x)), (2, .int (iN y)), (3, .int (iN n))] := hl
  have hnt4 : 4 ≤ nt := by omega
  obtain ⟨H, hH⟩ : ∃ z, z = s.heap := ⟨_, rfl⟩
  obtain ⟨locs, hlo⟩ : ∃ z : List Loc, z = [] := ⟨_, rfl⟩
  rw [← hH, ← hlo] at hW ⊢
  refine lv_iload_n hx hb dX11_table_0 rfl (lv_at hl 1 rfl) ?_
  refine rw_i2l hx hb dX11_table_1 (by omega) ?_
  refine lv_lconst (v := jN 0) hx hb dX11_table_2 rfl ?_
  refine lv_ldc2 (v := 4) hx hb hown (hts _ (wm_24 _ (List.mem_of_getElem? (i := 9) rfl))) dX11_table_3 ?_
  refine rw_stk (st' := [.long (jN 4), .long (jN 0), .long (jN x)]) (by rw [show (4 : Int64) = jN 4 from by decide]) ?_
  refine rw_callS hx hb hml hts hown hW ⟨Nat.le_refl 0, Nat.le_refl 0⟩ [.long (jN x), .long (jN 0), .long (jN 4)] (c_X11_in (l := l) (G := G) (ad := ad) (CA := CA) (nt := nt) x 0 4 (by first | omega | decide) (by first | omega | decide) (by first | omega | decide) M) kX11_57 rfl ⟨Nat.le_of_ble_eq_true rfl, Nat.le_of_ble_eq_true rfl⟩ hl.1 rfl (Nat.le_of_ble_eq_true rfl) dX11_table_6 (fun v1 M2 H locs hp3 hW => ?_)
  obtain ⟨a4, rfl, hp3, hp3m⟩ := hp3
  rw [hp3m] at hW
  rcases hp3 with ⟨rfl, hp3⟩ | ⟨rfl, hp3⟩
  · refine rw_stk (st' := [.int (iN 1)]) rfl ?_
    refine rw_if_eq (tgt := 36) hx hb dX11_table_9 (by decide) (by decide) (fun c => absurd c (by decide)) (fun _ => ?_)
    refine lv_iload_n hx hb dX11_table_12 rfl (lv_at hl 2 rfl) ?_
    refine rw_i2l hx hb dX11_table_13 (by omega) ?_
    refine lv_lconst (v := jN 0) hx hb dX11_table_14 rfl ?_
    refine lv_ldc2 (v := 4) hx hb hown (hts _ (wm_24 _ (List.mem_of_getElem? (i := 9) rfl))) dX11_table_15 ?_
    refine rw_stk (st' := [.long (jN 4), .long (jN 0), .long (jN y)]) (by rw [show (4 : Int64) = jN 4 from by decide]) ?_
    refine rw_callS hx hb hml hts hown hW ⟨Nat.le_refl 0, Nat.le_refl 0⟩ [.long (jN y), .long (jN 0), .long (jN 4)] (c_X11_in (l := l) (G := G) (ad := ad) (CA := CA) (nt := nt) y 0 4 (by first | omega | decide) (by first | omega | decide) (by first | omega | decide) M) kX11_57 rfl ⟨Nat.le_of_ble_eq_true rfl, Nat.le_of_ble_eq_true rfl⟩ hl.1 rfl (Nat.le_of_ble_eq_true rfl) dX11_table_18 (fun v5 M6 H locs hp7 hW => ?_)
    obtain ⟨a8, rfl, hp7, hp7m⟩ := hp7
    rw [hp7m] at hW
    rcases hp7 with ⟨rfl, hp7⟩ | ⟨rfl, hp7⟩
    · refine rw_stk (st' := [.int (iN 1)]) rfl ?_
      refine rw_if_eq (tgt := 36) hx hb dX11_table_21 (by decide) (by decide) (fun c => absurd c (by decide)) (fun _ => ?_)
      refine lv_iload_n hx hb dX11_table_24 rfl (lv_at hl 3 rfl) ?_
      refine rw_i2l hx hb dX11_table_25 (by omega) ?_
      refine lv_lconst (v := jN 0) hx hb dX11_table_26 rfl ?_
      refine lv_ldc2 (v := 60) hx hb hown (hts _ (wm_31 _ (List.mem_of_getElem? (i := 9) rfl))) dX11_table_27 ?_
      refine rw_stk (st' := [.long (jN 60), .long (jN 0), .long (jN n)]) (by rw [show (60 : Int64) = jN 60 from by decide]) ?_
      refine rw_callS hx hb hml hts hown hW ⟨Nat.le_refl 0, Nat.le_refl 0⟩ [.long (jN n), .long (jN 0), .long (jN 60)] (c_X11_in (l := l) (G := G) (ad := ad) (CA := CA) (nt := nt) n 0 60 (by first | omega | decide) (by first | omega | decide) (by first | omega | decide) M) kX11_57 rfl ⟨Nat.le_of_ble_eq_true rfl, Nat.le_of_ble_eq_true rfl⟩ hl.1 rfl (Nat.le_of_ble_eq_true rfl) dX11_table_30 (fun v9 M10 H locs hp11 hW => ?_)
      obtain ⟨a12, rfl, hp11, hp11m⟩ := hp11
      rw [hp11m] at hW
      rcases hp11 with ⟨rfl, hp11⟩ | ⟨rfl, hp11⟩
      · refine rw_stk (st' := [.int (iN 1)]) rfl ?_
        refine rw_if_ne (tgt := 38) hx hb dX11_table_33 (by decide) (by decide) (fun _ => ?_) (fun c => absurd c (by decide))
        refine lv_aload_n hx hb dX11_table_38 rfl (lv_at hl 0 rfl) ?_
        refine rw_iconst hx hb dX11_table_39 ?_
        refine rw_sipush hx hb dX11_table_40 (by decide) ?_
        refine rw_callV hx hb hml hts hown hW ⟨Nat.le_refl 0, Nat.le_refl 0⟩ [.int (iN 0), .int (iN 188)] 0 lm_0 rfl (c_X11_copies (l := l) (G := G) (ad := ad) (CA := CA) (nt := nt) (by omega) 0 188 (by first | omega | decide) (by first | omega | decide) (by first | omega | decide) M) kX11_212 rfl ⟨Nat.le_of_ble_eq_true rfl, Nat.le_of_ble_eq_true rfl⟩ hl.1 rfl (Nat.le_of_ble_eq_true rfl) dX11_table_43 (fun v13 M14 H locs hp15 hW => ?_)
        obtain ⟨rfl, hM14⟩ := hp15
        refine rw_stk (st' := []) rfl ?_
        refine lv_aload_n hx hb dX11_table_46 rfl (lv_at hl 0 rfl) ?_
        refine rw_getR hx hb hts hown hW 0 lm_0 0 1 rfl fX11_7 dX11_table_47 ?_
        refine rw_sipush hx hb dX11_table_50 (by decide) ?_
        refine lv_iload_n hx hb dX11_table_53 rfl (lv_at hl 1 rfl) ?_
        refine rw_iast hx hb hW hnt4 1 lm_1 (v := x) (by omega) (by omega) (by decide) dX11_table_54 (fun H locs hW => ?_)
        obtain ⟨M16, hM16⟩ : ∃ z, z = upd2 M14 1 222 x := ⟨_, rfl⟩
        rw [← hM16] at hW
        refine lv_aload_n hx hb dX11_table_55 rfl (lv_at hl 0 rfl) ?_
        refine rw_getR hx hb hts hown hW 0 lm_0 0 1 rfl fX11_7 dX11_table_56 ?_
        refine rw_sipush hx hb dX11_table_59 (by decide) ?_
        refine lv_iload_n hx hb dX11_table_62 rfl (lv_at hl 2 rfl) ?_
        refine rw_iast hx hb hW hnt4 1 lm_1 (v := y) (by omega) (by omega) (by decide) dX11_table_63 (fun H locs hW => ?_)
        obtain ⟨M17, hM17⟩ : ∃ z, z = upd2 M16 1 230 y := ⟨_, rfl⟩
        rw [← hM17] at hW
        have e2 : pg M16 188 = setF (pg M14 188) 34 x := by rw [hM16]; exact pg_put M14 (i := 34) (by decide) (by decide) rfl
        have e3 : pg M17 188 = kindsF (pg M 0) x y := by rw [hM17, kindsF, ← hM14.1, ← e2]; exact pg_put M16 (i := 42) (by decide) (by decide) rfl
        have hs3 : SameS M M17 188 := by rw [hM17, hM16]; exact (hM14.2.up (by decide)).up (by decide)
        refine lv_aload_n hx hb dX11_table_64 rfl (lv_at hl 0 rfl) ?_
        refine lv_iload_n hx hb dX11_table_65 rfl (lv_at hl 3 rfl) ?_
        refine rw_callV hx hb hml hts hown hW ⟨Nat.le_refl 0, Nat.le_refl 0⟩ [.int (iN n)] 0 lm_0 rfl (c_X11_triesOn (l := l) (G := G) (ad := ad) (CA := CA) (nt := nt) (by omega) n (by first | omega | decide) M17 (by rw [e3]; exact kindsF_inv hI (by omega) (by omega)) (by rw [e3, kindsF_46]; omega)) kX11_216 rfl ⟨Nat.le_of_ble_eq_true rfl, Nat.le_of_ble_eq_true rfl⟩ hl.1 rfl (Nat.le_of_ble_eq_true rfl) dX11_table_66 (fun v18 M19 H locs hp20 hW => ?_)
        obtain ⟨a21, rfl, hM19⟩ := hp20
        refine rw_stk (st' := [.int (iN a21)]) rfl ?_
        refine rw_iret hx hb hr hlocks hW dX11_table_69 (⟨a21, rfl, ?_⟩)
        rw [e3] at hM19
        exact Or.inl ⟨by omega, hM19.1, hs3.trans hM19.2.2⟩
      · refine rw_stk (st' := [.int (iN 0)]) rfl ?_
        refine rw_if_ne (tgt := 38) hx hb dX11_table_33 (by decide) (by decide) (fun c => absurd c (by decide)) (fun _ => ?_)
        refine rw_iconst hx hb dX11_table_36 ?_
        refine rw_iret hx hb hr hlocks hW dX11_table_37 (⟨(-1), rfl, ?_⟩)
        exact Or.inr ⟨by omega, rfl, rfl⟩
    · refine rw_stk (st' := [.int (iN 0)]) rfl ?_
      refine rw_if_eq (tgt := 36) hx hb dX11_table_21 (by decide) (by decide) (fun _ => ?_) (fun c => absurd (by decide) c)
      refine rw_iconst hx hb dX11_table_36 ?_
      refine rw_iret hx hb hr hlocks hW dX11_table_37 (⟨(-1), rfl, ?_⟩)
      exact Or.inr ⟨by omega, rfl, rfl⟩
  · refine rw_stk (st' := [.int (iN 0)]) rfl ?_
    refine rw_if_eq (tgt := 36) hx hb dX11_table_9 (by decide) (by decide) (fun _ => ?_) (fun c => absurd (by decide) c)
    refine rw_iconst hx hb dX11_table_36 ?_
    refine rw_iret hx hb hr hlocks hW dX11_table_37 (⟨(-1), rfl, ?_⟩)
    exact Or.inr ⟨by omega, rfl, rfl⟩
abbrev P_X11_without (i : Int) (n : Int) (M : Mem) : Option Value → Mem → Prop := oI (fun zz MM => (((0 ≤ i ∧ i < pg M 0 47) ∧ 0 ≤ n ∧ n ≤ 60) ∧ zz = capN (setF (pg M 0) (3 * i + 2) 0) n.toNat 27 ∧ SameS M MM 188) ∨ (¬ ((0 ≤ i ∧ i < pg M 0 47) ∧ 0 ≤ n ∧ n ≤ 60) ∧ zz = -1 ∧ MM = M))
set_option maxRecDepth 100000 in
set_option maxHeartbeats 4000000 in
theorem c_X11_without {l : Launch} {G : va_G} {ad : Nat → Nat} {CA : Nat → ClassId} {nt : Nat} (hnt : 6 ≤ nt) (i : Int) (hi9 : in32 i) (n : Int) (hn9 : in32 n) (M : Mem) (hI : InvF (pg M 0)) (hm : pg M 0 46 ≤ 999) : Mt l yX11_without cX11_without 3 (some .int) 6 143 G ad CA nt LyM [.ref (ad 0), .int (iN i), .int (iN n)] M (P_X11_without i n M) := by
  refine Mt.of (by decide) (Nat.le_of_ble_eq_true rfl) (fun p e s m args below meth c hx hb hr hml hts hown hlocks hnm hW ls hl => ?_)
  have hl : lv_has ls 3 [(0, .ref (ad 0)), (1, .int (iN i)), (2, .int (iN n))] := hl
  have hnt4 : 4 ≤ nt := by omega
  obtain ⟨H, hH⟩ : ∃ z, z = s.heap := ⟨_, rfl⟩
  obtain ⟨locs, hlo⟩ : ∃ z : List Loc, z = [] := ⟨_, rfl⟩
  rw [← hH, ← hlo] at hW ⊢
  have hc := hI.1
  have h47 : pg M 0 47 = M 0 1 := rfl
  refine lv_aload_n hx hb dX11_without_0 rfl (lv_at hl 0 rfl) ?_
  refine lv_iload_n hx hb dX11_without_1 rfl (lv_at hl 1 rfl) ?_
  refine rw_callV hx hb hml hts hown hW ⟨Nat.le_refl 0, Nat.le_refl 0⟩ [.int (iN i)] 0 lm_0 rfl (c_X11_isCell (l := l) (G := G) (ad := ad) (CA := CA) (nt := nt) (by omega) i (by first | omega | decide) M hc) kX11_142 rfl ⟨Nat.le_of_ble_eq_true rfl, Nat.le_of_ble_eq_true rfl⟩ hl.1 rfl (Nat.le_of_ble_eq_true rfl) dX11_without_2 (fun v1 M2 H locs hp3 hW => ?_)
  obtain ⟨a4, rfl, hp3, hp3m⟩ := hp3
  rw [hp3m] at hW
  rcases hp3 with ⟨rfl, hp3⟩ | ⟨rfl, hp3⟩
  · refine rw_stk (st' := [.int (iN 1)]) rfl ?_
    refine rw_if_eq (tgt := 20) hx hb dX11_without_5 (by decide) (by decide) (fun c => absurd c (by decide)) (fun _ => ?_)
    refine lv_iload_n hx hb dX11_without_8 rfl (lv_at hl 2 rfl) ?_
    refine rw_i2l hx hb dX11_without_9 (by omega) ?_
    refine lv_lconst (v := jN 0) hx hb dX11_without_10 rfl ?_
    refine lv_ldc2 (v := 60) hx hb hown (hts _ (wm_31 _ (List.mem_of_getElem? (i := 9) rfl))) dX11_without_11 ?_
    refine rw_stk (st' := [.long (jN 60), .long (jN 0), .long (jN n)]) (by rw [show (60 : Int64) = jN 60 from by decide]) ?_
    refine rw_callS hx hb hml hts hown hW ⟨Nat.le_refl 0, Nat.le_refl 0⟩ [.long (jN n), .long (jN 0), .long (jN 60)] (c_X11_in (l := l) (G := G) (ad := ad) (CA := CA) (nt := nt) n 0 60 (by first | omega | decide) (by first | omega | decide) (by first | omega | decide) M) kX11_57 rfl ⟨Nat.le_of_ble_eq_true rfl, Nat.le_of_ble_eq_true rfl⟩ hl.1 rfl (Nat.le_of_ble_eq_true rfl) dX11_without_14 (fun v5 M6 H locs hp7 hW => ?_)
    obtain ⟨a8, rfl, hp7, hp7m⟩ := hp7
    rw [hp7m] at hW
    rcases hp7 with ⟨rfl, hp7⟩ | ⟨rfl, hp7⟩
    · refine rw_stk (st' := [.int (iN 1)]) rfl ?_
      refine rw_if_ne (tgt := 22) hx hb dX11_without_17 (by decide) (by decide) (fun _ => ?_) (fun c => absurd c (by decide))
      refine lv_aload_n hx hb dX11_without_22 rfl (lv_at hl 0 rfl) ?_
      refine rw_iconst hx hb dX11_without_23 ?_
      refine rw_sipush hx hb dX11_without_24 (by decide) ?_
      refine rw_callV hx hb hml hts hown hW ⟨Nat.le_refl 0, Nat.le_refl 0⟩ [.int (iN 0), .int (iN 188)] 0 lm_0 rfl (c_X11_copies (l := l) (G := G) (ad := ad) (CA := CA) (nt := nt) (by omega) 0 188 (by first | omega | decide) (by first | omega | decide) (by first | omega | decide) M) kX11_212 rfl ⟨Nat.le_of_ble_eq_true rfl, Nat.le_of_ble_eq_true rfl⟩ hl.1 rfl (Nat.le_of_ble_eq_true rfl) dX11_without_27 (fun v9 M10 H locs hp11 hW => ?_)
      obtain ⟨rfl, hM10⟩ := hp11
      refine rw_stk (st' := []) rfl ?_
      refine lv_aload_n hx hb dX11_without_30 rfl (lv_at hl 0 rfl) ?_
      refine rw_getR hx hb hts hown hW 0 lm_0 0 1 rfl fX11_7 dX11_without_31 ?_
      refine rw_sipush hx hb dX11_without_34 (by decide) ?_
      refine rw_iconst hx hb dX11_without_37 ?_
      refine lv_iload_n hx hb dX11_without_38 rfl (lv_at hl 1 rfl) ?_
      refine rw_imul hx hb dX11_without_39 ?_
      refine rw_iadd hx hb dX11_without_40 ?_
      refine rw_iconst hx hb dX11_without_41 ?_
      refine rw_iadd hx hb dX11_without_42 ?_
      refine rw_iconst hx hb dX11_without_43 ?_
      refine rw_iast hx hb hW hnt4 1 lm_1 (v := 0) (by omega) (by omega) (by decide) dX11_without_44 (fun H locs hW => ?_)
      obtain ⟨M12, hM12⟩ : ∃ z, z = upd2 M10 1 ((188 + (3 * i)) + 2) 0 := ⟨_, rfl⟩
      rw [← hM12] at hW
      have e3 : pg M12 188 = setF (pg M 0) (3 * i + 2) 0 := by rw [hM12, ← hM10.1]; exact pg_put M10 (i := 3 * i + 2) (by omega) (by omega) (by rw [pgV_h (by omega)])
      have hs3 : SameS M M12 188 := by rw [hM12]; exact hM10.2.up (by omega)
      refine lv_aload_n hx hb dX11_without_45 rfl (lv_at hl 0 rfl) ?_
      refine lv_iload_n hx hb dX11_without_46 rfl (lv_at hl 2 rfl) ?_
      refine rw_callV hx hb hml hts hown hW ⟨Nat.le_refl 0, Nat.le_refl 0⟩ [.int (iN n)] 0 lm_0 rfl (c_X11_triesOn (l := l) (G := G) (ad := ad) (CA := CA) (nt := nt) (by omega) n (by first | omega | decide) M12 (by rw [e3]; exact InvF_cell hI (by omega) (by omega)) (by rw [e3, setF_ne _ _ (by omega)]; omega)) kX11_216 rfl ⟨Nat.le_of_ble_eq_true rfl, Nat.le_of_ble_eq_true rfl⟩ hl.1 rfl (Nat.le_of_ble_eq_true rfl) dX11_without_47 (fun v13 M14 H locs hp15 hW => ?_)
      obtain ⟨a16, rfl, hM14⟩ := hp15
      refine rw_stk (st' := [.int (iN a16)]) rfl ?_
      refine rw_iret hx hb hr hlocks hW dX11_without_50 (⟨a16, rfl, ?_⟩)
      rw [e3] at hM14
      exact Or.inl ⟨by omega, hM14.1, hs3.trans hM14.2.2⟩
    · refine rw_stk (st' := [.int (iN 0)]) rfl ?_
      refine rw_if_ne (tgt := 22) hx hb dX11_without_17 (by decide) (by decide) (fun c => absurd c (by decide)) (fun _ => ?_)
      refine rw_iconst hx hb dX11_without_20 ?_
      refine rw_iret hx hb hr hlocks hW dX11_without_21 (⟨(-1), rfl, ?_⟩)
      exact Or.inr ⟨by omega, rfl, rfl⟩
  · refine rw_stk (st' := [.int (iN 0)]) rfl ?_
    refine rw_if_eq (tgt := 20) hx hb dX11_without_5 (by decide) (by decide) (fun _ => ?_) (fun c => absurd (by decide) c)
    refine rw_iconst hx hb dX11_without_20 ?_
    refine rw_iret hx hb hr hlocks hW dX11_without_21 (⟨(-1), rfl, ?_⟩)
    exact Or.inr ⟨by omega, rfl, rfl⟩
abbrev P_X11_place (a : Int) (M : Mem) : Option Value → Mem → Prop := oI (fun zz MM => zz = (if a = 20 then -1 else if a = 21 then M 0 1 else a) ∧ MM = M)
set_option maxRecDepth 100000 in
set_option maxHeartbeats 4000000 in
theorem c_X11_place {l : Launch} {G : va_G} {ad : Nat → Nat} {CA : Nat → ClassId} {nt : Nat} (hnt : 6 ≤ nt) (a : Int) (ha : in32 a) (M : Mem) : Mt l yX11_place cX11_place 2 (some .int) 0 0 G ad CA nt LyM [.ref (ad 0), .int (iN a)] M (P_X11_place a M) := by
  refine Mt.of (by decide) (Nat.le_of_ble_eq_true rfl) (fun p e s m args below meth c hx hb hr hml hts hown hlocks hnm hW ls hl => ?_)
  have hl : lv_has ls 2 [(0, .ref (ad 0)), (1, .int (iN a))] := hl
  have hnt4 : 4 ≤ nt := by omega
  obtain ⟨H, hH⟩ : ∃ z, z = s.heap := ⟨_, rfl⟩
  obtain ⟨locs, hlo⟩ : ∃ z : List Loc, z = [] := ⟨_, rfl⟩
  rw [← hH, ← hlo] at hW ⊢
  refine lv_iload_n hx hb dX11_place_0 rfl (lv_at hl 1 rfl) ?_
  refine rw_bipush hx hb dX11_place_1 (by decide) ?_
  refine rw_icmp_ne (tgt := 10) hx hb dX11_place_3 (by decide) (by omega) (by decide) (fun c_3 => ?_) (fun c_3 => ?_)
  · refine lv_iload_n hx hb dX11_place_10 rfl (lv_at hl 1 rfl) ?_
    refine rw_bipush hx hb dX11_place_11 (by decide) ?_
    refine rw_icmp_ne (tgt := 23) hx hb dX11_place_13 (by decide) (by omega) (by decide) (fun c_13 => ?_) (fun c_13 => ?_)
    · refine lv_iload_n hx hb dX11_place_23 rfl (lv_at hl 1 rfl) ?_
      refine rw_iret hx hb hr hlocks hW dX11_place_24 (⟨a, rfl, ?_⟩)
      exact ⟨by (repeat' split) <;> omega, rfl⟩
    · refine lv_aload_n hx hb dX11_place_16 rfl (lv_at hl 0 rfl) ?_
      refine rw_getI hx hb hts hown hW 0 lm_0 1 1 rfl rfl fX11_13 dX11_place_17 (v := (M 0 1)) rfl ?_
      refine lv_goto (tgt := 24) hx hb dX11_place_20 (by decide) ?_
      refine rw_iret hx hb hr hlocks hW dX11_place_24 (⟨(M 0 1), rfl, ?_⟩)
      exact ⟨by (repeat' split) <;> omega, rfl⟩
  · refine rw_iconst hx hb dX11_place_6 ?_
    refine lv_goto (tgt := 24) hx hb dX11_place_7 (by decide) ?_
    refine rw_iret hx hb hr hlocks hW dX11_place_24 (⟨(-1), rfl, ?_⟩)
    exact ⟨by (repeat' split) <;> omega, rfl⟩
