abbrev P_X11_reply (sx : Int) (n : Int) (w : Int) (M : Mem) : Option Value → Mem → Prop := oI (fun zz MM => (((sx = 0 ∨ sx = 1) ∧ (1 ≤ n ∧ n ≤ 4) ∧ (w = 0 ∨ (10 ≤ w ∧ w ≤ 9 + n))) ∧ pg M 0 27 < pg M 0 47 ∧ zz = (if w = 0 then (FBr n sx (pg M 0) (M 8) (p13 n).toNat).2.1 else (FBr n sx (pg M 0) (M 8) (p13 n).toNat).2.2 (w - 10)) ∧ SameN M MM) ∨ (((sx = 0 ∨ sx = 1) ∧ (1 ≤ n ∧ n ≤ 4) ∧ (w = 0 ∨ (10 ≤ w ∧ w ≤ 9 + n))) ∧ pg M 0 47 ≤ pg M 0 27 ∧ zz = -2 ∧ MM = M) ∨ (¬ ((sx = 0 ∨ sx = 1) ∧ (1 ≤ n ∧ n ≤ 4) ∧ (w = 0 ∨ (10 ≤ w ∧ w ≤ 9 + n))) ∧ zz = -1 ∧ MM = M))
set_option maxRecDepth 100000 in
set_option maxHeartbeats 4000000 in
theorem c_X11_reply {l : Launch} {G : va_G} {ad : Nat → Nat} {CA : Nat → ClassId} {nt : Nat} (hnt : 6 ≤ nt) (sx : Int) (hsx9 : in32 sx) (n : Int) (hn9 : in32 n) (w : Int) (hw9 : in32 w) (M : Mem) (hI : InvF (pg M 0)) (hm : pg M 0 46 ≤ 999) : Mt l yX11_reply cX11_reply 11 (some .int) 5 124 G ad CA nt LyM [.ref (ad 0), .int (iN sx), .int (iN n), .int (iN w)] M (P_X11_reply sx n w M) := by
  refine Mt.of (by decide) (Nat.le_of_ble_eq_true rfl) (fun p e s m args below meth c hx hb hr hml hts hown hlocks hnm hW ls hl => ?_)
  have hl : lv_has ls 11 [(0, .ref (ad 0)), (1, .int (iN sx)), (2, .int (iN n)), (3, .int (iN w))] := hl
  have hnt4 : 4 ≤ nt := by omega
  obtain ⟨H, hH⟩ : ∃ z, z = s.heap := ⟨_, rfl⟩
  obtain ⟨locs, hlo⟩ : ∃ z : List Loc, z = [] := ⟨_, rfl⟩
  rw [← hH, ← hlo] at hW ⊢
  have hc := hI.1
  have h47 : pg M 0 47 = M 0 1 := rfl
  have hk := hI.2.1
  refine lv_iload_n hx hb dX11_reply_0 rfl (lv_at hl 1 rfl) ?_
  refine rw_callS hx hb hml hts hown hW ⟨Nat.le_refl 0, Nat.le_refl 0⟩ [.int (iN sx)] (c_X11_isSide (l := l) (G := G) (ad := ad) (CA := CA) (nt := nt) sx (by first | omega | decide) M) kX11_151 rfl ⟨Nat.le_of_ble_eq_true rfl, Nat.le_of_ble_eq_true rfl⟩ hl.1 rfl (Nat.le_of_ble_eq_true rfl) dX11_reply_1 (fun v1 M2 H locs hp3 hW => ?_)
  obtain ⟨a4, rfl, hp3, hp3m⟩ := hp3
  rw [hp3m] at hW
  rcases hp3 with ⟨rfl, hp3⟩ | ⟨rfl, hp3⟩
  · rcases hp3 with rfl | rfl
    · refine rw_stk (st' := [.int (iN 1)]) rfl ?_
      refine rw_if_eq (tgt := 39) hx hb dX11_reply_4 (by decide) (by decide) (fun c => absurd c (by decide)) (fun _ => ?_)
      refine lv_iload_n hx hb dX11_reply_7 rfl (lv_at hl 2 rfl) ?_
      refine rw_i2l hx hb dX11_reply_8 (by omega) ?_
      refine lv_lconst (v := jN 1) hx hb dX11_reply_9 rfl ?_
      refine lv_ldc2 (v := 4) hx hb hown (hts _ (wm_24 _ (List.mem_of_getElem? (i := 9) rfl))) dX11_reply_10 ?_
      refine rw_stk (st' := [.long (jN 4), .long (jN 1), .long (jN n)]) (by rw [show (4 : Int64) = jN 4 from by decide]) ?_
      refine rw_callS hx hb hml hts hown hW ⟨Nat.le_refl 0, Nat.le_refl 0⟩ [.long (jN n), .long (jN 1), .long (jN 4)] (c_X11_in (l := l) (G := G) (ad := ad) (CA := CA) (nt := nt) n 1 4 (by first | omega | decide) (by first | omega | decide) (by first | omega | decide) M) kX11_57 rfl ⟨Nat.le_of_ble_eq_true rfl, Nat.le_of_ble_eq_true rfl⟩ hl.1 rfl (Nat.le_of_ble_eq_true rfl) dX11_reply_13 (fun v5 M6 H locs hp7 hW => ?_)
      obtain ⟨a8, rfl, hp7, hp7m⟩ := hp7
      rw [hp7m] at hW
      rcases hp7 with ⟨rfl, hp7⟩ | ⟨rfl, hp7⟩
      · refine rw_stk (st' := [.int (iN 1)]) rfl ?_
        refine rw_if_eq (tgt := 39) hx hb dX11_reply_16 (by decide) (by decide) (fun c => absurd c (by decide)) (fun _ => ?_)
        refine lv_iload_n hx hb dX11_reply_19 rfl (lv_at hl 3 rfl) ?_
        refine rw_if_eq (tgt := 41) hx hb dX11_reply_20 (by decide) (by omega) (fun c_20 => ?_) (fun c_20 => ?_)
        · refine lv_aload_n hx hb dX11_reply_41 rfl (lv_at hl 0 rfl) ?_
          refine rw_iconst hx hb dX11_reply_42 ?_
          refine rw_callV hx hb hml hts hown hW ⟨Nat.le_refl 0, Nat.le_refl 0⟩ [.int (iN 0)] 0 lm_0 rfl (c_X11_isOver (l := l) (G := G) (ad := ad) (CA := CA) (nt := nt) (by omega) 0 (by first | omega | decide) M hI) kX11_188 rfl ⟨Nat.le_of_ble_eq_true rfl, Nat.le_of_ble_eq_true rfl⟩ hl.1 rfl (Nat.le_of_ble_eq_true rfl) dX11_reply_43 (fun v9 M10 H locs hp11 hW => ?_)
          obtain ⟨a12, rfl, hp11, hp11m⟩ := hp11
          rw [hp11m] at hW
          rcases hp11 with ⟨rfl, hp11⟩ | ⟨rfl, hp11⟩
          · refine rw_stk (st' := [.int (iN 1)]) rfl ?_
            refine rw_if_eq (tgt := 52) hx hb dX11_reply_46 (by decide) (by decide) (fun c => absurd c (by decide)) (fun _ => ?_)
            refine rw_bipush hx hb dX11_reply_49 (by decide) ?_
            refine rw_iret hx hb hr hlocks hW dX11_reply_51 (⟨(-2), rfl, ?_⟩)
            exact Or.inr (Or.inl ⟨by omega, by omega, rfl, rfl⟩)
          · refine rw_stk (st' := [.int (iN 0)]) rfl ?_
            refine rw_if_eq (tgt := 52) hx hb dX11_reply_46 (by decide) (by decide) (fun _ => ?_) (fun c => absurd (by decide) c)
            refine rw_iconst hx hb dX11_reply_52 ?_
            refine lv_istore (lv' := [(4, .int (iN 1)), (0, .ref (ad 0)), (1, .int (iN 0)), (2, .int (iN n)), (3, .int (iN w))]) hx hb dX11_reply_53 hl (by decide) rfl (fun ls hl => ?_)
            refine rw_bipush hx hb dX11_reply_55 (by decide) ?_
            refine lv_istore (lv' := [(5, .int (iN (-4))), (4, .int (iN 1)), (0, .ref (ad 0)), (1, .int (iN 0)), (2, .int (iN n)), (3, .int (iN w))]) hx hb dX11_reply_57 hl (by decide) rfl (fun ls hl => ?_)
            refine rw_bipush hx hb dX11_reply_59 (by decide) ?_
            refine lv_istore (lv' := [(6, .int (iN (-4))), (5, .int (iN (-4))), (4, .int (iN 1)), (0, .ref (ad 0)), (1, .int (iN 0)), (2, .int (iN n)), (3, .int (iN w))]) hx hb dX11_reply_61 hl (by decide) rfl (fun ls hl => ?_)
            refine rw_iconst hx hb dX11_reply_63 ?_
            refine lv_istore (lv' := [(7, .int (iN 0)), (6, .int (iN (-4))), (5, .int (iN (-4))), (4, .int (iN 1)), (0, .ref (ad 0)), (1, .int (iN 0)), (2, .int (iN n)), (3, .int (iN w))]) hx hb dX11_reply_64 hl (by decide) rfl (fun ls hl => ?_)
            have hC_66 : ∀ N : Nat, ∀ (k : Int) (wy : Int) (H : Heap) (locs : List Loc) (ls : Array Slot), (n - k).toNat < N → (0 ≤ k ∧ k ≤ n) → (wy = p13 k) → Wo G ad CA nt LyM (wA ad LyM) s M H locs → lv_has ls 11 [(0, .ref (ad 0)), (1, .int (iN 0)), (2, .int (iN n)), (3, .int (iN w)), (4, .int (iN wy)), (5, .int (iN (-4))), (6, .int (iN (-4))), (7, .int (iN k))] → Wf l 5 124 G ad CA nt LyM (P_X11_reply 0 n w M) p e s m args below meth c H locs (F0 m 66 ls []) := by
              intro N
              induction N with
              | zero => intro k wy H locs ls hN; exact absurd hN (Nat.not_lt_zero _)
              | succ N ih66 =>
                intro k wy H locs ls hN hk9 hwy hW hl
                refine lv_iload hx hb dX11_reply_66 (lv_at hl 7 rfl) ?_
                refine lv_iload_n hx hb dX11_reply_68 rfl (lv_at hl 2 rfl) ?_
                refine rw_icmp_ge (tgt := 85) hx hb dX11_reply_69 (by decide) (by omega) (by omega) (fun c_69 => ?_) (fun c_69 => ?_)
                · refine rw_iconst hx hb dX11_reply_85 ?_
                  refine lv_istore (lv' := [(7, .int (iN 0)), (0, .ref (ad 0)), (1, .int (iN 0)), (2, .int (iN n)), (3, .int (iN w)), (4, .int (iN wy)), (5, .int (iN (-4))), (6, .int (iN (-4)))]) hx hb dX11_reply_86 hl (by decide) rfl (fun ls hl => ?_)
                  have hC_88 : ∀ N : Nat, ∀ (wy : Int) (best : Int) (whr : Int) (way : Int) (Mx : Mem) (H : Heap) (locs : List Loc) (ls : Array Slot), (p13 n - way).toNat < N → (wy = p13 n ∧ 1 ≤ p13 n ∧ p13 n ≤ 28561) → (0 ≤ way ∧ way ≤ wy) → (SameN M Mx) → (whr = (FBr n 0 (pg M 0) (M 8) (way).toNat).2.1) → (∀ j, 0 ≤ j → j < n → Mx 8 j = (FBr n 0 (pg M 0) (M 8) (way).toNat).2.2 j) → (((FBr n 0 (pg M 0) (M 8) (way).toNat).1 = 11 ∧ best = -4) ∨ (0 ≤ (FBr n 0 (pg M 0) (M 8) (way).toNat).1 ∧ (FBr n 0 (pg M 0) (M 8) (way).toNat).1 < 11 ∧ best = (if 0 = 0 then 11 else pg M 0 47 + 1) - (FBr n 0 (pg M 0) (M 8) (way).toNat).1)) → Wo G ad CA nt LyM (wA ad LyM) s Mx H locs → lv_has ls 11 [(0, .ref (ad 0)), (1, .int (iN 0)), (2, .int (iN n)), (3, .int (iN w)), (4, .int (iN wy)), (5, .int (iN best)), (6, .int (iN whr)), (7, .int (iN way))] → Wf l 5 124 G ad CA nt LyM (P_X11_reply 0 n w M) p e s m args below meth c H locs (F0 m 88 ls []) := by
                    intro N
                    induction N with
                    | zero => intro wy best whr way Mx H locs ls hN; exact absurd hN (Nat.not_lt_zero _)
                    | succ N ih88 =>
                      intro wy best whr way Mx H locs ls hN hwy2 hway hs hB1 hB2 hB3 hW hl
                      refine lv_iload hx hb dX11_reply_88 (lv_at hl 7 rfl) ?_
                      refine lv_iload hx hb dX11_reply_90 (lv_at hl 4 rfl) ?_
                      refine rw_icmp_ge (tgt := 234) hx hb dX11_reply_92 (by decide) (by omega) (by omega) (fun c_92 => ?_) (fun c_92 => ?_)
                      · refine lv_iload_n hx hb dX11_reply_234 rfl (lv_at hl 3 rfl) ?_
                        refine rw_if_ne (tgt := 243) hx hb dX11_reply_235 (by decide) (by omega) (fun c_235 => ?_) (fun c_235 => ?_)
                        · refine lv_aload_n hx hb dX11_reply_243 rfl (lv_at hl 0 rfl) ?_
                          refine rw_getR hx hb hts hown hW 0 lm_0 20 8 rfl fX11_35 dX11_reply_244 ?_
                          refine lv_iload_n hx hb dX11_reply_247 rfl (lv_at hl 3 rfl) ?_
                          refine rw_bipush hx hb dX11_reply_248 (by decide) ?_
                          refine rw_isub hx hb dX11_reply_250 ?_
                          refine rw_iald hx hb hW hnt4 8 lm_8 (by omega) (by omega) (by decide) dX11_reply_251 (v := (Mx 8 (w - 10))) rfl ?_
                          refine rw_iret hx hb hr hlocks hW dX11_reply_252 (⟨(Mx 8 (w - 10)), rfl, ?_⟩)
                          have hwe : way = p13 n := by omega
                          subst hwe
                          exact Or.inl ⟨by omega, by omega, by rw [if_neg (by omega)]; exact hB2 (w - 10) (by omega) (by omega), hs⟩
                        · refine lv_iload hx hb dX11_reply_238 (lv_at hl 6 rfl) ?_
                          refine lv_goto (tgt := 252) hx hb dX11_reply_240 (by decide) ?_
                          refine rw_iret hx hb hr hlocks hW dX11_reply_252 (⟨whr, rfl, ?_⟩)
                          have hwe : way = p13 n := by omega
                          subst hwe
                          exact Or.inl ⟨by omega, by omega, by rw [if_pos (by omega)]; exact hB1, hs⟩
                      · refine lv_iload hx hb dX11_reply_95 (lv_at hl 7 rfl) ?_
                        refine lv_istore (lv' := [(8, .int (iN way)), (0, .ref (ad 0)), (1, .int (iN 0)), (2, .int (iN n)), (3, .int (iN w)), (4, .int (iN wy)), (5, .int (iN best)), (6, .int (iN whr)), (7, .int (iN way))]) hx hb dX11_reply_97 hl (by decide) rfl (fun ls hl => ?_)
                        refine lv_iload_n hx hb dX11_reply_99 rfl (lv_at hl 3 rfl) ?_
                        refine rw_iconst hx hb dX11_reply_100 ?_
                        refine rw_isub hx hb dX11_reply_101 ?_
                        refine lv_istore (lv' := [(9, .int (iN (n - 1))), (8, .int (iN way)), (0, .ref (ad 0)), (1, .int (iN 0)), (2, .int (iN n)), (3, .int (iN w)), (4, .int (iN wy)), (5, .int (iN best)), (6, .int (iN whr)), (7, .int (iN way))]) hx hb dX11_reply_102 hl (by decide) rfl (fun ls hl => ?_)
                        have hC_104 : ∀ N : Nat, ∀ (lf : Int) (k : Int) (My : Mem) (H : Heap) (locs : List Loc) (ls : Array Slot), (k + 1).toNat < N → (-1 ≤ k ∧ k ≤ n - 1) → (0 ≤ lf ∧ lf ≤ 30000) → (lf = way / p13 (n - 1 - k)) → (∀ q : Nat, q ≠ 7 → My q = Mx q) → (∀ j, k < j → j < n → My 7 j = way / p13 (n - 1 - j) % 13) → Wo G ad CA nt LyM (wA ad LyM) s My H locs → lv_has ls 11 [(0, .ref (ad 0)), (1, .int (iN 0)), (2, .int (iN n)), (3, .int (iN w)), (4, .int (iN wy)), (5, .int (iN best)), (6, .int (iN whr)), (7, .int (iN way)), (8, .int (iN lf)), (9, .int (iN k))] → Wf l 5 124 G ad CA nt LyM (P_X11_reply 0 n w M) p e s m args below meth c H locs (F0 m 104 ls []) := by
                          intro N
                          induction N with
                          | zero => intro lf k My H locs ls hN; exact absurd hN (Nat.not_lt_zero _)
                          | succ N ih104 =>
                            intro lf k My H locs ls hN hk9 hl0 hlf hsy hdg hW hl
                            refine lv_iload hx hb dX11_reply_104 (lv_at hl 9 rfl) ?_
                            refine rw_if_lt (tgt := 134) hx hb dX11_reply_106 (by decide) (by omega) (fun c_106 => ?_) (fun c_106 => ?_)
                            · have hsY : SameN M My := SameN.num (Or.inl rfl) hs hsy
                              have hnowy : pg My 0 = pg M 0 := hsY.page (by decide)
                              have hqq : ∀ i, 0 ≤ i → i < n → My 7 i = (mixQ n 0 way (fun _ => 0)) i := fun i h1 h2 => by unfold mixQ; rw [if_neg (by omega), hdg i (by omega) h2]
                              have hcc := canN_congr (s := 0) (q := My 7) (q' := (mixQ n 0 way (fun _ => 0))) n.toNat 0 (pg M 0) (fun i h1 h2 => hqq i h1 (by omega))
                              refine lv_aload_n hx hb dX11_reply_134 rfl (lv_at hl 0 rfl) ?_
                              refine lv_iload_n hx hb dX11_reply_135 rfl (lv_at hl 1 rfl) ?_
                              refine lv_iload_n hx hb dX11_reply_136 rfl (lv_at hl 2 rfl) ?_
                              refine rw_callV hx hb hml hts hown hW ⟨Nat.le_refl 0, Nat.le_refl 0⟩ [.int (iN 0), .int (iN n)] 0 lm_0 rfl (c_X11_triesNumbers (l := l) (G := G) (ad := ad) (CA := CA) (nt := nt) (by omega) 0 (by first | omega | decide) n (by first | omega | decide) My (fun j q1 q2 => by rw [hdg j (by omega) q2]; omega) (by rw [hnowy]; exact hI) (by rw [hnowy]; omega)) kX11_241 rfl ⟨Nat.le_of_ble_eq_true rfl, Nat.le_of_ble_eq_true rfl⟩ hl.1 rfl (Nat.le_of_ble_eq_true rfl) dX11_reply_137 (fun v13 M14 H locs hp15 hW => ?_)
                              obtain ⟨a16, rfl, hp15, hM14⟩ := hp15
                              rcases hp15 with ⟨rfl, hp15⟩ | ⟨rfl, hp15⟩
                              · rw [hnowy] at hp15
                                have hcw := hcc.1.1 hp15
                                have hzz := hM14
                                rw [hnowy] at hzz
                                have hen := hzz.1 hp15
                                rw [hcc.2] at hen
                                have hsZ := hsY.go hzz.2
                                have h8z : M14 8 = Mx 8 := (hzz.2.1 8 (by decide)).trans (hsy 8 (by decide))
                                have h7z : M14 7 = My 7 := hzz.2.1 7 (by decide)
                                refine rw_stk (st' := [.int (iN 1)]) rfl ?_
                                refine rw_if_eq (tgt := 228) hx hb dX11_reply_140 (by decide) (by decide) (fun c => absurd c (by decide)) (fun _ => ?_)
                                have hin := endN_inv (s := 0) (by decide) (q := (mixQ n 0 way (fun _ => 0))) n.toNat 0 (pg M 0) (fun i h1 h2 => by rw [← hqq i h1 (by omega), hdg i (by omega) (by omega)]; omega) hcw hI (by omega)
                                rw [← hen] at hin
                                have hdr := distF_rng hin.1 0
                                have hkr := hin.1.2.1
                                obtain ⟨dd, hdd⟩ : ∃ z, z = distF (pg M14 188) 0 := ⟨_, rfl⟩
                                rw [← hdd] at hdr
                                have hps := place_spot M14 188 (a := pg M14 188 27)
                                have hmc : M14 0 1 = M 0 1 := congrFun (hsZ.1 0 (by decide) (by decide) (by decide)) 1
                                have hds : dd = spotF (pg M14 188) (pg M14 188 27) := by rw [hdd]; unfold distF; rw [if_pos rfl]
                                refine lv_iload_n hx hb dX11_reply_143 rfl (lv_at hl 1 rfl) ?_
                                refine rw_if_ne (tgt := 164) hx hb dX11_reply_144 (by decide) (by decide) (fun c => absurd c (by decide)) (fun _ => ?_)
                                refine rw_bipush hx hb dX11_reply_147 (by decide) ?_
                                refine lv_aload_n hx hb dX11_reply_149 rfl (lv_at hl 0 rfl) ?_
                                refine lv_aload_n hx hb dX11_reply_150 rfl (lv_at hl 0 rfl) ?_
                                refine rw_sipush hx hb dX11_reply_151 (by decide) ?_
                                refine rw_callV hx hb hml hts hown hW ⟨Nat.le_refl 0, Nat.le_refl 0⟩ [.int (iN 188)] 0 lm_0 rfl (c_X11_keg (l := l) (G := G) (ad := ad) (CA := CA) (nt := nt) (by omega) 188 (by first | omega | decide) M14) kX11_146 rfl ⟨Nat.le_of_ble_eq_true rfl, Nat.le_of_ble_eq_true rfl⟩ hl.1 rfl (Nat.le_of_ble_eq_true rfl) dX11_reply_154 (fun v17 M18 H locs hp19 hW => ?_)
                                obtain ⟨_, rfl, rfl, hp19⟩ := hp19
                                rw [hp19] at hW
                                refine rw_stk (st' := [.int (iN (pg M14 188 27)), .ref (ad 0), .int (iN 10)]) rfl ?_
                                refine rw_callV hx hb hml hts hown hW ⟨Nat.le_refl 0, Nat.le_refl 0⟩ [.int (iN (pg M14 188 27))] 0 lm_0 rfl (c_X11_place (l := l) (G := G) (ad := ad) (CA := CA) (nt := nt) (by omega) (pg M14 188 27) (by first | omega | decide) M14) kX11_236 rfl ⟨Nat.le_of_ble_eq_true rfl, Nat.le_of_ble_eq_true rfl⟩ hl.1 rfl (Nat.le_of_ble_eq_true rfl) dX11_reply_157 (fun v20 M21 H locs hp22 hW => ?_)
                                obtain ⟨_, rfl, rfl, hp22⟩ := hp22
                                rw [hp22] at hW
                                refine rw_stk (st' := [.int (iN (if (pg M14 188 27) = 20 then -1 else if (pg M14 188 27) = 21 then M14 0 1 else (pg M14 188 27))), .int (iN 10)]) rfl ?_
                                refine rw_isub hx hb dX11_reply_160 ?_
                                refine lv_goto (tgt := 177) hx hb dX11_reply_161 (by decide) ?_
                                have hfe : 10 - (if (pg M14 188 27) = 20 then -1 else if (pg M14 188 27) = 21 then M14 0 1 else (pg M14 188 27)) = 11 - dd := by rw [hps]; omega
                                rw [hfe]
                                have hFS := (FBr_S (n := n) (s := 0) (f := pg M 0) (b := M 8) (w := way) (by omega)).trans (stepN_t hcw)
                                rw [← hen, ← hdd] at hFS
                                refine lv_istore (lv' := [(9, .int (iN (11 - dd))), (0, .ref (ad 0)), (1, .int (iN 0)), (2, .int (iN n)), (3, .int (iN w)), (4, .int (iN wy)), (5, .int (iN best)), (6, .int (iN whr)), (7, .int (iN way)), (8, .int (iN lf))]) hx hb dX11_reply_177 hl (by decide) rfl (fun ls hl => ?_)
                                refine lv_iload hx hb dX11_reply_179 (lv_at hl 0 rfl) ?_
                                refine lv_iload hx hb dX11_reply_181 (lv_at hl 6 rfl) ?_
                                refine rw_icmp_le (tgt := 228) hx hb dX11_reply_183 (by decide) (by omega) (by omega) (fun c_183 => ?_) (fun c_183 => ?_)
                                · rw [if_neg (show ¬ dd < (FBr n 0 (pg M 0) (M 8) (way).toNat).1 by omega)] at hFS
                                  refine rw_iinc (lv' := [(7, .int (iN (way + 1))), (9, .int (iN (11 - dd))), (0, .ref (ad 0)), (1, .int (iN 0)), (2, .int (iN n)), (3, .int (iN w)), (4, .int (iN wy)), (5, .int (iN best)), (6, .int (iN whr)), (8, .int (iN lf))]) hx hb dX11_reply_228 hl (k := 8) rfl (by decide) rfl (fun ls hl => ?_)
                                  refine lv_goto (tgt := 88) hx hb dX11_reply_231 (by decide) ?_
                                  exact ih88 wy best whr (way + 1) M14 H locs ls (by omega) hwy2 (by omega) hsZ (by rw [hFS]; exact hB1) (fun j q1 q2 => by rw [hFS, h8z]; exact hB2 j q1 q2) (by rw [hFS]; exact hB3) hW (lv_sub hl [2, 3, 4, 5, 6, 7, 8, 0] rfl)
                                · have hdl : dd < (FBr n 0 (pg M 0) (M 8) (way).toNat).1 := by omega
                                  rw [if_pos hdl] at hFS
                                  refine lv_iload hx hb dX11_reply_186 (lv_at hl 0 rfl) ?_
                                  refine lv_istore (lv' := [(5, .int (iN (11 - dd))), (9, .int (iN (11 - dd))), (0, .ref (ad 0)), (1, .int (iN 0)), (2, .int (iN n)), (3, .int (iN w)), (4, .int (iN wy)), (6, .int (iN whr)), (7, .int (iN way)), (8, .int (iN lf))]) hx hb dX11_reply_188 hl (by decide) rfl (fun ls hl => ?_)
                                  refine lv_aload_n hx hb dX11_reply_190 rfl (lv_at hl 2 rfl) ?_
                                  refine rw_sipush hx hb dX11_reply_191 (by decide) ?_
                                  refine rw_callV hx hb hml hts hown hW ⟨Nat.le_refl 0, Nat.le_refl 0⟩ [.int (iN 188)] 0 lm_0 rfl (c_X11_keg (l := l) (G := G) (ad := ad) (CA := CA) (nt := nt) (by omega) 188 (by first | omega | decide) M14) kX11_146 rfl ⟨Nat.le_of_ble_eq_true rfl, Nat.le_of_ble_eq_true rfl⟩ hl.1 rfl (Nat.le_of_ble_eq_true rfl) dX11_reply_194 (fun v23 M24 H locs hp25 hW => ?_)
                                  obtain ⟨_, rfl, rfl, hp25⟩ := hp25
                                  rw [hp25] at hW
                                  refine rw_stk (st' := [.int (iN (pg M14 188 27))]) rfl ?_
                                  refine lv_istore (lv' := [(6, .int (iN (pg M14 188 27))), (5, .int (iN (11 - dd))), (9, .int (iN (11 - dd))), (0, .ref (ad 0)), (1, .int (iN 0)), (2, .int (iN n)), (3, .int (iN w)), (4, .int (iN wy)), (7, .int (iN way)), (8, .int (iN lf))]) hx hb dX11_reply_197 hl (by decide) rfl (fun ls hl => ?_)
                                  refine rw_iconst hx hb dX11_reply_199 ?_
                                  refine lv_istore (lv' := [(10, .int (iN 0)), (6, .int (iN (pg M14 188 27))), (5, .int (iN (11 - dd))), (9, .int (iN (11 - dd))), (0, .ref (ad 0)), (1, .int (iN 0)), (2, .int (iN n)), (3, .int (iN w)), (4, .int (iN wy)), (7, .int (iN way)), (8, .int (iN lf))]) hx hb dX11_reply_200 hl (by decide) rfl (fun ls hl => ?_)
                                  have hC_202 : ∀ N : Nat, ∀ (bs2 : Int) (wh2 : Int) (kk : Int) (Mw : Mem) (H : Heap) (locs : List Loc) (ls : Array Slot), (n - kk).toNat < N → (0 ≤ kk ∧ kk ≤ n) → (bs2 = (if 0 = 0 then 11 else pg M 0 47 + 1) - dd) → (wh2 = endN 0 n.toNat 0 (pg M 0) (mixQ n 0 way (fun _ => 0)) 27) → (SameN M Mw) → (Mw 7 = My 7) → (∀ j, 0 ≤ j → j < kk → Mw 8 j = My 7 j) → Wo G ad CA nt LyM (wA ad LyM) s Mw H locs → lv_has ls 11 [(0, .ref (ad 0)), (1, .int (iN 0)), (2, .int (iN n)), (3, .int (iN w)), (4, .int (iN wy)), (5, .int (iN bs2)), (6, .int (iN wh2)), (7, .int (iN way)), (10, .int (iN kk))] → Wf l 5 124 G ad CA nt LyM (P_X11_reply 0 n w M) p e s m args below meth c H locs (F0 m 202 ls []) := by
                                    intro N
                                    induction N with
                                    | zero => intro bs2 wh2 kk Mw H locs ls hN; exact absurd hN (Nat.not_lt_zero _)
                                    | succ N ih202 =>
                                      intro bs2 wh2 kk Mw H locs ls hN hkk hbs2 hwh2 hsw h7w hcp hW hl
                                      refine lv_iload hx hb dX11_reply_202 (lv_at hl 8 rfl) ?_
                                      refine lv_iload_n hx hb dX11_reply_204 rfl (lv_at hl 2 rfl) ?_
                                      refine rw_icmp_ge (tgt := 228) hx hb dX11_reply_205 (by decide) (by omega) (by omega) (fun c_205 => ?_) (fun c_205 => ?_)
                                      · refine rw_iinc (lv' := [(7, .int (iN (way + 1))), (0, .ref (ad 0)), (1, .int (iN 0)), (2, .int (iN n)), (3, .int (iN w)), (4, .int (iN wy)), (5, .int (iN bs2)), (6, .int (iN wh2)), (10, .int (iN kk))]) hx hb dX11_reply_228 hl (k := 7) rfl (by decide) rfl (fun ls hl => ?_)
                                        refine lv_goto (tgt := 88) hx hb dX11_reply_231 (by decide) ?_
                                        exact ih88 wy bs2 wh2 (way + 1) Mw H locs ls (by omega) hwy2 (by omega) hsw (by rw [hFS, hwh2, ← hen]) (fun j q1 q2 => by rw [hFS, hcp j q1 (by omega)]; exact hqq j q1 q2) (by rw [hFS]; exact Or.inr ⟨by show 0 ≤ dd; omega, by show dd < 11; omega, by show bs2 = _ - dd; omega⟩) hW (lv_sub hl [1, 2, 3, 4, 5, 6, 7, 0] rfl)
                                      · refine lv_aload_n hx hb dX11_reply_208 rfl (lv_at hl 0 rfl) ?_
                                        refine rw_getR hx hb hts hown hW 0 lm_0 20 8 rfl fX11_35 dX11_reply_209 ?_
                                        refine lv_iload hx hb dX11_reply_212 (lv_at hl 8 rfl) ?_
                                        refine lv_aload_n hx hb dX11_reply_214 rfl (lv_at hl 0 rfl) ?_
                                        refine rw_getR hx hb hts hown hW 0 lm_0 19 7 rfl fX11_32 dX11_reply_215 ?_
                                        refine lv_iload hx hb dX11_reply_218 (lv_at hl 8 rfl) ?_
                                        refine rw_iald hx hb hW hnt4 7 lm_7 (by omega) (by omega) (by decide) dX11_reply_220 (v := (Mw 7 kk)) rfl ?_
                                        refine rw_iast hx hb hW hnt4 8 lm_8 (v := (Mw 7 kk)) (by omega) (by omega) (by decide) dX11_reply_221 (fun H locs hW => ?_)
                                        obtain ⟨M26, hM26⟩ : ∃ z, z = upd2 Mw 8 kk (Mw 7 kk) := ⟨_, rfl⟩
                                        rw [← hM26] at hW
                                        refine rw_iinc (lv' := [(10, .int (iN (kk + 1))), (0, .ref (ad 0)), (1, .int (iN 0)), (2, .int (iN n)), (3, .int (iN w)), (4, .int (iN wy)), (5, .int (iN bs2)), (6, .int (iN wh2)), (7, .int (iN way))]) hx hb dX11_reply_222 hl (k := 8) rfl (by decide) rfl (fun ls hl => ?_)
                                        refine lv_goto (tgt := 202) hx hb dX11_reply_225 (by decide) ?_
                                        exact ih202 bs2 wh2 (kk + 1) M26 H locs ls (by omega) (by omega) hbs2 hwh2 (SameN.num (Or.inr rfl) hsw (fun q hq => by rw [hM26, upd2_ne1 hq])) (by rw [hM26, upd2_ne1 (by decide)]; exact h7w) (fun j q1 q2 => by by_cases e : j = kk; subst e; rw [hM26, upd2_eq, h7w]; rw [hM26, upd2_ne2 e]; exact hcp j q1 (by omega)) hW (lv_sub hl [1, 2, 3, 4, 5, 6, 7, 8, 0] rfl)
                                  exact hC_202 _ (11 - dd) (pg M14 188 27) 0 M14 H locs ls (Nat.lt_succ_self _) (by omega) (by omega) (by rw [hen]) hsZ h7z (fun j q1 q2 => absurd q2 (by omega)) hW (lv_sub hl [4, 5, 6, 7, 8, 2, 1, 9, 0] rfl)
                              · rw [hnowy] at hp15
                                have hcw := fun z => hp15 (hcc.1.2 z)
                                have hzz := hM14
                                have hsZ := hsY.go hzz.2
                                have h8z : M14 8 = Mx 8 := (hzz.2.1 8 (by decide)).trans (hsy 8 (by decide))
                                have hFS := (FBr_S (n := n) (s := 0) (f := pg M 0) (b := M 8) (w := way) (by omega)).trans (stepN_f hcw)
                                refine rw_stk (st' := [.int (iN 0)]) rfl ?_
                                refine rw_if_eq (tgt := 228) hx hb dX11_reply_140 (by decide) (by decide) (fun _ => ?_) (fun c => absurd (by decide) c)
                                refine rw_iinc (lv' := [(7, .int (iN (way + 1))), (0, .ref (ad 0)), (1, .int (iN 0)), (2, .int (iN n)), (3, .int (iN w)), (4, .int (iN wy)), (5, .int (iN best)), (6, .int (iN whr)), (8, .int (iN lf)), (9, .int (iN k))]) hx hb dX11_reply_228 hl (k := 7) rfl (by decide) rfl (fun ls hl => ?_)
                                refine lv_goto (tgt := 88) hx hb dX11_reply_231 (by decide) ?_
                                exact ih88 wy best whr (way + 1) M14 H locs ls (by omega) hwy2 (by omega) hsZ (by rw [hFS]; exact hB1) (fun j q1 q2 => by rw [hFS, h8z]; exact hB2 j q1 q2) (by rw [hFS]; exact hB3) hW (lv_sub hl [1, 2, 3, 4, 5, 6, 7, 0] rfl)
                            · refine lv_aload_n hx hb dX11_reply_109 rfl (lv_at hl 0 rfl) ?_
                              refine rw_getR hx hb hts hown hW 0 lm_0 19 7 rfl fX11_32 dX11_reply_110 ?_
                              refine lv_iload hx hb dX11_reply_113 (lv_at hl 9 rfl) ?_
                              refine lv_iload hx hb dX11_reply_115 (lv_at hl 8 rfl) ?_
                              refine rw_bipush hx hb dX11_reply_117 (by decide) ?_
                              refine rw_irem hx hb dX11_reply_119 (by omega) (by decide) (by decide) rfl ?_
                              rw [Int.tmod_eq_emod_of_nonneg hl0.1]
                              refine rw_iast hx hb hW hnt4 7 lm_7 (v := lf % 13) (by omega) (by omega) (by decide) dX11_reply_120 (fun H locs hW => ?_)
                              obtain ⟨M27, hM27⟩ : ∃ z, z = upd2 My 7 k (lf % 13) := ⟨_, rfl⟩
                              rw [← hM27] at hW
                              refine lv_iload hx hb dX11_reply_121 (lv_at hl 8 rfl) ?_
                              refine rw_bipush hx hb dX11_reply_123 (by decide) ?_
                              refine rw_idiv hx hb dX11_reply_125 (by omega) (by decide) (by decide) rfl ?_
                              rw [Int.tdiv_eq_ediv_of_nonneg hl0.1]
                              refine lv_istore (lv' := [(8, .int (iN (lf / 13))), (0, .ref (ad 0)), (1, .int (iN 0)), (2, .int (iN n)), (3, .int (iN w)), (4, .int (iN wy)), (5, .int (iN best)), (6, .int (iN whr)), (7, .int (iN way)), (9, .int (iN k))]) hx hb dX11_reply_126 hl (by decide) rfl (fun ls hl => ?_)
                              refine rw_iinc (lv' := [(9, .int (iN (k + (-1)))), (8, .int (iN (lf / 13))), (0, .ref (ad 0)), (1, .int (iN 0)), (2, .int (iN n)), (3, .int (iN w)), (4, .int (iN wy)), (5, .int (iN best)), (6, .int (iN whr)), (7, .int (iN way))]) hx hb dX11_reply_128 hl (k := 9) rfl (by decide) rfl (fun ls hl => ?_)
                              refine lv_goto (tgt := 104) hx hb dX11_reply_131 (by decide) ?_
                              exact ih104 (lf / 13) (k + (-1)) M27 H locs ls (by omega) (by omega) (by omega) (by rw [hlf, show n - 1 - (k + -1) = n - 1 - k + 1 by omega, p13_S (by omega), Int.ediv_ediv_of_nonneg (Int.le_of_lt (p13_pos _))]) (fun q hq => by rw [hM27, upd2_ne1 hq]; exact hsy q hq) (fun j q1 q2 => by by_cases e : j = k; subst e; rw [hM27, upd2_eq, hlf]; rw [hM27, upd2_ne2 e]; exact hdg j (by omega) q2) hW (lv_sub hl [2, 3, 4, 5, 6, 7, 8, 9, 1, 0] rfl)
                        exact hC_104 _ way (n - 1) Mx H locs ls (Nat.lt_succ_self _) (by omega) (by omega) (by rw [show n - 1 - (n - 1) = 0 by omega]; show way = way / 1; rw [Int.ediv_one]) (fun q _ => rfl) (fun j q1 q2 => absurd q2 (by omega)) hW (lv_sub hl [2, 3, 4, 5, 6, 7, 8, 9, 1, 0] rfl)
                  exact hC_88 _ wy (-4) (-4) 0 M H locs ls (Nat.lt_succ_self _) (by have q := p13_rng (e := n) (by omega); exact ⟨by rw [hwy, show k = n by omega], q.1, q.2.1⟩) (by have := p13_pos k; omega) SameN.rf (by rfl) (fun j _ _ => rfl) (Or.inl ⟨rfl, rfl⟩) hW (lv_sub hl [1, 2, 3, 4, 5, 6, 7, 0] rfl)
                · refine lv_iload hx hb dX11_reply_72 (lv_at hl 4 rfl) ?_
                  refine rw_bipush hx hb dX11_reply_74 (by decide) ?_
                  refine rw_imul hx hb dX11_reply_76 ?_
                  refine lv_istore (lv' := [(4, .int (iN (wy * 13))), (0, .ref (ad 0)), (1, .int (iN 0)), (2, .int (iN n)), (3, .int (iN w)), (5, .int (iN (-4))), (6, .int (iN (-4))), (7, .int (iN k))]) hx hb dX11_reply_77 hl (by decide) rfl (fun ls hl => ?_)
                  refine rw_iinc (lv' := [(7, .int (iN (k + 1))), (4, .int (iN (wy * 13))), (0, .ref (ad 0)), (1, .int (iN 0)), (2, .int (iN n)), (3, .int (iN w)), (5, .int (iN (-4))), (6, .int (iN (-4)))]) hx hb dX11_reply_79 hl (k := 7) rfl (by decide) rfl (fun ls hl => ?_)
                  refine lv_goto (tgt := 66) hx hb dX11_reply_82 (by decide) ?_
                  exact ih66 (k + 1) (wy * 13) H locs ls (by omega) (by omega) (by rw [hwy, p13_S hk9.1]) hW (lv_sub hl [2, 3, 4, 5, 1, 6, 7, 0] rfl)
            exact hC_66 _ 0 1 H locs ls (Nat.lt_succ_self _) (by omega) (by rfl) hW (lv_sub hl [4, 5, 6, 7, 3, 2, 1, 0] rfl)
        · refine lv_iload_n hx hb dX11_reply_23 rfl (lv_at hl 3 rfl) ?_
          refine rw_i2l hx hb dX11_reply_24 (by omega) ?_
          refine lv_ldc2 (v := 10) hx hb hown (hts _ (wm_38 _ (List.mem_of_getElem? (i := 4) rfl))) dX11_reply_25 ?_
          refine rw_stk (st' := [.long (jN 10), .long (jN w)]) (by rw [show (10 : Int64) = jN 10 from by decide]) ?_
          refine rw_bipush hx hb dX11_reply_28 (by decide) ?_
          refine lv_iload_n hx hb dX11_reply_30 rfl (lv_at hl 2 rfl) ?_
          refine rw_iadd hx hb dX11_reply_31 ?_
          refine rw_i2l hx hb dX11_reply_32 (by omega) ?_
          refine rw_callS hx hb hml hts hown hW ⟨Nat.le_refl 0, Nat.le_refl 0⟩ [.long (jN w), .long (jN 10), .long (jN (9 + n))] (c_X11_in (l := l) (G := G) (ad := ad) (CA := CA) (nt := nt) w 10 (9 + n) (by first | omega | decide) (by first | omega | decide) (by first | omega | decide) M) kX11_57 rfl ⟨Nat.le_of_ble_eq_true rfl, Nat.le_of_ble_eq_true rfl⟩ hl.1 rfl (Nat.le_of_ble_eq_true rfl) dX11_reply_33 (fun v28 M29 H locs hp30 hW => ?_)
          obtain ⟨a31, rfl, hp30, hp30m⟩ := hp30
          rw [hp30m] at hW
          rcases hp30 with ⟨rfl, hp30⟩ | ⟨rfl, hp30⟩
          · refine rw_stk (st' := [.int (iN 1)]) rfl ?_
            refine rw_if_ne (tgt := 41) hx hb dX11_reply_36 (by decide) (by decide) (fun _ => ?_) (fun c => absurd c (by decide))
            refine lv_aload_n hx hb dX11_reply_41 rfl (lv_at hl 0 rfl) ?_
            refine rw_iconst hx hb dX11_reply_42 ?_
            refine rw_callV hx hb hml hts hown hW ⟨Nat.le_refl 0, Nat.le_refl 0⟩ [.int (iN 0)] 0 lm_0 rfl (c_X11_isOver (l := l) (G := G) (ad := ad) (CA := CA) (nt := nt) (by omega) 0 (by first | omega | decide) M hI) kX11_188 rfl ⟨Nat.le_of_ble_eq_true rfl, Nat.le_of_ble_eq_true rfl⟩ hl.1 rfl (Nat.le_of_ble_eq_true rfl) dX11_reply_43 (fun v32 M33 H locs hp34 hW => ?_)
            obtain ⟨a35, rfl, hp34, hp34m⟩ := hp34
            rw [hp34m] at hW
            rcases hp34 with ⟨rfl, hp34⟩ | ⟨rfl, hp34⟩
            · refine rw_stk (st' := [.int (iN 1)]) rfl ?_
              refine rw_if_eq (tgt := 52) hx hb dX11_reply_46 (by decide) (by decide) (fun c => absurd c (by decide)) (fun _ => ?_)
              refine rw_bipush hx hb dX11_reply_49 (by decide) ?_
              refine rw_iret hx hb hr hlocks hW dX11_reply_51 (⟨(-2), rfl, ?_⟩)
              exact Or.inr (Or.inl ⟨by omega, by omega, rfl, rfl⟩)
            · refine rw_stk (st' := [.int (iN 0)]) rfl ?_
              refine rw_if_eq (tgt := 52) hx hb dX11_reply_46 (by decide) (by decide) (fun _ => ?_) (fun c => absurd (by decide) c)
              refine rw_iconst hx hb dX11_reply_52 ?_
              refine lv_istore (lv' := [(4, .int (iN 1)), (0, .ref (ad 0)), (1, .int (iN 0)), (2, .int (iN n)), (3, .int (iN w))]) hx hb dX11_reply_53 hl (by decide) rfl (fun ls hl => ?_)
              refine rw_bipush hx hb dX11_reply_55 (by decide) ?_
              refine lv_istore (lv' := [(5, .int (iN (-4))), (4, .int (iN 1)), (0, .ref (ad 0)), (1, .int (iN 0)), (2, .int (iN n)), (3, .int (iN w))]) hx hb dX11_reply_57 hl (by decide) rfl (fun ls hl => ?_)
              refine rw_bipush hx hb dX11_reply_59 (by decide) ?_
              refine lv_istore (lv' := [(6, .int (iN (-4))), (5, .int (iN (-4))), (4, .int (iN 1)), (0, .ref (ad 0)), (1, .int (iN 0)), (2, .int (iN n)), (3, .int (iN w))]) hx hb dX11_reply_61 hl (by decide) rfl (fun ls hl => ?_)
              refine rw_iconst hx hb dX11_reply_63 ?_
              refine lv_istore (lv' := [(7, .int (iN 0)), (6, .int (iN (-4))), (5, .int (iN (-4))), (4, .int (iN 1)), (0, .ref (ad 0)), (1, .int (iN 0)), (2, .int (iN n)), (3, .int (iN w))]) hx hb dX11_reply_64 hl (by decide) rfl (fun ls hl => ?_)
              have hC_66 : ∀ N : Nat, ∀ (k : Int) (wy : Int) (H : Heap) (locs : List Loc) (ls : Array Slot), (n - k).toNat < N → (0 ≤ k ∧ k ≤ n) → (wy = p13 k) → Wo G ad CA nt LyM (wA ad LyM) s M H locs → lv_has ls 11 [(0, .ref (ad 0)), (1, .int (iN 0)), (2, .int (iN n)), (3, .int (iN w)), (4, .int (iN wy)), (5, .int (iN (-4))), (6, .int (iN (-4))), (7, .int (iN k))] → Wf l 5 124 G ad CA nt LyM (P_X11_reply 0 n w M) p e s m args below meth c H locs (F0 m 66 ls []) := by
                intro N
                induction N with
                | zero => intro k wy H locs ls hN; exact absurd hN (Nat.not_lt_zero _)
                | succ N ih66 =>
                  intro k wy H locs ls hN hk9 hwy hW hl
                  refine lv_iload hx hb dX11_reply_66 (lv_at hl 7 rfl) ?_
                  refine lv_iload_n hx hb dX11_reply_68 rfl (lv_at hl 2 rfl) ?_
                  refine rw_icmp_ge (tgt := 85) hx hb dX11_reply_69 (by decide) (by omega) (by omega) (fun c_69 => ?_) (fun c_69 => ?_)
                  · refine rw_iconst hx hb dX11_reply_85 ?_
                    refine lv_istore (lv' := [(7, .int (iN 0)), (0, .ref (ad 0)), (1, .int (iN 0)), (2, .int (iN n)), (3, .int (iN w)), (4, .int (iN wy)), (5, .int (iN (-4))), (6, .int (iN (-4)))]) hx hb dX11_reply_86 hl (by decide) rfl (fun ls hl => ?_)
                    have hC_88 : ∀ N : Nat, ∀ (wy : Int) (best : Int) (whr : Int) (way : Int) (Mx : Mem) (H : Heap) (locs : List Loc) (ls : Array Slot), (p13 n - way).toNat < N → (wy = p13 n ∧ 1 ≤ p13 n ∧ p13 n ≤ 28561) → (0 ≤ way ∧ way ≤ wy) → (SameN M Mx) → (whr = (FBr n 0 (pg M 0) (M 8) (way).toNat).2.1) → (∀ j, 0 ≤ j → j < n → Mx 8 j = (FBr n 0 (pg M 0) (M 8) (way).toNat).2.2 j) → (((FBr n 0 (pg M 0) (M 8) (way).toNat).1 = 11 ∧ best = -4) ∨ (0 ≤ (FBr n 0 (pg M 0) (M 8) (way).toNat).1 ∧ (FBr n 0 (pg M 0) (M 8) (way).toNat).1 < 11 ∧ best = (if 0 = 0 then 11 else pg M 0 47 + 1) - (FBr n 0 (pg M 0) (M 8) (way).toNat).1)) → Wo G ad CA nt LyM (wA ad LyM) s Mx H locs → lv_has ls 11 [(0, .ref (ad 0)), (1, .int (iN 0)), (2, .int (iN n)), (3, .int (iN w)), (4, .int (iN wy)), (5, .int (iN best)), (6, .int (iN whr)), (7, .int (iN way))] → Wf l 5 124 G ad CA nt LyM (P_X11_reply 0 n w M) p e s m args below meth c H locs (F0 m 88 ls []) := by
                      intro N
                      induction N with
                      | zero => intro wy best whr way Mx H locs ls hN; exact absurd hN (Nat.not_lt_zero _)
                      | succ N ih88 =>
                        intro wy best whr way Mx H locs ls hN hwy2 hway hs hB1 hB2 hB3 hW hl
                        refine lv_iload hx hb dX11_reply_88 (lv_at hl 7 rfl) ?_
                        refine lv_iload hx hb dX11_reply_90 (lv_at hl 4 rfl) ?_
                        refine rw_icmp_ge (tgt := 234) hx hb dX11_reply_92 (by decide) (by omega) (by omega) (fun c_92 => ?_) (fun c_92 => ?_)
                        · refine lv_iload_n hx hb dX11_reply_234 rfl (lv_at hl 3 rfl) ?_
                          refine rw_if_ne (tgt := 243) hx hb dX11_reply_235 (by decide) (by omega) (fun c_235 => ?_) (fun c_235 => ?_)
                          · refine lv_aload_n hx hb dX11_reply_243 rfl (lv_at hl 0 rfl) ?_
                            refine rw_getR hx hb hts hown hW 0 lm_0 20 8 rfl fX11_35 dX11_reply_244 ?_
                            refine lv_iload_n hx hb dX11_reply_247 rfl (lv_at hl 3 rfl) ?_
                            refine rw_bipush hx hb dX11_reply_248 (by decide) ?_
                            refine rw_isub hx hb dX11_reply_250 ?_
                            refine rw_iald hx hb hW hnt4 8 lm_8 (by omega) (by omega) (by decide) dX11_reply_251 (v := (Mx 8 (w - 10))) rfl ?_
                            refine rw_iret hx hb hr hlocks hW dX11_reply_252 (⟨(Mx 8 (w - 10)), rfl, ?_⟩)
                            have hwe : way = p13 n := by omega
                            subst hwe
                            exact Or.inl ⟨by omega, by omega, by rw [if_neg (by omega)]; exact hB2 (w - 10) (by omega) (by omega), hs⟩
                          · refine lv_iload hx hb dX11_reply_238 (lv_at hl 6 rfl) ?_
                            refine lv_goto (tgt := 252) hx hb dX11_reply_240 (by decide) ?_
                            refine rw_iret hx hb hr hlocks hW dX11_reply_252 (⟨whr, rfl, ?_⟩)
                            have hwe : way = p13 n := by omega
                            subst hwe
                            exact Or.inl ⟨by omega, by omega, by rw [if_pos (by omega)]; exact hB1, hs⟩
                        · refine lv_iload hx hb dX11_reply_95 (lv_at hl 7 rfl) ?_
                          refine lv_istore (lv' := [(8, .int (iN way)), (0, .ref (ad 0)), (1, .int (iN 0)), (2, .int (iN n)), (3, .int (iN w)), (4, .int (iN wy)), (5, .int (iN best)), (6, .int (iN whr)), (7, .int (iN way))]) hx hb dX11_reply_97 hl (by decide) rfl (fun ls hl => ?_)
                          refine lv_iload_n hx hb dX11_reply_99 rfl (lv_at hl 3 rfl) ?_
                          refine rw_iconst hx hb dX11_reply_100 ?_
                          refine rw_isub hx hb dX11_reply_101 ?_
                          refine lv_istore (lv' := [(9, .int (iN (n - 1))), (8, .int (iN way)), (0, .ref (ad 0)), (1, .int (iN 0)), (2, .int (iN n)), (3, .int (iN w)), (4, .int (iN wy)), (5, .int (iN best)), (6, .int (iN whr)), (7, .int (iN way))]) hx hb dX11_reply_102 hl (by decide) rfl (fun ls hl => ?_)
                          have hC_104 : ∀ N : Nat, ∀ (lf : Int) (k : Int) (My : Mem) (H : Heap) (locs : List Loc) (ls : Array Slot), (k + 1).toNat < N → (-1 ≤ k ∧ k ≤ n - 1) → (0 ≤ lf ∧ lf ≤ 30000) → (lf = way / p13 (n - 1 - k)) → (∀ q : Nat, q ≠ 7 → My q = Mx q) → (∀ j, k < j → j < n → My 7 j = way / p13 (n - 1 - j) % 13) → Wo G ad CA nt LyM (wA ad LyM) s My H locs → lv_has ls 11 [(0, .ref (ad 0)), (1, .int (iN 0)), (2, .int (iN n)), (3, .int (iN w)), (4, .int (iN wy)), (5, .int (iN best)), (6, .int (iN whr)), (7, .int (iN way)), (8, .int (iN lf)), (9, .int (iN k))] → Wf l 5 124 G ad CA nt LyM (P_X11_reply 0 n w M) p e s m args below meth c H locs (F0 m 104 ls []) := by
                            intro N
                            induction N with
                            | zero => intro lf k My H locs ls hN; exact absurd hN (Nat.not_lt_zero _)
                            | succ N ih104 =>
                              intro lf k My H locs ls hN hk9 hl0 hlf hsy hdg hW hl
                              refine lv_iload hx hb dX11_reply_104 (lv_at hl 9 rfl) ?_
                              refine rw_if_lt (tgt := 134) hx hb dX11_reply_106 (by decide) (by omega) (fun c_106 => ?_) (fun c_106 => ?_)
                              · have hsY : SameN M My := SameN.num (Or.inl rfl) hs hsy
                                have hnowy : pg My 0 = pg M 0 := hsY.page (by decide)
                                have hqq : ∀ i, 0 ≤ i → i < n → My 7 i = (mixQ n 0 way (fun _ => 0)) i := fun i h1 h2 => by unfold mixQ; rw [if_neg (by omega), hdg i (by omega) h2]
                                have hcc := canN_congr (s := 0) (q := My 7) (q' := (mixQ n 0 way (fun _ => 0))) n.toNat 0 (pg M 0) (fun i h1 h2 => hqq i h1 (by omega))
                                refine lv_aload_n hx hb dX11_reply_134 rfl (lv_at hl 0 rfl) ?_
                                refine lv_iload_n hx hb dX11_reply_135 rfl (lv_at hl 1 rfl) ?_
                                refine lv_iload_n hx hb dX11_reply_136 rfl (lv_at hl 2 rfl) ?_
                                refine rw_callV hx hb hml hts hown hW ⟨Nat.le_refl 0, Nat.le_refl 0⟩ [.int (iN 0), .int (iN n)] 0 lm_0 rfl (c_X11_triesNumbers (l := l) (G := G) (ad := ad) (CA := CA) (nt := nt) (by omega) 0 (by first | omega | decide) n (by first | omega | decide) My (fun j q1 q2 => by rw [hdg j (by omega) q2]; omega) (by rw [hnowy]; exact hI) (by rw [hnowy]; omega)) kX11_241 rfl ⟨Nat.le_of_ble_eq_true rfl, Nat.le_of_ble_eq_true rfl⟩ hl.1 rfl (Nat.le_of_ble_eq_true rfl) dX11_reply_137 (fun v36 M37 H locs hp38 hW => ?_)
                                obtain ⟨a39, rfl, hp38, hM37⟩ := hp38
                                rcases hp38 with ⟨rfl, hp38⟩ | ⟨rfl, hp38⟩
                                · rw [hnowy] at hp38
                                  have hcw := hcc.1.1 hp38
                                  have hzz := hM37
                                  rw [hnowy] at hzz
                                  have hen := hzz.1 hp38
                                  rw [hcc.2] at hen
                                  have hsZ := hsY.go hzz.2
                                  have h8z : M37 8 = Mx 8 := (hzz.2.1 8 (by decide)).trans (hsy 8 (by decide))
                                  have h7z : M37 7 = My 7 := hzz.2.1 7 (by decide)
                                  refine rw_stk (st' := [.int (iN 1)]) rfl ?_
                                  refine rw_if_eq (tgt := 228) hx hb dX11_reply_140 (by decide) (by decide) (fun c => absurd c (by decide)) (fun _ => ?_)
                                  have hin := endN_inv (s := 0) (by decide) (q := (mixQ n 0 way (fun _ => 0))) n.toNat 0 (pg M 0) (fun i h1 h2 => by rw [← hqq i h1 (by omega), hdg i (by omega) (by omega)]; omega) hcw hI (by omega)
                                  rw [← hen] at hin
                                  have hdr := distF_rng hin.1 0
                                  have hkr := hin.1.2.1
                                  obtain ⟨dd, hdd⟩ : ∃ z, z = distF (pg M37 188) 0 := ⟨_, rfl⟩
                                  rw [← hdd] at hdr
                                  have hps := place_spot M37 188 (a := pg M37 188 27)
                                  have hmc : M37 0 1 = M 0 1 := congrFun (hsZ.1 0 (by decide) (by decide) (by decide)) 1
                                  have hds : dd = spotF (pg M37 188) (pg M37 188 27) := by rw [hdd]; unfold distF; rw [if_pos rfl]
                                  refine lv_iload_n hx hb dX11_reply_143 rfl (lv_at hl 1 rfl) ?_
                                  refine rw_if_ne (tgt := 164) hx hb dX11_reply_144 (by decide) (by decide) (fun c => absurd c (by decide)) (fun _ => ?_)
                                  refine rw_bipush hx hb dX11_reply_147 (by decide) ?_
                                  refine lv_aload_n hx hb dX11_reply_149 rfl (lv_at hl 0 rfl) ?_
                                  refine lv_aload_n hx hb dX11_reply_150 rfl (lv_at hl 0 rfl) ?_
                                  refine rw_sipush hx hb dX11_reply_151 (by decide) ?_
                                  refine rw_callV hx hb hml hts hown hW ⟨Nat.le_refl 0, Nat.le_refl 0⟩ [.int (iN 188)] 0 lm_0 rfl (c_X11_keg (l := l) (G := G) (ad := ad) (CA := CA) (nt := nt) (by omega) 188 (by first | omega | decide) M37) kX11_146 rfl ⟨Nat.le_of_ble_eq_true rfl, Nat.le_of_ble_eq_true rfl⟩ hl.1 rfl (Nat.le_of_ble_eq_true rfl) dX11_reply_154 (fun v40 M41 H locs hp42 hW => ?_)
                                  obtain ⟨_, rfl, rfl, hp42⟩ := hp42
                                  rw [hp42] at hW
                                  refine rw_stk (st' := [.int (iN (pg M37 188 27)), .ref (ad 0), .int (iN 10)]) rfl ?_
                                  refine rw_callV hx hb hml hts hown hW ⟨Nat.le_refl 0, Nat.le_refl 0⟩ [.int (iN (pg M37 188 27))] 0 lm_0 rfl (c_X11_place (l := l) (G := G) (ad := ad) (CA := CA) (nt := nt) (by omega) (pg M37 188 27) (by first | omega | decide) M37) kX11_236 rfl ⟨Nat.le_of_ble_eq_true rfl, Nat.le_of_ble_eq_true rfl⟩ hl.1 rfl (Nat.le_of_ble_eq_true rfl) dX11_reply_157 (fun v43 M44 H locs hp45 hW => ?_)
                                  obtain ⟨_, rfl, rfl, hp45⟩ := hp45
                                  rw [hp45] at hW
                                  refine rw_stk (st' := [.int (iN (if (pg M37 188 27) = 20 then -1 else if (pg M37 188 27) = 21 then M37 0 1 else (pg M37 188 27))), .int (iN 10)]) rfl ?_
                                  refine rw_isub hx hb dX11_reply_160 ?_
                                  refine lv_goto (tgt := 177) hx hb dX11_reply_161 (by decide) ?_
                                  have hfe : 10 - (if (pg M37 188 27) = 20 then -1 else if (pg M37 188 27) = 21 then M37 0 1 else (pg M37 188 27)) = 11 - dd := by rw [hps]; omega
                                  rw [hfe]
                                  have hFS := (FBr_S (n := n) (s := 0) (f := pg M 0) (b := M 8) (w := way) (by omega)).trans (stepN_t hcw)
                                  rw [← hen, ← hdd] at hFS
                                  refine lv_istore (lv' := [(9, .int (iN (11 - dd))), (0, .ref (ad 0)), (1, .int (iN 0)), (2, .int (iN n)), (3, .int (iN w)), (4, .int (iN wy)), (5, .int (iN best)), (6, .int (iN whr)), (7, .int (iN way)), (8, .int (iN lf))]) hx hb dX11_reply_177 hl (by decide) rfl (fun ls hl => ?_)
                                  refine lv_iload hx hb dX11_reply_179 (lv_at hl 0 rfl) ?_
                                  refine lv_iload hx hb dX11_reply_181 (lv_at hl 6 rfl) ?_
                                  refine rw_icmp_le (tgt := 228) hx hb dX11_reply_183 (by decide) (by omega) (by omega) (fun c_183 => ?_) (fun c_183 => ?_)
                                  · rw [if_neg (show ¬ dd < (FBr n 0 (pg M 0) (M 8) (way).toNat).1 by omega)] at hFS
                                    refine rw_iinc (lv' := [(7, .int (iN (way + 1))), (9, .int (iN (11 - dd))), (0, .ref (ad 0)), (1, .int (iN 0)), (2, .int (iN n)), (3, .int (iN w)), (4, .int (iN wy)), (5, .int (iN best)), (6, .int (iN whr)), (8, .int (iN lf))]) hx hb dX11_reply_228 hl (k := 8) rfl (by decide) rfl (fun ls hl => ?_)
                                    refine lv_goto (tgt := 88) hx hb dX11_reply_231 (by decide) ?_
                                    exact ih88 wy best whr (way + 1) M37 H locs ls (by omega) hwy2 (by omega) hsZ (by rw [hFS]; exact hB1) (fun j q1 q2 => by rw [hFS, h8z]; exact hB2 j q1 q2) (by rw [hFS]; exact hB3) hW (lv_sub hl [2, 3, 4, 5, 6, 7, 8, 0] rfl)
                                  · have hdl : dd < (FBr n 0 (pg M 0) (M 8) (way).toNat).1 := by omega
                                    rw [if_pos hdl] at hFS
                                    refine lv_iload hx hb dX11_reply_186 (lv_at hl 0 rfl) ?_
                                    refine lv_istore (lv' := [(5, .int (iN (11 - dd))), (9, .int (iN (11 - dd))), (0, .ref (ad 0)), (1, .int (iN 0)), (2, .int (iN n)), (3, .int (iN w)), (4, .int (iN wy)), (6, .int (iN whr)), (7, .int (iN way)), (8, .int (iN lf))]) hx hb dX11_reply_188 hl (by decide) rfl (fun ls hl => ?_)
                                    refine lv_aload_n hx hb dX11_reply_190 rfl (lv_at hl 2 rfl) ?_
                                    refine rw_sipush hx hb dX11_reply_191 (by decide) ?_
                                    refine rw_callV hx hb hml hts hown hW ⟨Nat.le_refl 0, Nat.le_refl 0⟩ [.int (iN 188)] 0 lm_0 rfl (c_X11_keg (l := l) (G := G) (ad := ad) (CA := CA) (nt := nt) (by omega) 188 (by first | omega | decide) M37) kX11_146 rfl ⟨Nat.le_of_ble_eq_true rfl, Nat.le_of_ble_eq_true rfl⟩ hl.1 rfl (Nat.le_of_ble_eq_true rfl) dX11_reply_194 (fun v46 M47 H locs hp48 hW => ?_)
                                    obtain ⟨_, rfl, rfl, hp48⟩ := hp48
                                    rw [hp48] at hW
                                    refine rw_stk (st' := [.int (iN (pg M37 188 27))]) rfl ?_
                                    refine lv_istore (lv' := [(6, .int (iN (pg M37 188 27))), (5, .int (iN (11 - dd))), (9, .int (iN (11 - dd))), (0, .ref (ad 0)), (1, .int (iN 0)), (2, .int (iN n)), (3, .int (iN w)), (4, .int (iN wy)), (7, .int (iN way)), (8, .int (iN lf))]) hx hb dX11_reply_197 hl (by decide) rfl (fun ls hl => ?_)
                                    refine rw_iconst hx hb dX11_reply_199 ?_
                                    refine lv_istore (lv' := [(10, .int (iN 0)), (6, .int (iN (pg M37 188 27))), (5, .int (iN (11 - dd))), (9, .int (iN (11 - dd))), (0, .ref (ad 0)), (1, .int (iN 0)), (2, .int (iN n)), (3, .int (iN w)), (4, .int (iN wy)), (7, .int (iN way)), (8, .int (iN lf))]) hx hb dX11_reply_200 hl (by decide) rfl (fun ls hl => ?_)
                                    have hC_202 : ∀ N : Nat, ∀ (bs2 : Int) (wh2 : Int) (kk : Int) (Mw : Mem) (H : Heap) (locs : List Loc) (ls : Array Slot), (n - kk).toNat < N → (0 ≤ kk ∧ kk ≤ n) → (bs2 = (if 0 = 0 then 11 else pg M 0 47 + 1) - dd) → (wh2 = endN 0 n.toNat 0 (pg M 0) (mixQ n 0 way (fun _ => 0)) 27) → (SameN M Mw) → (Mw 7 = My 7) → (∀ j, 0 ≤ j → j < kk → Mw 8 j = My 7 j) → Wo G ad CA nt LyM (wA ad LyM) s Mw H locs → lv_has ls 11 [(0, .ref (ad 0)), (1, .int (iN 0)), (2, .int (iN n)), (3, .int (iN w)), (4, .int (iN wy)), (5, .int (iN bs2)), (6, .int (iN wh2)), (7, .int (iN way)), (10, .int (iN kk))] → Wf l 5 124 G ad CA nt LyM (P_X11_reply 0 n w M) p e s m args below meth c H locs (F0 m 202 ls []) := by
                                      intro N
                                      induction N with
                                      | zero => intro bs2 wh2 kk Mw H locs ls hN; exact absurd hN (Nat.not_lt_zero _)
                                      | succ N ih202 =>
                                        intro bs2 wh2 kk Mw H locs ls hN hkk hbs2 hwh2 hsw h7w hcp hW hl
                                        refine lv_iload hx hb dX11_reply_202 (lv_at hl 8 rfl) ?_
                                        refine lv_iload_n hx hb dX11_reply_204 rfl (lv_at hl 2 rfl) ?_
                                        refine rw_icmp_ge (tgt := 228) hx hb dX11_reply_205 (by decide) (by omega) (by omega) (fun c_205 => ?_) (fun c_205 => ?_)
                                        · refine rw_iinc (lv' := [(7, .int (iN (way + 1))), (0, .ref (ad 0)), (1, .int (iN 0)), (2, .int (iN n)), (3, .int (iN w)), (4, .int (iN wy)), (5, .int (iN bs2)), (6, .int (iN wh2)), (10, .int (iN kk))]) hx hb dX11_reply_228 hl (k := 7) rfl (by decide) rfl (fun ls hl => ?_)
                                          refine lv_goto (tgt := 88) hx hb dX11_reply_231 (by decide) ?_
                                          exact ih88 wy bs2 wh2 (way + 1) Mw H locs ls (by omega) hwy2 (by omega) hsw (by rw [hFS, hwh2, ← hen]) (fun j q1 q2 => by rw [hFS, hcp j q1 (by omega)]; exact hqq j q1 q2) (by rw [hFS]; exact Or.inr ⟨by show 0 ≤ dd; omega, by show dd < 11; omega, by show bs2 = _ - dd; omega⟩) hW (lv_sub hl [1, 2, 3, 4, 5, 6, 7, 0] rfl)
                                        · refine lv_aload_n hx hb dX11_reply_208 rfl (lv_at hl 0 rfl) ?_
                                          refine rw_getR hx hb hts hown hW 0 lm_0 20 8 rfl fX11_35 dX11_reply_209 ?_
                                          refine lv_iload hx hb dX11_reply_212 (lv_at hl 8 rfl) ?_
                                          refine lv_aload_n hx hb dX11_reply_214 rfl (lv_at hl 0 rfl) ?_
                                          refine rw_getR hx hb hts hown hW 0 lm_0 19 7 rfl fX11_32 dX11_reply_215 ?_
                                          refine lv_iload hx hb dX11_reply_218 (lv_at hl 8 rfl) ?_
                                          refine rw_iald hx hb hW hnt4 7 lm_7 (by omega) (by omega) (by decide) dX11_reply_220 (v := (Mw 7 kk)) rfl ?_
                                          refine rw_iast hx hb hW hnt4 8 lm_8 (v := (Mw 7 kk)) (by omega) (by omega) (by decide) dX11_reply_221 (fun H locs hW => ?_)
                                          obtain ⟨M49, hM49⟩ : ∃ z, z = upd2 Mw 8 kk (Mw 7 kk) := ⟨_, rfl⟩
                                          rw [← hM49] at hW
                                          refine rw_iinc (lv' := [(10, .int (iN (kk + 1))), (0, .ref (ad 0)), (1, .int (iN 0)), (2, .int (iN n)), (3, .int (iN w)), (4, .int (iN wy)), (5, .int (iN bs2)), (6, .int (iN wh2)), (7, .int (iN way))]) hx hb dX11_reply_222 hl (k := 8) rfl (by decide) rfl (fun ls hl => ?_)
                                          refine lv_goto (tgt := 202) hx hb dX11_reply_225 (by decide) ?_
                                          exact ih202 bs2 wh2 (kk + 1) M49 H locs ls (by omega) (by omega) hbs2 hwh2 (SameN.num (Or.inr rfl) hsw (fun q hq => by rw [hM49, upd2_ne1 hq])) (by rw [hM49, upd2_ne1 (by decide)]; exact h7w) (fun j q1 q2 => by by_cases e : j = kk; subst e; rw [hM49, upd2_eq, h7w]; rw [hM49, upd2_ne2 e]; exact hcp j q1 (by omega)) hW (lv_sub hl [1, 2, 3, 4, 5, 6, 7, 8, 0] rfl)
                                    exact hC_202 _ (11 - dd) (pg M37 188 27) 0 M37 H locs ls (Nat.lt_succ_self _) (by omega) (by omega) (by rw [hen]) hsZ h7z (fun j q1 q2 => absurd q2 (by omega)) hW (lv_sub hl [4, 5, 6, 7, 8, 2, 1, 9, 0] rfl)
                                · rw [hnowy] at hp38
                                  have hcw := fun z => hp38 (hcc.1.2 z)
                                  have hzz := hM37
                                  have hsZ := hsY.go hzz.2
                                  have h8z : M37 8 = Mx 8 := (hzz.2.1 8 (by decide)).trans (hsy 8 (by decide))
                                  have hFS := (FBr_S (n := n) (s := 0) (f := pg M 0) (b := M 8) (w := way) (by omega)).trans (stepN_f hcw)
                                  refine rw_stk (st' := [.int (iN 0)]) rfl ?_
                                  refine rw_if_eq (tgt := 228) hx hb dX11_reply_140 (by decide) (by decide) (fun _ => ?_) (fun c => absurd (by decide) c)
                                  refine rw_iinc (lv' := [(7, .int (iN (way + 1))), (0, .ref (ad 0)), (1, .int (iN 0)), (2, .int (iN n)), (3, .int (iN w)), (4, .int (iN wy)), (5, .int (iN best)), (6, .int (iN whr)), (8, .int (iN lf)), (9, .int (iN k))]) hx hb dX11_reply_228 hl (k := 7) rfl (by decide) rfl (fun ls hl => ?_)
                                  refine lv_goto (tgt := 88) hx hb dX11_reply_231 (by decide) ?_
                                  exact ih88 wy best whr (way + 1) M37 H locs ls (by omega) hwy2 (by omega) hsZ (by rw [hFS]; exact hB1) (fun j q1 q2 => by rw [hFS, h8z]; exact hB2 j q1 q2) (by rw [hFS]; exact hB3) hW (lv_sub hl [1, 2, 3, 4, 5, 6, 7, 0] rfl)
                              · refine lv_aload_n hx hb dX11_reply_109 rfl (lv_at hl 0 rfl) ?_
                                refine rw_getR hx hb hts hown hW 0 lm_0 19 7 rfl fX11_32 dX11_reply_110 ?_
                                refine lv_iload hx hb dX11_reply_113 (lv_at hl 9 rfl) ?_
                                refine lv_iload hx hb dX11_reply_115 (lv_at hl 8 rfl) ?_
                                refine rw_bipush hx hb dX11_reply_117 (by decide) ?_
                                refine rw_irem hx hb dX11_reply_119 (by omega) (by decide) (by decide) rfl ?_
                                rw [Int.tmod_eq_emod_of_nonneg hl0.1]
                                refine rw_iast hx hb hW hnt4 7 lm_7 (v := lf % 13) (by omega) (by omega) (by decide) dX11_reply_120 (fun H locs hW => ?_)
                                obtain ⟨M50, hM50⟩ : ∃ z, z = upd2 My 7 k (lf % 13) := ⟨_, rfl⟩
                                rw [← hM50] at hW
                                refine lv_iload hx hb dX11_reply_121 (lv_at hl 8 rfl) ?_
                                refine rw_bipush hx hb dX11_reply_123 (by decide) ?_
                                refine rw_idiv hx hb dX11_reply_125 (by omega) (by decide) (by decide) rfl ?_
                                rw [Int.tdiv_eq_ediv_of_nonneg hl0.1]
                                refine lv_istore (lv' := [(8, .int (iN (lf / 13))), (0, .ref (ad 0)), (1, .int (iN 0)), (2, .int (iN n)), (3, .int (iN w)), (4, .int (iN wy)), (5, .int (iN best)), (6, .int (iN whr)), (7, .int (iN way)), (9, .int (iN k))]) hx hb dX11_reply_126 hl (by decide) rfl (fun ls hl => ?_)
                                refine rw_iinc (lv' := [(9, .int (iN (k + (-1)))), (8, .int (iN (lf / 13))), (0, .ref (ad 0)), (1, .int (iN 0)), (2, .int (iN n)), (3, .int (iN w)), (4, .int (iN wy)), (5, .int (iN best)), (6, .int (iN whr)), (7, .int (iN way))]) hx hb dX11_reply_128 hl (k := 9) rfl (by decide) rfl (fun ls hl => ?_)
                                refine lv_goto (tgt := 104) hx hb dX11_reply_131 (by decide) ?_
                                exact ih104 (lf / 13) (k + (-1)) M50 H locs ls (by omega) (by omega) (by omega) (by rw [hlf, show n - 1 - (k + -1) = n - 1 - k + 1 by omega, p13_S (by omega), Int.ediv_ediv_of_nonneg (Int.le_of_lt (p13_pos _))]) (fun q hq => by rw [hM50, upd2_ne1 hq]; exact hsy q hq) (fun j q1 q2 => by by_cases e : j = k; subst e; rw [hM50, upd2_eq, hlf]; rw [hM50, upd2_ne2 e]; exact hdg j (by omega) q2) hW (lv_sub hl [2, 3, 4, 5, 6, 7, 8, 9, 1, 0] rfl)
                          exact hC_104 _ way (n - 1) Mx H locs ls (Nat.lt_succ_self _) (by omega) (by omega) (by rw [show n - 1 - (n - 1) = 0 by omega]; show way = way / 1; rw [Int.ediv_one]) (fun q _ => rfl) (fun j q1 q2 => absurd q2 (by omega)) hW (lv_sub hl [2, 3, 4, 5, 6, 7, 8, 9, 1, 0] rfl)
                    exact hC_88 _ wy (-4) (-4) 0 M H locs ls (Nat.lt_succ_self _) (by have q := p13_rng (e := n) (by omega); exact ⟨by rw [hwy, show k = n by omega], q.1, q.2.1⟩) (by have := p13_pos k; omega) SameN.rf (by rfl) (fun j _ _ => rfl) (Or.inl ⟨rfl, rfl⟩) hW (lv_sub hl [1, 2, 3, 4, 5, 6, 7, 0] rfl)
                  · refine lv_iload hx hb dX11_reply_72 (lv_at hl 4 rfl) ?_
                    refine rw_bipush hx hb dX11_reply_74 (by decide) ?_
                    refine rw_imul hx hb dX11_reply_76 ?_
                    refine lv_istore (lv' := [(4, .int (iN (wy * 13))), (0, .ref (ad 0)), (1, .int (iN 0)), (2, .int (iN n)), (3, .int (iN w)), (5, .int (iN (-4))), (6, .int (iN (-4))), (7, .int (iN k))]) hx hb dX11_reply_77 hl (by decide) rfl (fun ls hl => ?_)
                    refine rw_iinc (lv' := [(7, .int (iN (k + 1))), (4, .int (iN (wy * 13))), (0, .ref (ad 0)), (1, .int (iN 0)), (2, .int (iN n)), (3, .int (iN w)), (5, .int (iN (-4))), (6, .int (iN (-4)))]) hx hb dX11_reply_79 hl (k := 7) rfl (by decide) rfl (fun ls hl => ?_)
                    refine lv_goto (tgt := 66) hx hb dX11_reply_82 (by decide) ?_
                    exact ih66 (k + 1) (wy * 13) H locs ls (by omega) (by omega) (by rw [hwy, p13_S hk9.1]) hW (lv_sub hl [2, 3, 4, 5, 1, 6, 7, 0] rfl)
              exact hC_66 _ 0 1 H locs ls (Nat.lt_succ_self _) (by omega) (by rfl) hW (lv_sub hl [4, 5, 6, 7, 3, 2, 1, 0] rfl)
          · refine rw_stk (st' := [.int (iN 0)]) rfl ?_
            refine rw_if_ne (tgt := 41) hx hb dX11_reply_36 (by decide) (by decide) (fun c => absurd c (by decide)) (fun _ => ?_)
            refine rw_iconst hx hb dX11_reply_39 ?_
            refine rw_iret hx hb hr hlocks hW dX11_reply_40 (⟨(-1), rfl, ?_⟩)
            exact Or.inr (Or.inr ⟨by omega, rfl, rfl⟩)
      · refine rw_stk (st' := [.int (iN 0)]) rfl ?_
        refine rw_if_eq (tgt := 39) hx hb dX11_reply_16 (by decide) (by decide) (fun _ => ?_) (fun c => absurd (by decide) c)
        refine rw_iconst hx hb dX11_reply_39 ?_
        refine rw_iret hx hb hr hlocks hW dX11_reply_40 (⟨(-1), rfl, ?_⟩)
        exact Or.inr (Or.inr ⟨by omega, rfl, rfl⟩)
    · refine rw_stk (st' := [.int (iN 1)]) rfl ?_
      refine rw_if_eq (tgt := 39) hx hb dX11_reply_4 (by decide) (by decide) (fun c => absurd c (by decide)) (fun _ => ?_)
      refine lv_iload_n hx hb dX11_reply_7 rfl (lv_at hl 2 rfl) ?_
      refine rw_i2l hx hb dX11_reply_8 (by omega) ?_
      refine lv_lconst (v := jN 1) hx hb dX11_reply_9 rfl ?_
      refine lv_ldc2 (v := 4) hx hb hown (hts _ (wm_24 _ (List.mem_of_getElem? (i := 9) rfl))) dX11_reply_10 ?_
      refine rw_stk (st' := [.long (jN 4), .long (jN 1), .long (jN n)]) (by rw [show (4 : Int64) = jN 4 from by decide]) ?_
      refine rw_callS hx hb hml hts hown hW ⟨Nat.le_refl 0, Nat.le_refl 0⟩ [.long (jN n), .long (jN 1), .long (jN 4)] (c_X11_in (l := l) (G := G) (ad := ad) (CA := CA) (nt := nt) n 1 4 (by first | omega | decide) (by first | omega | decide) (by first | omega | decide) M) kX11_57 rfl ⟨Nat.le_of_ble_eq_true rfl, Nat.le_of_ble_eq_true rfl⟩ hl.1 rfl (Nat.le_of_ble_eq_true rfl) dX11_reply_13 (fun v51 M52 H locs hp53 hW => ?_)
      obtain ⟨a54, rfl, hp53, hp53m⟩ := hp53
      rw [hp53m] at hW
      rcases hp53 with ⟨rfl, hp53⟩ | ⟨rfl, hp53⟩
      · refine rw_stk (st' := [.int (iN 1)]) rfl ?_
        refine rw_if_eq (tgt := 39) hx hb dX11_reply_16 (by decide) (by decide) (fun c => absurd c (by decide)) (fun _ => ?_)
        refine lv_iload_n hx hb dX11_reply_19 rfl (lv_at hl 3 rfl) ?_
        refine rw_if_eq (tgt := 41) hx hb dX11_reply_20 (by decide) (by omega) (fun c_20 => ?_) (fun c_20 => ?_)
        · refine lv_aload_n hx hb dX11_reply_41 rfl (lv_at hl 0 rfl) ?_
          refine rw_iconst hx hb dX11_reply_42 ?_
          refine rw_callV hx hb hml hts hown hW ⟨Nat.le_refl 0, Nat.le_refl 0⟩ [.int (iN 0)] 0 lm_0 rfl (c_X11_isOver (l := l) (G := G) (ad := ad) (CA := CA) (nt := nt) (by omega) 0 (by first | omega | decide) M hI) kX11_188 rfl ⟨Nat.le_of_ble_eq_true rfl, Nat.le_of_ble_eq_true rfl⟩ hl.1 rfl (Nat.le_of_ble_eq_true rfl) dX11_reply_43 (fun v55 M56 H locs hp57 hW => ?_)
          obtain ⟨a58, rfl, hp57, hp57m⟩ := hp57
          rw [hp57m] at hW
          rcases hp57 with ⟨rfl, hp57⟩ | ⟨rfl, hp57⟩
          · refine rw_stk (st' := [.int (iN 1)]) rfl ?_
            refine rw_if_eq (tgt := 52) hx hb dX11_reply_46 (by decide) (by decide) (fun c => absurd c (by decide)) (fun _ => ?_)
            refine rw_bipush hx hb dX11_reply_49 (by decide) ?_
            refine rw_iret hx hb hr hlocks hW dX11_reply_51 (⟨(-2), rfl, ?_⟩)
            exact Or.inr (Or.inl ⟨by omega, by omega, rfl, rfl⟩)
          · refine rw_stk (st' := [.int (iN 0)]) rfl ?_
            refine rw_if_eq (tgt := 52) hx hb dX11_reply_46 (by decide) (by decide) (fun _ => ?_) (fun c => absurd (by decide) c)
            refine rw_iconst hx hb dX11_reply_52 ?_
            refine lv_istore (lv' := [(4, .int (iN 1)), (0, .ref (ad 0)), (1, .int (iN 1)), (2, .int (iN n)), (3, .int (iN w))]) hx hb dX11_reply_53 hl (by decide) rfl (fun ls hl => ?_)
            refine rw_bipush hx hb dX11_reply_55 (by decide) ?_
            refine lv_istore (lv' := [(5, .int (iN (-4))), (4, .int (iN 1)), (0, .ref (ad 0)), (1, .int (iN 1)), (2, .int (iN n)), (3, .int (iN w))]) hx hb dX11_reply_57 hl (by decide) rfl (fun ls hl => ?_)
            refine rw_bipush hx hb dX11_reply_59 (by decide) ?_
            refine lv_istore (lv' := [(6, .int (iN (-4))), (5, .int (iN (-4))), (4, .int (iN 1)), (0, .ref (ad 0)), (1, .int (iN 1)), (2, .int (iN n)), (3, .int (iN w))]) hx hb dX11_reply_61 hl (by decide) rfl (fun ls hl => ?_)
            refine rw_iconst hx hb dX11_reply_63 ?_
            refine lv_istore (lv' := [(7, .int (iN 0)), (6, .int (iN (-4))), (5, .int (iN (-4))), (4, .int (iN 1)), (0, .ref (ad 0)), (1, .int (iN 1)), (2, .int (iN n)), (3, .int (iN w))]) hx hb dX11_reply_64 hl (by decide) rfl (fun ls hl => ?_)
            have hC_66 : ∀ N : Nat, ∀ (k : Int) (wy : Int) (H : Heap) (locs : List Loc) (ls : Array Slot), (n - k).toNat < N → (0 ≤ k ∧ k ≤ n) → (wy = p13 k) → Wo G ad CA nt LyM (wA ad LyM) s M H locs → lv_has ls 11 [(0, .ref (ad 0)), (1, .int (iN 1)), (2, .int (iN n)), (3, .int (iN w)), (4, .int (iN wy)), (5, .int (iN (-4))), (6, .int (iN (-4))), (7, .int (iN k))] → Wf l 5 124 G ad CA nt LyM (P_X11_reply 1 n w M) p e s m args below meth c H locs (F0 m 66 ls []) := by
              intro N
              induction N with
              | zero => intro k wy H locs ls hN; exact absurd hN (Nat.not_lt_zero _)
              | succ N ih66 =>
                intro k wy H locs ls hN hk9 hwy hW hl
                refine lv_iload hx hb dX11_reply_66 (lv_at hl 7 rfl) ?_
                refine lv_iload_n hx hb dX11_reply_68 rfl (lv_at hl 2 rfl) ?_
                refine rw_icmp_ge (tgt := 85) hx hb dX11_reply_69 (by decide) (by omega) (by omega) (fun c_69 => ?_) (fun c_69 => ?_)
                · refine rw_iconst hx hb dX11_reply_85 ?_
                  refine lv_istore (lv' := [(7, .int (iN 0)), (0, .ref (ad 0)), (1, .int (iN 1)), (2, .int (iN n)), (3, .int (iN w)), (4, .int (iN wy)), (5, .int (iN (-4))), (6, .int (iN (-4)))]) hx hb dX11_reply_86 hl (by decide) rfl (fun ls hl => ?_)
                  have hC_88 : ∀ N : Nat, ∀ (wy : Int) (best : Int) (whr : Int) (way : Int) (Mx : Mem) (H : Heap) (locs : List Loc) (ls : Array Slot), (p13 n - way).toNat < N → (wy = p13 n ∧ 1 ≤ p13 n ∧ p13 n ≤ 28561) → (0 ≤ way ∧ way ≤ wy) → (SameN M Mx) → (whr = (FBr n 1 (pg M 0) (M 8) (way).toNat).2.1) → (∀ j, 0 ≤ j → j < n → Mx 8 j = (FBr n 1 (pg M 0) (M 8) (way).toNat).2.2 j) → (((FBr n 1 (pg M 0) (M 8) (way).toNat).1 = 11 ∧ best = -4) ∨ (0 ≤ (FBr n 1 (pg M 0) (M 8) (way).toNat).1 ∧ (FBr n 1 (pg M 0) (M 8) (way).toNat).1 < 11 ∧ best = (if 1 = 0 then 11 else pg M 0 47 + 1) - (FBr n 1 (pg M 0) (M 8) (way).toNat).1)) → Wo G ad CA nt LyM (wA ad LyM) s Mx H locs → lv_has ls 11 [(0, .ref (ad 0)), (1, .int (iN 1)), (2, .int (iN n)), (3, .int (iN w)), (4, .int (iN wy)), (5, .int (iN best)), (6, .int (iN whr)), (7, .int (iN way))] → Wf l 5 124 G ad CA nt LyM (P_X11_reply 1 n w M) p e s m args below meth c H locs (F0 m 88 ls []) := by
                    intro N
                    induction N with
                    | zero => intro wy best whr way Mx H locs ls hN; exact absurd hN (Nat.not_lt_zero _)
                    | succ N ih88 =>
                      intro wy best whr way Mx H locs ls hN hwy2 hway hs hB1 hB2 hB3 hW hl
                      refine lv_iload hx hb dX11_reply_88 (lv_at hl 7 rfl) ?_
                      refine lv_iload hx hb dX11_reply_90 (lv_at hl 4 rfl) ?_
                      refine rw_icmp_ge (tgt := 234) hx hb dX11_reply_92 (by decide) (by omega) (by omega) (fun c_92 => ?_) (fun c_92 => ?_)
                      · refine lv_iload_n hx hb dX11_reply_234 rfl (lv_at hl 3 rfl) ?_
                        refine rw_if_ne (tgt := 243) hx hb dX11_reply_235 (by decide) (by omega) (fun c_235 => ?_) (fun c_235 => ?_)
                        · refine lv_aload_n hx hb dX11_reply_243 rfl (lv_at hl 0 rfl) ?_
                          refine rw_getR hx hb hts hown hW 0 lm_0 20 8 rfl fX11_35 dX11_reply_244 ?_
                          refine lv_iload_n hx hb dX11_reply_247 rfl (lv_at hl 3 rfl) ?_
                          refine rw_bipush hx hb dX11_reply_248 (by decide) ?_
                          refine rw_isub hx hb dX11_reply_250 ?_
                          refine rw_iald hx hb hW hnt4 8 lm_8 (by omega) (by omega) (by decide) dX11_reply_251 (v := (Mx 8 (w - 10))) rfl ?_
                          refine rw_iret hx hb hr hlocks hW dX11_reply_252 (⟨(Mx 8 (w - 10)), rfl, ?_⟩)
                          have hwe : way = p13 n := by omega
                          subst hwe
                          exact Or.inl ⟨by omega, by omega, by rw [if_neg (by omega)]; exact hB2 (w - 10) (by omega) (by omega), hs⟩
                        · refine lv_iload hx hb dX11_reply_238 (lv_at hl 6 rfl) ?_
                          refine lv_goto (tgt := 252) hx hb dX11_reply_240 (by decide) ?_
                          refine rw_iret hx hb hr hlocks hW dX11_reply_252 (⟨whr, rfl, ?_⟩)
                          have hwe : way = p13 n := by omega
                          subst hwe
                          exact Or.inl ⟨by omega, by omega, by rw [if_pos (by omega)]; exact hB1, hs⟩
                      · refine lv_iload hx hb dX11_reply_95 (lv_at hl 7 rfl) ?_
                        refine lv_istore (lv' := [(8, .int (iN way)), (0, .ref (ad 0)), (1, .int (iN 1)), (2, .int (iN n)), (3, .int (iN w)), (4, .int (iN wy)), (5, .int (iN best)), (6, .int (iN whr)), (7, .int (iN way))]) hx hb dX11_reply_97 hl (by decide) rfl (fun ls hl => ?_)
                        refine lv_iload_n hx hb dX11_reply_99 rfl (lv_at hl 3 rfl) ?_
                        refine rw_iconst hx hb dX11_reply_100 ?_
                        refine rw_isub hx hb dX11_reply_101 ?_
                        refine lv_istore (lv' := [(9, .int (iN (n - 1))), (8, .int (iN way)), (0, .ref (ad 0)), (1, .int (iN 1)), (2, .int (iN n)), (3, .int (iN w)), (4, .int (iN wy)), (5, .int (iN best)), (6, .int (iN whr)), (7, .int (iN way))]) hx hb dX11_reply_102 hl (by decide) rfl (fun ls hl => ?_)
                        have hC_104 : ∀ N : Nat, ∀ (lf : Int) (k : Int) (My : Mem) (H : Heap) (locs : List Loc) (ls : Array Slot), (k + 1).toNat < N → (-1 ≤ k ∧ k ≤ n - 1) → (0 ≤ lf ∧ lf ≤ 30000) → (lf = way / p13 (n - 1 - k)) → (∀ q : Nat, q ≠ 7 → My q = Mx q) → (∀ j, k < j → j < n → My 7 j = way / p13 (n - 1 - j) % 13) → Wo G ad CA nt LyM (wA ad LyM) s My H locs → lv_has ls 11 [(0, .ref (ad 0)), (1, .int (iN 1)), (2, .int (iN n)), (3, .int (iN w)), (4, .int (iN wy)), (5, .int (iN best)), (6, .int (iN whr)), (7, .int (iN way)), (8, .int (iN lf)), (9, .int (iN k))] → Wf l 5 124 G ad CA nt LyM (P_X11_reply 1 n w M) p e s m args below meth c H locs (F0 m 104 ls []) := by
                          intro N
                          induction N with
                          | zero => intro lf k My H locs ls hN; exact absurd hN (Nat.not_lt_zero _)
                          | succ N ih104 =>
                            intro lf k My H locs ls hN hk9 hl0 hlf hsy hdg hW hl
                            refine lv_iload hx hb dX11_reply_104 (lv_at hl 9 rfl) ?_
                            refine rw_if_lt (tgt := 134) hx hb dX11_reply_106 (by decide) (by omega) (fun c_106 => ?_) (fun c_106 => ?_)
                            · have hsY : SameN M My := SameN.num (Or.inl rfl) hs hsy
                              have hnowy : pg My 0 = pg M 0 := hsY.page (by decide)
                              have hqq : ∀ i, 0 ≤ i → i < n → My 7 i = (mixQ n 0 way (fun _ => 0)) i := fun i h1 h2 => by unfold mixQ; rw [if_neg (by omega), hdg i (by omega) h2]
                              have hcc := canN_congr (s := 1) (q := My 7) (q' := (mixQ n 0 way (fun _ => 0))) n.toNat 0 (pg M 0) (fun i h1 h2 => hqq i h1 (by omega))
                              refine lv_aload_n hx hb dX11_reply_134 rfl (lv_at hl 0 rfl) ?_
                              refine lv_iload_n hx hb dX11_reply_135 rfl (lv_at hl 1 rfl) ?_
                              refine lv_iload_n hx hb dX11_reply_136 rfl (lv_at hl 2 rfl) ?_
                              refine rw_callV hx hb hml hts hown hW ⟨Nat.le_refl 0, Nat.le_refl 0⟩ [.int (iN 1), .int (iN n)] 0 lm_0 rfl (c_X11_triesNumbers (l := l) (G := G) (ad := ad) (CA := CA) (nt := nt) (by omega) 1 (by first | omega | decide) n (by first | omega | decide) My (fun j q1 q2 => by rw [hdg j (by omega) q2]; omega) (by rw [hnowy]; exact hI) (by rw [hnowy]; omega)) kX11_241 rfl ⟨Nat.le_of_ble_eq_true rfl, Nat.le_of_ble_eq_true rfl⟩ hl.1 rfl (Nat.le_of_ble_eq_true rfl) dX11_reply_137 (fun v59 M60 H locs hp61 hW => ?_)
                              obtain ⟨a62, rfl, hp61, hM60⟩ := hp61
                              rcases hp61 with ⟨rfl, hp61⟩ | ⟨rfl, hp61⟩
                              · rw [hnowy] at hp61
                                have hcw := hcc.1.1 hp61
                                have hzz := hM60
                                rw [hnowy] at hzz
                                have hen := hzz.1 hp61
                                rw [hcc.2] at hen
                                have hsZ := hsY.go hzz.2
                                have h8z : M60 8 = Mx 8 := (hzz.2.1 8 (by decide)).trans (hsy 8 (by decide))
                                have h7z : M60 7 = My 7 := hzz.2.1 7 (by decide)
                                refine rw_stk (st' := [.int (iN 1)]) rfl ?_
                                refine rw_if_eq (tgt := 228) hx hb dX11_reply_140 (by decide) (by decide) (fun c => absurd c (by decide)) (fun _ => ?_)
                                have hin := endN_inv (s := 1) (by decide) (q := (mixQ n 0 way (fun _ => 0))) n.toNat 0 (pg M 0) (fun i h1 h2 => by rw [← hqq i h1 (by omega), hdg i (by omega) (by omega)]; omega) hcw hI (by omega)
                                rw [← hen] at hin
                                have hdr := distF_rng hin.1 1
                                have hkr := hin.1.2.1
                                obtain ⟨dd, hdd⟩ : ∃ z, z = distF (pg M60 188) 1 := ⟨_, rfl⟩
                                rw [← hdd] at hdr
                                have hps := place_spot M60 188 (a := pg M60 188 27)
                                have hmc : M60 0 1 = M 0 1 := congrFun (hsZ.1 0 (by decide) (by decide) (by decide)) 1
                                have hds : dd = pg M60 188 47 + 1 - spotF (pg M60 188) (pg M60 188 27) := by rw [hdd]; unfold distF; rw [if_neg (by decide)]
                                refine lv_iload_n hx hb dX11_reply_143 rfl (lv_at hl 1 rfl) ?_
                                refine rw_if_ne (tgt := 164) hx hb dX11_reply_144 (by decide) (by decide) (fun _ => ?_) (fun c => absurd c (by decide))
                                refine rw_iconst hx hb dX11_reply_164 ?_
                                refine lv_aload_n hx hb dX11_reply_165 rfl (lv_at hl 0 rfl) ?_
                                refine lv_aload_n hx hb dX11_reply_166 rfl (lv_at hl 0 rfl) ?_
                                refine rw_sipush hx hb dX11_reply_167 (by decide) ?_
                                refine rw_callV hx hb hml hts hown hW ⟨Nat.le_refl 0, Nat.le_refl 0⟩ [.int (iN 188)] 0 lm_0 rfl (c_X11_keg (l := l) (G := G) (ad := ad) (CA := CA) (nt := nt) (by omega) 188 (by first | omega | decide) M60) kX11_146 rfl ⟨Nat.le_of_ble_eq_true rfl, Nat.le_of_ble_eq_true rfl⟩ hl.1 rfl (Nat.le_of_ble_eq_true rfl) dX11_reply_170 (fun v63 M64 H locs hp65 hW => ?_)
                                obtain ⟨_, rfl, rfl, hp65⟩ := hp65
                                rw [hp65] at hW
                                refine rw_stk (st' := [.int (iN (pg M60 188 27)), .ref (ad 0), .int (iN 1)]) rfl ?_
                                refine rw_callV hx hb hml hts hown hW ⟨Nat.le_refl 0, Nat.le_refl 0⟩ [.int (iN (pg M60 188 27))] 0 lm_0 rfl (c_X11_place (l := l) (G := G) (ad := ad) (CA := CA) (nt := nt) (by omega) (pg M60 188 27) (by first | omega | decide) M60) kX11_236 rfl ⟨Nat.le_of_ble_eq_true rfl, Nat.le_of_ble_eq_true rfl⟩ hl.1 rfl (Nat.le_of_ble_eq_true rfl) dX11_reply_173 (fun v66 M67 H locs hp68 hW => ?_)
                                obtain ⟨_, rfl, rfl, hp68⟩ := hp68
                                rw [hp68] at hW
                                refine rw_stk (st' := [.int (iN (if (pg M60 188 27) = 20 then -1 else if (pg M60 188 27) = 21 then M60 0 1 else (pg M60 188 27))), .int (iN 1)]) rfl ?_
                                refine rw_iadd hx hb dX11_reply_176 ?_
                                have hfe : 1 + (if (pg M60 188 27) = 20 then -1 else if (pg M60 188 27) = 21 then M60 0 1 else (pg M60 188 27)) = (pg M 0 47 + 1) - dd := by rw [hps]; omega
                                rw [hfe]
                                have hFS := (FBr_S (n := n) (s := 1) (f := pg M 0) (b := M 8) (w := way) (by omega)).trans (stepN_t hcw)
                                rw [← hen, ← hdd] at hFS
                                refine lv_istore (lv' := [(9, .int (iN ((pg M 0 47 + 1) - dd))), (0, .ref (ad 0)), (1, .int (iN 1)), (2, .int (iN n)), (3, .int (iN w)), (4, .int (iN wy)), (5, .int (iN best)), (6, .int (iN whr)), (7, .int (iN way)), (8, .int (iN lf))]) hx hb dX11_reply_177 hl (by decide) rfl (fun ls hl => ?_)
                                refine lv_iload hx hb dX11_reply_179 (lv_at hl 0 rfl) ?_
                                refine lv_iload hx hb dX11_reply_181 (lv_at hl 6 rfl) ?_
                                refine rw_icmp_le (tgt := 228) hx hb dX11_reply_183 (by decide) (by omega) (by omega) (fun c_183 => ?_) (fun c_183 => ?_)
                                · rw [if_neg (show ¬ dd < (FBr n 1 (pg M 0) (M 8) (way).toNat).1 by omega)] at hFS
                                  refine rw_iinc (lv' := [(7, .int (iN (way + 1))), (9, .int (iN ((pg M 0 47 + 1) - dd))), (0, .ref (ad 0)), (1, .int (iN 1)), (2, .int (iN n)), (3, .int (iN w)), (4, .int (iN wy)), (5, .int (iN best)), (6, .int (iN whr)), (8, .int (iN lf))]) hx hb dX11_reply_228 hl (k := 8) rfl (by decide) rfl (fun ls hl => ?_)
                                  refine lv_goto (tgt := 88) hx hb dX11_reply_231 (by decide) ?_
                                  exact ih88 wy best whr (way + 1) M60 H locs ls (by omega) hwy2 (by omega) hsZ (by rw [hFS]; exact hB1) (fun j q1 q2 => by rw [hFS, h8z]; exact hB2 j q1 q2) (by rw [hFS]; exact hB3) hW (lv_sub hl [2, 3, 4, 5, 6, 7, 8, 0] rfl)
                                · have hdl : dd < (FBr n 1 (pg M 0) (M 8) (way).toNat).1 := by omega
                                  rw [if_pos hdl] at hFS
                                  refine lv_iload hx hb dX11_reply_186 (lv_at hl 0 rfl) ?_
                                  refine lv_istore (lv' := [(5, .int (iN ((pg M 0 47 + 1) - dd))), (9, .int (iN ((pg M 0 47 + 1) - dd))), (0, .ref (ad 0)), (1, .int (iN 1)), (2, .int (iN n)), (3, .int (iN w)), (4, .int (iN wy)), (6, .int (iN whr)), (7, .int (iN way)), (8, .int (iN lf))]) hx hb dX11_reply_188 hl (by decide) rfl (fun ls hl => ?_)
                                  refine lv_aload_n hx hb dX11_reply_190 rfl (lv_at hl 2 rfl) ?_
                                  refine rw_sipush hx hb dX11_reply_191 (by decide) ?_
                                  refine rw_callV hx hb hml hts hown hW ⟨Nat.le_refl 0, Nat.le_refl 0⟩ [.int (iN 188)] 0 lm_0 rfl (c_X11_keg (l := l) (G := G) (ad := ad) (CA := CA) (nt := nt) (by omega) 188 (by first | omega | decide) M60) kX11_146 rfl ⟨Nat.le_of_ble_eq_true rfl, Nat.le_of_ble_eq_true rfl⟩ hl.1 rfl (Nat.le_of_ble_eq_true rfl) dX11_reply_194 (fun v69 M70 H locs hp71 hW => ?_)
                                  obtain ⟨_, rfl, rfl, hp71⟩ := hp71
                                  rw [hp71] at hW
                                  refine rw_stk (st' := [.int (iN (pg M60 188 27))]) rfl ?_
                                  refine lv_istore (lv' := [(6, .int (iN (pg M60 188 27))), (5, .int (iN ((pg M 0 47 + 1) - dd))), (9, .int (iN ((pg M 0 47 + 1) - dd))), (0, .ref (ad 0)), (1, .int (iN 1)), (2, .int (iN n)), (3, .int (iN w)), (4, .int (iN wy)), (7, .int (iN way)), (8, .int (iN lf))]) hx hb dX11_reply_197 hl (by decide) rfl (fun ls hl => ?_)
                                  refine rw_iconst hx hb dX11_reply_199 ?_
                                  refine lv_istore (lv' := [(10, .int (iN 0)), (6, .int (iN (pg M60 188 27))), (5, .int (iN ((pg M 0 47 + 1) - dd))), (9, .int (iN ((pg M 0 47 + 1) - dd))), (0, .ref (ad 0)), (1, .int (iN 1)), (2, .int (iN n)), (3, .int (iN w)), (4, .int (iN wy)), (7, .int (iN way)), (8, .int (iN lf))]) hx hb dX11_reply_200 hl (by decide) rfl (fun ls hl => ?_)
                                  have hC_202 : ∀ N : Nat, ∀ (bs2 : Int) (wh2 : Int) (kk : Int) (Mw : Mem) (H : Heap) (locs : List Loc) (ls : Array Slot), (n - kk).toNat < N → (0 ≤ kk ∧ kk ≤ n) → (bs2 = (if 1 = 0 then 11 else pg M 0 47 + 1) - dd) → (wh2 = endN 1 n.toNat 0 (pg M 0) (mixQ n 0 way (fun _ => 0)) 27) → (SameN M Mw) → (Mw 7 = My 7) → (∀ j, 0 ≤ j → j < kk → Mw 8 j = My 7 j) → Wo G ad CA nt LyM (wA ad LyM) s Mw H locs → lv_has ls 11 [(0, .ref (ad 0)), (1, .int (iN 1)), (2, .int (iN n)), (3, .int (iN w)), (4, .int (iN wy)), (5, .int (iN bs2)), (6, .int (iN wh2)), (7, .int (iN way)), (10, .int (iN kk))] → Wf l 5 124 G ad CA nt LyM (P_X11_reply 1 n w M) p e s m args below meth c H locs (F0 m 202 ls []) := by
                                    intro N
                                    induction N with
                                    | zero => intro bs2 wh2 kk Mw H locs ls hN; exact absurd hN (Nat.not_lt_zero _)
                                    | succ N ih202 =>
                                      intro bs2 wh2 kk Mw H locs ls hN hkk hbs2 hwh2 hsw h7w hcp hW hl
                                      refine lv_iload hx hb dX11_reply_202 (lv_at hl 8 rfl) ?_
                                      refine lv_iload_n hx hb dX11_reply_204 rfl (lv_at hl 2 rfl) ?_
                                      refine rw_icmp_ge (tgt := 228) hx hb dX11_reply_205 (by decide) (by omega) (by omega) (fun c_205 => ?_) (fun c_205 => ?_)
                                      · refine rw_iinc (lv' := [(7, .int (iN (way + 1))), (0, .ref (ad 0)), (1, .int (iN 1)), (2, .int (iN n)), (3, .int (iN w)), (4, .int (iN wy)), (5, .int (iN bs2)), (6, .int (iN wh2)), (10, .int (iN kk))]) hx hb dX11_reply_228 hl (k := 7) rfl (by decide) rfl (fun ls hl => ?_)
                                        refine lv_goto (tgt := 88) hx hb dX11_reply_231 (by decide) ?_
                                        exact ih88 wy bs2 wh2 (way + 1) Mw H locs ls (by omega) hwy2 (by omega) hsw (by rw [hFS, hwh2, ← hen]) (fun j q1 q2 => by rw [hFS, hcp j q1 (by omega)]; exact hqq j q1 q2) (by rw [hFS]; exact Or.inr ⟨by show 0 ≤ dd; omega, by show dd < 11; omega, by show bs2 = _ - dd; omega⟩) hW (lv_sub hl [1, 2, 3, 4, 5, 6, 7, 0] rfl)
                                      · refine lv_aload_n hx hb dX11_reply_208 rfl (lv_at hl 0 rfl) ?_
                                        refine rw_getR hx hb hts hown hW 0 lm_0 20 8 rfl fX11_35 dX11_reply_209 ?_
                                        refine lv_iload hx hb dX11_reply_212 (lv_at hl 8 rfl) ?_
                                        refine lv_aload_n hx hb dX11_reply_214 rfl (lv_at hl 0 rfl) ?_
                                        refine rw_getR hx hb hts hown hW 0 lm_0 19 7 rfl fX11_32 dX11_reply_215 ?_
                                        refine lv_iload hx hb dX11_reply_218 (lv_at hl 8 rfl) ?_
                                        refine rw_iald hx hb hW hnt4 7 lm_7 (by omega) (by omega) (by decide) dX11_reply_220 (v := (Mw 7 kk)) rfl ?_
                                        refine rw_iast hx hb hW hnt4 8 lm_8 (v := (Mw 7 kk)) (by omega) (by omega) (by decide) dX11_reply_221 (fun H locs hW => ?_)
                                        obtain ⟨M72, hM72⟩ : ∃ z, z = upd2 Mw 8 kk (Mw 7 kk) := ⟨_, rfl⟩
                                        rw [← hM72] at hW
                                        refine rw_iinc (lv' := [(10, .int (iN (kk + 1))), (0, .ref (ad 0)), (1, .int (iN 1)), (2, .int (iN n)), (3, .int (iN w)), (4, .int (iN wy)), (5, .int (iN bs2)), (6, .int (iN wh2)), (7, .int (iN way))]) hx hb dX11_reply_222 hl (k := 8) rfl (by decide) rfl (fun ls hl => ?_)
                                        refine lv_goto (tgt := 202) hx hb dX11_reply_225 (by decide) ?_
                                        exact ih202 bs2 wh2 (kk + 1) M72 H locs ls (by omega) (by omega) hbs2 hwh2 (SameN.num (Or.inr rfl) hsw (fun q hq => by rw [hM72, upd2_ne1 hq])) (by rw [hM72, upd2_ne1 (by decide)]; exact h7w) (fun j q1 q2 => by by_cases e : j = kk; subst e; rw [hM72, upd2_eq, h7w]; rw [hM72, upd2_ne2 e]; exact hcp j q1 (by omega)) hW (lv_sub hl [1, 2, 3, 4, 5, 6, 7, 8, 0] rfl)
                                  exact hC_202 _ ((pg M 0 47 + 1) - dd) (pg M60 188 27) 0 M60 H locs ls (Nat.lt_succ_self _) (by omega) (by omega) (by rw [hen]) hsZ h7z (fun j q1 q2 => absurd q2 (by omega)) hW (lv_sub hl [4, 5, 6, 7, 8, 2, 1, 9, 0] rfl)
                              · rw [hnowy] at hp61
                                have hcw := fun z => hp61 (hcc.1.2 z)
                                have hzz := hM60
                                have hsZ := hsY.go hzz.2
                                have h8z : M60 8 = Mx 8 := (hzz.2.1 8 (by decide)).trans (hsy 8 (by decide))
                                have hFS := (FBr_S (n := n) (s := 1) (f := pg M 0) (b := M 8) (w := way) (by omega)).trans (stepN_f hcw)
                                refine rw_stk (st' := [.int (iN 0)]) rfl ?_
                                refine rw_if_eq (tgt := 228) hx hb dX11_reply_140 (by decide) (by decide) (fun _ => ?_) (fun c => absurd (by decide) c)
                                refine rw_iinc (lv' := [(7, .int (iN (way + 1))), (0, .ref (ad 0)), (1, .int (iN 1)), (2, .int (iN n)), (3, .int (iN w)), (4, .int (iN wy)), (5, .int (iN best)), (6, .int (iN whr)), (8, .int (iN lf)), (9, .int (iN k))]) hx hb dX11_reply_228 hl (k := 7) rfl (by decide) rfl (fun ls hl => ?_)
                                refine lv_goto (tgt := 88) hx hb dX11_reply_231 (by decide) ?_
                                exact ih88 wy best whr (way + 1) M60 H locs ls (by omega) hwy2 (by omega) hsZ (by rw [hFS]; exact hB1) (fun j q1 q2 => by rw [hFS, h8z]; exact hB2 j q1 q2) (by rw [hFS]; exact hB3) hW (lv_sub hl [1, 2, 3, 4, 5, 6, 7, 0] rfl)
                            · refine lv_aload_n hx hb dX11_reply_109 rfl (lv_at hl 0 rfl) ?_
                              refine rw_getR hx hb hts hown hW 0 lm_0 19 7 rfl fX11_32 dX11_reply_110 ?_
                              refine lv_iload hx hb dX11_reply_113 (lv_at hl 9 rfl) ?_
                              refine lv_iload hx hb dX11_reply_115 (lv_at hl 8 rfl) ?_
                              refine rw_bipush hx hb dX11_reply_117 (by decide) ?_
                              refine rw_irem hx hb dX11_reply_119 (by omega) (by decide) (by decide) rfl ?_
                              rw [Int.tmod_eq_emod_of_nonneg hl0.1]
                              refine rw_iast hx hb hW hnt4 7 lm_7 (v := lf % 13) (by omega) (by omega) (by decide) dX11_reply_120 (fun H locs hW => ?_)
                              obtain ⟨M73, hM73⟩ : ∃ z, z = upd2 My 7 k (lf % 13) := ⟨_, rfl⟩
                              rw [← hM73] at hW
                              refine lv_iload hx hb dX11_reply_121 (lv_at hl 8 rfl) ?_
                              refine rw_bipush hx hb dX11_reply_123 (by decide) ?_
                              refine rw_idiv hx hb dX11_reply_125 (by omega) (by decide) (by decide) rfl ?_
                              rw [Int.tdiv_eq_ediv_of_nonneg hl0.1]
                              refine lv_istore (lv' := [(8, .int (iN (lf / 13))), (0, .ref (ad 0)), (1, .int (iN 1)), (2, .int (iN n)), (3, .int (iN w)), (4, .int (iN wy)), (5, .int (iN best)), (6, .int (iN whr)), (7, .int (iN way)), (9, .int (iN k))]) hx hb dX11_reply_126 hl (by decide) rfl (fun ls hl => ?_)
                              refine rw_iinc (lv' := [(9, .int (iN (k + (-1)))), (8, .int (iN (lf / 13))), (0, .ref (ad 0)), (1, .int (iN 1)), (2, .int (iN n)), (3, .int (iN w)), (4, .int (iN wy)), (5, .int (iN best)), (6, .int (iN whr)), (7, .int (iN way))]) hx hb dX11_reply_128 hl (k := 9) rfl (by decide) rfl (fun ls hl => ?_)
                              refine lv_goto (tgt := 104) hx hb dX11_reply_131 (by decide) ?_
                              exact ih104 (lf / 13) (k + (-1)) M73 H locs ls (by omega) (by omega) (by omega) (by rw [hlf, show n - 1 - (k + -1) = n - 1 - k + 1 by omega, p13_S (by omega), Int.ediv_ediv_of_nonneg (Int.le_of_lt (p13_pos _))]) (fun q hq => by rw [hM73, upd2_ne1 hq]; exact hsy q hq) (fun j q1 q2 => by by_cases e : j = k; subst e; rw [hM73, upd2_eq, hlf]; rw [hM73, upd2_ne2 e]; exact hdg j (by omega) q2) hW (lv_sub hl [2, 3, 4, 5, 6, 7, 8, 9, 1, 0] rfl)
                        exact hC_104 _ way (n - 1) Mx H locs ls (Nat.lt_succ_self _) (by omega) (by omega) (by rw [show n - 1 - (n - 1) = 0 by omega]; show way = way / 1; rw [Int.ediv_one]) (fun q _ => rfl) (fun j q1 q2 => absurd q2 (by omega)) hW (lv_sub hl [2, 3, 4, 5, 6, 7, 8, 9, 1, 0] rfl)
                  exact hC_88 _ wy (-4) (-4) 0 M H locs ls (Nat.lt_succ_self _) (by have q := p13_rng (e := n) (by omega); exact ⟨by rw [hwy, show k = n by omega], q.1, q.2.1⟩) (by have := p13_pos k; omega) SameN.rf (by rfl) (fun j _ _ => rfl) (Or.inl ⟨rfl, rfl⟩) hW (lv_sub hl [1, 2, 3, 4, 5, 6, 7, 0] rfl)
                · refine lv_iload hx hb dX11_reply_72 (lv_at hl 4 rfl) ?_
                  refine rw_bipush hx hb dX11_reply_74 (by decide) ?_
                  refine rw_imul hx hb dX11_reply_76 ?_
                  refine lv_istore (lv' := [(4, .int (iN (wy * 13))), (0, .ref (ad 0)), (1, .int (iN 1)), (2, .int (iN n)), (3, .int (iN w)), (5, .int (iN (-4))), (6, .int (iN (-4))), (7, .int (iN k))]) hx hb dX11_reply_77 hl (by decide) rfl (fun ls hl => ?_)
                  refine rw_iinc (lv' := [(7, .int (iN (k + 1))), (4, .int (iN (wy * 13))), (0, .ref (ad 0)), (1, .int (iN 1)), (2, .int (iN n)), (3, .int (iN w)), (5, .int (iN (-4))), (6, .int (iN (-4)))]) hx hb dX11_reply_79 hl (k := 7) rfl (by decide) rfl (fun ls hl => ?_)
                  refine lv_goto (tgt := 66) hx hb dX11_reply_82 (by decide) ?_
                  exact ih66 (k + 1) (wy * 13) H locs ls (by omega) (by omega) (by rw [hwy, p13_S hk9.1]) hW (lv_sub hl [2, 3, 4, 5, 1, 6, 7, 0] rfl)
            exact hC_66 _ 0 1 H locs ls (Nat.lt_succ_self _) (by omega) (by rfl) hW (lv_sub hl [4, 5, 6, 7, 3, 2, 1, 0] rfl)
        · refine lv_iload_n hx hb dX11_reply_23 rfl (lv_at hl 3 rfl) ?_
          refine rw_i2l hx hb dX11_reply_24 (by omega) ?_
          refine lv_ldc2 (v := 10) hx hb hown (hts _ (wm_38 _ (List.mem_of_getElem? (i := 4) rfl))) dX11_reply_25 ?_
          refine rw_stk (st' := [.long (jN 10), .long (jN w)]) (by rw [show (10 : Int64) = jN 10 from by decide]) ?_
          refine rw_bipush hx hb dX11_reply_28 (by decide) ?_
          refine lv_iload_n hx hb dX11_reply_30 rfl (lv_at hl 2 rfl) ?_
          refine rw_iadd hx hb dX11_reply_31 ?_
          refine rw_i2l hx hb dX11_reply_32 (by omega) ?_
          refine rw_callS hx hb hml hts hown hW ⟨Nat.le_refl 0, Nat.le_refl 0⟩ [.long (jN w), .long (jN 10), .long (jN (9 + n))] (c_X11_in (l := l) (G := G) (ad := ad) (CA := CA) (nt := nt) w 10 (9 + n) (by first | omega | decide) (by first | omega | decide) (by first | omega | decide) M) kX11_57 rfl ⟨Nat.le_of_ble_eq_true rfl, Nat.le_of_ble_eq_true rfl⟩ hl.1 rfl (Nat.le_of_ble_eq_true rfl) dX11_reply_33 (fun v74 M75 H locs hp76 hW => ?_)
          obtain ⟨a77, rfl, hp76, hp76m⟩ := hp76
          rw [hp76m] at hW
          rcases hp76 with ⟨rfl, hp76⟩ | ⟨rfl, hp76⟩
          · refine rw_stk (st' := [.int (iN 1)]) rfl ?_
            refine rw_if_ne (tgt := 41) hx hb dX11_reply_36 (by decide) (by decide) (fun _ => ?_) (fun c => absurd c (by decide))
            refine lv_aload_n hx hb dX11_reply_41 rfl (lv_at hl 0 rfl) ?_
            refine rw_iconst hx hb dX11_reply_42 ?_
            refine rw_callV hx hb hml hts hown hW ⟨Nat.le_refl 0, Nat.le_refl 0⟩ [.int (iN 0)] 0 lm_0 rfl (c_X11_isOver (l := l) (G := G) (ad := ad) (CA := CA) (nt := nt) (by omega) 0 (by first | omega | decide) M hI) kX11_188 rfl ⟨Nat.le_of_ble_eq_true rfl, Nat.le_of_ble_eq_true rfl⟩ hl.1 rfl (Nat.le_of_ble_eq_true rfl) dX11_reply_43 (fun v78 M79 H locs hp80 hW => ?_)
            obtain ⟨a81, rfl, hp80, hp80m⟩ := hp80
            rw [hp80m] at hW
            rcases hp80 with ⟨rfl, hp80⟩ | ⟨rfl, hp80⟩
            · refine rw_stk (st' := [.int (iN 1)]) rfl ?_
              refine rw_if_eq (tgt := 52) hx hb dX11_reply_46 (by decide) (by decide) (fun c => absurd c (by decide)) (fun _ => ?_)
              refine rw_bipush hx hb dX11_reply_49 (by decide) ?_
              refine rw_iret hx hb hr hlocks hW dX11_reply_51 (⟨(-2), rfl, ?_⟩)
              exact Or.inr (Or.inl ⟨by omega, by omega, rfl, rfl⟩)
            · refine rw_stk (st' := [.int (iN 0)]) rfl ?_
              refine rw_if_eq (tgt := 52) hx hb dX11_reply_46 (by decide) (by decide) (fun _ => ?_) (fun c => absurd (by decide) c)
              refine rw_iconst hx hb dX11_reply_52 ?_
              refine lv_istore (lv' := [(4, .int (iN 1)), (0, .ref (ad 0)), (1, .int (iN 1)), (2, .int (iN n)), (3, .int (iN w))]) hx hb dX11_reply_53 hl (by decide) rfl (fun ls hl => ?_)
              refine rw_bipush hx hb dX11_reply_55 (by decide) ?_
              refine lv_istore (lv' := [(5, .int (iN (-4))), (4, .int (iN 1)), (0, .ref (ad 0)), (1, .int (iN 1)), (2, .int (iN n)), (3, .int (iN w))]) hx hb dX11_reply_57 hl (by decide) rfl (fun ls hl => ?_)
              refine rw_bipush hx hb dX11_reply_59 (by decide) ?_
              refine lv_istore (lv' := [(6, .int (iN (-4))), (5, .int (iN (-4))), (4, .int (iN 1)), (0, .ref (ad 0)), (1, .int (iN 1)), (2, .int (iN n)), (3, .int (iN w))]) hx hb dX11_reply_61 hl (by decide) rfl (fun ls hl => ?_)
              refine rw_iconst hx hb dX11_reply_63 ?_
              refine lv_istore (lv' := [(7, .int (iN 0)), (6, .int (iN (-4))), (5, .int (iN (-4))), (4, .int (iN 1)), (0, .ref (ad 0)), (1, .int (iN 1)), (2, .int (iN n)), (3, .int (iN w))]) hx hb dX11_reply_64 hl (by decide) rfl (fun ls hl => ?_)
              have hC_66 : ∀ N : Nat, ∀ (k : Int) (wy : Int) (H : Heap) (locs : List Loc) (ls : Array Slot), (n - k).toNat < N → (0 ≤ k ∧ k ≤ n) → (wy = p13 k) → Wo G ad CA nt LyM (wA ad LyM) s M H locs → lv_has ls 11 [(0, .ref (ad 0)), (1, .int (iN 1)), (2, .int (iN n)), (3, .int (iN w)), (4, .int (iN wy)), (5, .int (iN (-4))), (6, .int (iN (-4))), (7, .int (iN k))] → Wf l 5 124 G ad CA nt LyM (P_X11_reply 1 n w M) p e s m args below meth c H locs (F0 m 66 ls []) := by
                intro N
                induction N with
                | zero => intro k wy H locs ls hN; exact absurd hN (Nat.not_lt_zero _)
                | succ N ih66 =>
                  intro k wy H locs ls hN hk9 hwy hW hl
                  refine lv_iload hx hb dX11_reply_66 (lv_at hl 7 rfl) ?_
                  refine lv_iload_n hx hb dX11_reply_68 rfl (lv_at hl 2 rfl) ?_
                  refine rw_icmp_ge (tgt := 85) hx hb dX11_reply_69 (by decide) (by omega) (by omega) (fun c_69 => ?_) (fun c_69 => ?_)
                  · refine rw_iconst hx hb dX11_reply_85 ?_
                    refine lv_istore (lv' := [(7, .int (iN 0)), (0, .ref (ad 0)), (1, .int (iN 1)), (2, .int (iN n)), (3, .int (iN w)), (4, .int (iN wy)), (5, .int (iN (-4))), (6, .int (iN (-4)))]) hx hb dX11_reply_86 hl (by decide) rfl (fun ls hl => ?_)
                    have hC_88 : ∀ N : Nat, ∀ (wy : Int) (best : Int) (whr : Int) (way : Int) (Mx : Mem) (H : Heap) (locs : List Loc) (ls : Array Slot), (p13 n - way).toNat < N → (wy = p13 n ∧ 1 ≤ p13 n ∧ p13 n ≤ 28561) → (0 ≤ way ∧ way ≤ wy) → (SameN M Mx) → (whr = (FBr n 1 (pg M 0) (M 8) (way).toNat).2.1) → (∀ j, 0 ≤ j → j < n → Mx 8 j = (FBr n 1 (pg M 0) (M 8) (way).toNat).2.2 j) → (((FBr n 1 (pg M 0) (M 8) (way).toNat).1 = 11 ∧ best = -4) ∨ (0 ≤ (FBr n 1 (pg M 0) (M 8) (way).toNat).1 ∧ (FBr n 1 (pg M 0) (M 8) (way).toNat).1 < 11 ∧ best = (if 1 = 0 then 11 else pg M 0 47 + 1) - (FBr n 1 (pg M 0) (M 8) (way).toNat).1)) → Wo G ad CA nt LyM (wA ad LyM) s Mx H locs → lv_has ls 11 [(0, .ref (ad 0)), (1, .int (iN 1)), (2, .int (iN n)), (3, .int (iN w)), (4, .int (iN wy)), (5, .int (iN best)), (6, .int (iN whr)), (7, .int (iN way))] → Wf l 5 124 G ad CA nt LyM (P_X11_reply 1 n w M) p e s m args below meth c H locs (F0 m 88 ls []) := by
                      intro N
                      induction N with
                      | zero => intro wy best whr way Mx H locs ls hN; exact absurd hN (Nat.not_lt_zero _)
                      | succ N ih88 =>
                        intro wy best whr way Mx H locs ls hN hwy2 hway hs hB1 hB2 hB3 hW hl
                        refine lv_iload hx hb dX11_reply_88 (lv_at hl 7 rfl) ?_
                        refine lv_iload hx hb dX11_reply_90 (lv_at hl 4 rfl) ?_
                        refine rw_icmp_ge (tgt := 234) hx hb dX11_reply_92 (by decide) (by omega) (by omega) (fun c_92 => ?_) (fun c_92 => ?_)
                        · refine lv_iload_n hx hb dX11_reply_234 rfl (lv_at hl 3 rfl) ?_
                          refine rw_if_ne (tgt := 243) hx hb dX11_reply_235 (by decide) (by omega) (fun c_235 => ?_) (fun c_235 => ?_)
                          · refine lv_aload_n hx hb dX11_reply_243 rfl (lv_at hl 0 rfl) ?_
                            refine rw_getR hx hb hts hown hW 0 lm_0 20 8 rfl fX11_35 dX11_reply_244 ?_
                            refine lv_iload_n hx hb dX11_reply_247 rfl (lv_at hl 3 rfl) ?_
                            refine rw_bipush hx hb dX11_reply_248 (by decide) ?_
                            refine rw_isub hx hb dX11_reply_250 ?_
                            refine rw_iald hx hb hW hnt4 8 lm_8 (by omega) (by omega) (by decide) dX11_reply_251 (v := (Mx 8 (w - 10))) rfl ?_
                            refine rw_iret hx hb hr hlocks hW dX11_reply_252 (⟨(Mx 8 (w - 10)), rfl, ?_⟩)
                            have hwe : way = p13 n := by omega
                            subst hwe
                            exact Or.inl ⟨by omega, by omega, by rw [if_neg (by omega)]; exact hB2 (w - 10) (by omega) (by omega), hs⟩
                          · refine lv_iload hx hb dX11_reply_238 (lv_at hl 6 rfl) ?_
                            refine lv_goto (tgt := 252) hx hb dX11_reply_240 (by decide) ?_
                            refine rw_iret hx hb hr hlocks hW dX11_reply_252 (⟨whr, rfl, ?_⟩)
                            have hwe : way = p13 n := by omega
                            subst hwe
                            exact Or.inl ⟨by omega, by omega, by rw [if_pos (by omega)]; exact hB1, hs⟩
                        · refine lv_iload hx hb dX11_reply_95 (lv_at hl 7 rfl) ?_
                          refine lv_istore (lv' := [(8, .int (iN way)), (0, .ref (ad 0)), (1, .int (iN 1)), (2, .int (iN n)), (3, .int (iN w)), (4, .int (iN wy)), (5, .int (iN best)), (6, .int (iN whr)), (7, .int (iN way))]) hx hb dX11_reply_97 hl (by decide) rfl (fun ls hl => ?_)
                          refine lv_iload_n hx hb dX11_reply_99 rfl (lv_at hl 3 rfl) ?_
                          refine rw_iconst hx hb dX11_reply_100 ?_
                          refine rw_isub hx hb dX11_reply_101 ?_
                          refine lv_istore (lv' := [(9, .int (iN (n - 1))), (8, .int (iN way)), (0, .ref (ad 0)), (1, .int (iN 1)), (2, .int (iN n)), (3, .int (iN w)), (4, .int (iN wy)), (5, .int (iN best)), (6, .int (iN whr)), (7, .int (iN way))]) hx hb dX11_reply_102 hl (by decide) rfl (fun ls hl => ?_)
                          have hC_104 : ∀ N : Nat, ∀ (lf : Int) (k : Int) (My : Mem) (H : Heap) (locs : List Loc) (ls : Array Slot), (k + 1).toNat < N → (-1 ≤ k ∧ k ≤ n - 1) → (0 ≤ lf ∧ lf ≤ 30000) → (lf = way / p13 (n - 1 - k)) → (∀ q : Nat, q ≠ 7 → My q = Mx q) → (∀ j, k < j → j < n → My 7 j = way / p13 (n - 1 - j) % 13) → Wo G ad CA nt LyM (wA ad LyM) s My H locs → lv_has ls 11 [(0, .ref (ad 0)), (1, .int (iN 1)), (2, .int (iN n)), (3, .int (iN w)), (4, .int (iN wy)), (5, .int (iN best)), (6, .int (iN whr)), (7, .int (iN way)), (8, .int (iN lf)), (9, .int (iN k))] → Wf l 5 124 G ad CA nt LyM (P_X11_reply 1 n w M) p e s m args below meth c H locs (F0 m 104 ls []) := by
                            intro N
                            induction N with
                            | zero => intro lf k My H locs ls hN; exact absurd hN (Nat.not_lt_zero _)
                            | succ N ih104 =>
                              intro lf k My H locs ls hN hk9 hl0 hlf hsy hdg hW hl
                              refine lv_iload hx hb dX11_reply_104 (lv_at hl 9 rfl) ?_
                              refine rw_if_lt (tgt := 134) hx hb dX11_reply_106 (by decide) (by omega) (fun c_106 => ?_) (fun c_106 => ?_)
                              · have hsY : SameN M My := SameN.num (Or.inl rfl) hs hsy
                                have hnowy : pg My 0 = pg M 0 := hsY.page (by decide)
                                have hqq : ∀ i, 0 ≤ i → i < n → My 7 i = (mixQ n 0 way (fun _ => 0)) i := fun i h1 h2 => by unfold mixQ; rw [if_neg (by omega), hdg i (by omega) h2]
                                have hcc := canN_congr (s := 1) (q := My 7) (q' := (mixQ n 0 way (fun _ => 0))) n.toNat 0 (pg M 0) (fun i h1 h2 => hqq i h1 (by omega))
                                refine lv_aload_n hx hb dX11_reply_134 rfl (lv_at hl 0 rfl) ?_
                                refine lv_iload_n hx hb dX11_reply_135 rfl (lv_at hl 1 rfl) ?_
                                refine lv_iload_n hx hb dX11_reply_136 rfl (lv_at hl 2 rfl) ?_
                                refine rw_callV hx hb hml hts hown hW ⟨Nat.le_refl 0, Nat.le_refl 0⟩ [.int (iN 1), .int (iN n)] 0 lm_0 rfl (c_X11_triesNumbers (l := l) (G := G) (ad := ad) (CA := CA) (nt := nt) (by omega) 1 (by first | omega | decide) n (by first | omega | decide) My (fun j q1 q2 => by rw [hdg j (by omega) q2]; omega) (by rw [hnowy]; exact hI) (by rw [hnowy]; omega)) kX11_241 rfl ⟨Nat.le_of_ble_eq_true rfl, Nat.le_of_ble_eq_true rfl⟩ hl.1 rfl (Nat.le_of_ble_eq_true rfl) dX11_reply_137 (fun v82 M83 H locs hp84 hW => ?_)
                                obtain ⟨a85, rfl, hp84, hM83⟩ := hp84
                                rcases hp84 with ⟨rfl, hp84⟩ | ⟨rfl, hp84⟩
                                · rw [hnowy] at hp84
                                  have hcw := hcc.1.1 hp84
                                  have hzz := hM83
                                  rw [hnowy] at hzz
                                  have hen := hzz.1 hp84
                                  rw [hcc.2] at hen
                                  have hsZ := hsY.go hzz.2
                                  have h8z : M83 8 = Mx 8 := (hzz.2.1 8 (by decide)).trans (hsy 8 (by decide))
                                  have h7z : M83 7 = My 7 := hzz.2.1 7 (by decide)
                                  refine rw_stk (st' := [.int (iN 1)]) rfl ?_
                                  refine rw_if_eq (tgt := 228) hx hb dX11_reply_140 (by decide) (by decide) (fun c => absurd c (by decide)) (fun _ => ?_)
                                  have hin := endN_inv (s := 1) (by decide) (q := (mixQ n 0 way (fun _ => 0))) n.toNat 0 (pg M 0) (fun i h1 h2 => by rw [← hqq i h1 (by omega), hdg i (by omega) (by omega)]; omega) hcw hI (by omega)
                                  rw [← hen] at hin
                                  have hdr := distF_rng hin.1 1
                                  have hkr := hin.1.2.1
                                  obtain ⟨dd, hdd⟩ : ∃ z, z = distF (pg M83 188) 1 := ⟨_, rfl⟩
                                  rw [← hdd] at hdr
                                  have hps := place_spot M83 188 (a := pg M83 188 27)
                                  have hmc : M83 0 1 = M 0 1 := congrFun (hsZ.1 0 (by decide) (by decide) (by decide)) 1
                                  have hds : dd = pg M83 188 47 + 1 - spotF (pg M83 188) (pg M83 188 27) := by rw [hdd]; unfold distF; rw [if_neg (by decide)]
                                  refine lv_iload_n hx hb dX11_reply_143 rfl (lv_at hl 1 rfl) ?_
                                  refine rw_if_ne (tgt := 164) hx hb dX11_reply_144 (by decide) (by decide) (fun _ => ?_) (fun c => absurd c (by decide))
                                  refine rw_iconst hx hb dX11_reply_164 ?_
                                  refine lv_aload_n hx hb dX11_reply_165 rfl (lv_at hl 0 rfl) ?_
                                  refine lv_aload_n hx hb dX11_reply_166 rfl (lv_at hl 0 rfl) ?_
                                  refine rw_sipush hx hb dX11_reply_167 (by decide) ?_
                                  refine rw_callV hx hb hml hts hown hW ⟨Nat.le_refl 0, Nat.le_refl 0⟩ [.int (iN 188)] 0 lm_0 rfl (c_X11_keg (l := l) (G := G) (ad := ad) (CA := CA) (nt := nt) (by omega) 188 (by first | omega | decide) M83) kX11_146 rfl ⟨Nat.le_of_ble_eq_true rfl, Nat.le_of_ble_eq_true rfl⟩ hl.1 rfl (Nat.le_of_ble_eq_true rfl) dX11_reply_170 (fun v86 M87 H locs hp88 hW => ?_)
                                  obtain ⟨_, rfl, rfl, hp88⟩ := hp88
                                  rw [hp88] at hW
                                  refine rw_stk (st' := [.int (iN (pg M83 188 27)), .ref (ad 0), .int (iN 1)]) rfl ?_
                                  refine rw_callV hx hb hml hts hown hW ⟨Nat.le_refl 0, Nat.le_refl 0⟩ [.int (iN (pg M83 188 27))] 0 lm_0 rfl (c_X11_place (l := l) (G := G) (ad := ad) (CA := CA) (nt := nt) (by omega) (pg M83 188 27) (by first | omega | decide) M83) kX11_236 rfl ⟨Nat.le_of_ble_eq_true rfl, Nat.le_of_ble_eq_true rfl⟩ hl.1 rfl (Nat.le_of_ble_eq_true rfl) dX11_reply_173 (fun v89 M90 H locs hp91 hW => ?_)
                                  obtain ⟨_, rfl, rfl, hp91⟩ := hp91
                                  rw [hp91] at hW
                                  refine rw_stk (st' := [.int (iN (if (pg M83 188 27) = 20 then -1 else if (pg M83 188 27) = 21 then M83 0 1 else (pg M83 188 27))), .int (iN 1)]) rfl ?_
                                  refine rw_iadd hx hb dX11_reply_176 ?_
                                  have hfe : 1 + (if (pg M83 188 27) = 20 then -1 else if (pg M83 188 27) = 21 then M83 0 1 else (pg M83 188 27)) = (pg M 0 47 + 1) - dd := by rw [hps]; omega
                                  rw [hfe]
                                  have hFS := (FBr_S (n := n) (s := 1) (f := pg M 0) (b := M 8) (w := way) (by omega)).trans (stepN_t hcw)
                                  rw [← hen, ← hdd] at hFS
                                  refine lv_istore (lv' := [(9, .int (iN ((pg M 0 47 + 1) - dd))), (0, .ref (ad 0)), (1, .int (iN 1)), (2, .int (iN n)), (3, .int (iN w)), (4, .int (iN wy)), (5, .int (iN best)), (6, .int (iN whr)), (7, .int (iN way)), (8, .int (iN lf))]) hx hb dX11_reply_177 hl (by decide) rfl (fun ls hl => ?_)
                                  refine lv_iload hx hb dX11_reply_179 (lv_at hl 0 rfl) ?_
                                  refine lv_iload hx hb dX11_reply_181 (lv_at hl 6 rfl) ?_
                                  refine rw_icmp_le (tgt := 228) hx hb dX11_reply_183 (by decide) (by omega) (by omega) (fun c_183 => ?_) (fun c_183 => ?_)
                                  · rw [if_neg (show ¬ dd < (FBr n 1 (pg M 0) (M 8) (way).toNat).1 by omega)] at hFS
                                    refine rw_iinc (lv' := [(7, .int (iN (way + 1))), (9, .int (iN ((pg M 0 47 + 1) - dd))), (0, .ref (ad 0)), (1, .int (iN 1)), (2, .int (iN n)), (3, .int (iN w)), (4, .int (iN wy)), (5, .int (iN best)), (6, .int (iN whr)), (8, .int (iN lf))]) hx hb dX11_reply_228 hl (k := 8) rfl (by decide) rfl (fun ls hl => ?_)
                                    refine lv_goto (tgt := 88) hx hb dX11_reply_231 (by decide) ?_
                                    exact ih88 wy best whr (way + 1) M83 H locs ls (by omega) hwy2 (by omega) hsZ (by rw [hFS]; exact hB1) (fun j q1 q2 => by rw [hFS, h8z]; exact hB2 j q1 q2) (by rw [hFS]; exact hB3) hW (lv_sub hl [2, 3, 4, 5, 6, 7, 8, 0] rfl)
                                  · have hdl : dd < (FBr n 1 (pg M 0) (M 8) (way).toNat).1 := by omega
                                    rw [if_pos hdl] at hFS
                                    refine lv_iload hx hb dX11_reply_186 (lv_at hl 0 rfl) ?_
                                    refine lv_istore (lv' := [(5, .int (iN ((pg M 0 47 + 1) - dd))), (9, .int (iN ((pg M 0 47 + 1) - dd))), (0, .ref (ad 0)), (1, .int (iN 1)), (2, .int (iN n)), (3, .int (iN w)), (4, .int (iN wy)), (6, .int (iN whr)), (7, .int (iN way)), (8, .int (iN lf))]) hx hb dX11_reply_188 hl (by decide) rfl (fun ls hl => ?_)
                                    refine lv_aload_n hx hb dX11_reply_190 rfl (lv_at hl 2 rfl) ?_
                                    refine rw_sipush hx hb dX11_reply_191 (by decide) ?_
                                    refine rw_callV hx hb hml hts hown hW ⟨Nat.le_refl 0, Nat.le_refl 0⟩ [.int (iN 188)] 0 lm_0 rfl (c_X11_keg (l := l) (G := G) (ad := ad) (CA := CA) (nt := nt) (by omega) 188 (by first | omega | decide) M83) kX11_146 rfl ⟨Nat.le_of_ble_eq_true rfl, Nat.le_of_ble_eq_true rfl⟩ hl.1 rfl (Nat.le_of_ble_eq_true rfl) dX11_reply_194 (fun v92 M93 H locs hp94 hW => ?_)
                                    obtain ⟨_, rfl, rfl, hp94⟩ := hp94
                                    rw [hp94] at hW
                                    refine rw_stk (st' := [.int (iN (pg M83 188 27))]) rfl ?_
                                    refine lv_istore (lv' := [(6, .int (iN (pg M83 188 27))), (5, .int (iN ((pg M 0 47 + 1) - dd))), (9, .int (iN ((pg M 0 47 + 1) - dd))), (0, .ref (ad 0)), (1, .int (iN 1)), (2, .int (iN n)), (3, .int (iN w)), (4, .int (iN wy)), (7, .int (iN way)), (8, .int (iN lf))]) hx hb dX11_reply_197 hl (by decide) rfl (fun ls hl => ?_)
                                    refine rw_iconst hx hb dX11_reply_199 ?_
                                    refine lv_istore (lv' := [(10, .int (iN 0)), (6, .int (iN (pg M83 188 27))), (5, .int (iN ((pg M 0 47 + 1) - dd))), (9, .int (iN ((pg M 0 47 + 1) - dd))), (0, .ref (ad 0)), (1, .int (iN 1)), (2, .int (iN n)), (3, .int (iN w)), (4, .int (iN wy)), (7, .int (iN way)), (8, .int (iN lf))]) hx hb dX11_reply_200 hl (by decide) rfl (fun ls hl => ?_)
                                    have hC_202 : ∀ N : Nat, ∀ (bs2 : Int) (wh2 : Int) (kk : Int) (Mw : Mem) (H : Heap) (locs : List Loc) (ls : Array Slot), (n - kk).toNat < N → (0 ≤ kk ∧ kk ≤ n) → (bs2 = (if 1 = 0 then 11 else pg M 0 47 + 1) - dd) → (wh2 = endN 1 n.toNat 0 (pg M 0) (mixQ n 0 way (fun _ => 0)) 27) → (SameN M Mw) → (Mw 7 = My 7) → (∀ j, 0 ≤ j → j < kk → Mw 8 j = My 7 j) → Wo G ad CA nt LyM (wA ad LyM) s Mw H locs → lv_has ls 11 [(0, .ref (ad 0)), (1, .int (iN 1)), (2, .int (iN n)), (3, .int (iN w)), (4, .int (iN wy)), (5, .int (iN bs2)), (6, .int (iN wh2)), (7, .int (iN way)), (10, .int (iN kk))] → Wf l 5 124 G ad CA nt LyM (P_X11_reply 1 n w M) p e s m args below meth c H locs (F0 m 202 ls []) := by
                                      intro N
                                      induction N with
                                      | zero => intro bs2 wh2 kk Mw H locs ls hN; exact absurd hN (Nat.not_lt_zero _)
                                      | succ N ih202 =>
                                        intro bs2 wh2 kk Mw H locs ls hN hkk hbs2 hwh2 hsw h7w hcp hW hl
                                        refine lv_iload hx hb dX11_reply_202 (lv_at hl 8 rfl) ?_
                                        refine lv_iload_n hx hb dX11_reply_204 rfl (lv_at hl 2 rfl) ?_
                                        refine rw_icmp_ge (tgt := 228) hx hb dX11_reply_205 (by decide) (by omega) (by omega) (fun c_205 => ?_) (fun c_205 => ?_)
                                        · refine rw_iinc (lv' := [(7, .int (iN (way + 1))), (0, .ref (ad 0)), (1, .int (iN 1)), (2, .int (iN n)), (3, .int (iN w)), (4, .int (iN wy)), (5, .int (iN bs2)), (6, .int (iN wh2)), (10, .int (iN kk))]) hx hb dX11_reply_228 hl (k := 7) rfl (by decide) rfl (fun ls hl => ?_)
                                          refine lv_goto (tgt := 88) hx hb dX11_reply_231 (by decide) ?_
                                          exact ih88 wy bs2 wh2 (way + 1) Mw H locs ls (by omega) hwy2 (by omega) hsw (by rw [hFS, hwh2, ← hen]) (fun j q1 q2 => by rw [hFS, hcp j q1 (by omega)]; exact hqq j q1 q2) (by rw [hFS]; exact Or.inr ⟨by show 0 ≤ dd; omega, by show dd < 11; omega, by show bs2 = _ - dd; omega⟩) hW (lv_sub hl [1, 2, 3, 4, 5, 6, 7, 0] rfl)
                                        · refine lv_aload_n hx hb dX11_reply_208 rfl (lv_at hl 0 rfl) ?_
                                          refine rw_getR hx hb hts hown hW 0 lm_0 20 8 rfl fX11_35 dX11_reply_209 ?_
                                          refine lv_iload hx hb dX11_reply_212 (lv_at hl 8 rfl) ?_
                                          refine lv_aload_n hx hb dX11_reply_214 rfl (lv_at hl 0 rfl) ?_
                                          refine rw_getR hx hb hts hown hW 0 lm_0 19 7 rfl fX11_32 dX11_reply_215 ?_
                                          refine lv_iload hx hb dX11_reply_218 (lv_at hl 8 rfl) ?_
                                          refine rw_iald hx hb hW hnt4 7 lm_7 (by omega) (by omega) (by decide) dX11_reply_220 (v := (Mw 7 kk)) rfl ?_
                                          refine rw_iast hx hb hW hnt4 8 lm_8 (v := (Mw 7 kk)) (by omega) (by omega) (by decide) dX11_reply_221 (fun H locs hW => ?_)
                                          obtain ⟨M95, hM95⟩ : ∃ z, z = upd2 Mw 8 kk (Mw 7 kk) := ⟨_, rfl⟩
                                          rw [← hM95] at hW
                                          refine rw_iinc (lv' := [(10, .int (iN (kk + 1))), (0, .ref (ad 0)), (1, .int (iN 1)), (2, .int (iN n)), (3, .int (iN w)), (4, .int (iN wy)), (5, .int (iN bs2)), (6, .int (iN wh2)), (7, .int (iN way))]) hx hb dX11_reply_222 hl (k := 8) rfl (by decide) rfl (fun ls hl => ?_)
                                          refine lv_goto (tgt := 202) hx hb dX11_reply_225 (by decide) ?_
                                          exact ih202 bs2 wh2 (kk + 1) M95 H locs ls (by omega) (by omega) hbs2 hwh2 (SameN.num (Or.inr rfl) hsw (fun q hq => by rw [hM95, upd2_ne1 hq])) (by rw [hM95, upd2_ne1 (by decide)]; exact h7w) (fun j q1 q2 => by by_cases e : j = kk; subst e; rw [hM95, upd2_eq, h7w]; rw [hM95, upd2_ne2 e]; exact hcp j q1 (by omega)) hW (lv_sub hl [1, 2, 3, 4, 5, 6, 7, 8, 0] rfl)
                                    exact hC_202 _ ((pg M 0 47 + 1) - dd) (pg M83 188 27) 0 M83 H locs ls (Nat.lt_succ_self _) (by omega) (by omega) (by rw [hen]) hsZ h7z (fun j q1 q2 => absurd q2 (by omega)) hW (lv_sub hl [4, 5, 6, 7, 8, 2, 1, 9, 0] rfl)
                                · rw [hnowy] at hp84
                                  have hcw := fun z => hp84 (hcc.1.2 z)
                                  have hzz := hM83
                                  have hsZ := hsY.go hzz.2
                                  have h8z : M83 8 = Mx 8 := (hzz.2.1 8 (by decide)).trans (hsy 8 (by decide))
                                  have hFS := (FBr_S (n := n) (s := 1) (f := pg M 0) (b := M 8) (w := way) (by omega)).trans (stepN_f hcw)
                                  refine rw_stk (st' := [.int (iN 0)]) rfl ?_
                                  refine rw_if_eq (tgt := 228) hx hb dX11_reply_140 (by decide) (by decide) (fun _ => ?_) (fun c => absurd (by decide) c)
                                  refine rw_iinc (lv' := [(7, .int (iN (way + 1))), (0, .ref (ad 0)), (1, .int (iN 1)), (2, .int (iN n)), (3, .int (iN w)), (4, .int (iN wy)), (5, .int (iN best)), (6, .int (iN whr)), (8, .int (iN lf)), (9, .int (iN k))]) hx hb dX11_reply_228 hl (k := 7) rfl (by decide) rfl (fun ls hl => ?_)
                                  refine lv_goto (tgt := 88) hx hb dX11_reply_231 (by decide) ?_
                                  exact ih88 wy best whr (way + 1) M83 H locs ls (by omega) hwy2 (by omega) hsZ (by rw [hFS]; exact hB1) (fun j q1 q2 => by rw [hFS, h8z]; exact hB2 j q1 q2) (by rw [hFS]; exact hB3) hW (lv_sub hl [1, 2, 3, 4, 5, 6, 7, 0] rfl)
                              · refine lv_aload_n hx hb dX11_reply_109 rfl (lv_at hl 0 rfl) ?_
                                refine rw_getR hx hb hts hown hW 0 lm_0 19 7 rfl fX11_32 dX11_reply_110 ?_
                                refine lv_iload hx hb dX11_reply_113 (lv_at hl 9 rfl) ?_
                                refine lv_iload hx hb dX11_reply_115 (lv_at hl 8 rfl) ?_
                                refine rw_bipush hx hb dX11_reply_117 (by decide) ?_
                                refine rw_irem hx hb dX11_reply_119 (by omega) (by decide) (by decide) rfl ?_
                                rw [Int.tmod_eq_emod_of_nonneg hl0.1]
                                refine rw_iast hx hb hW hnt4 7 lm_7 (v := lf % 13) (by omega) (by omega) (by decide) dX11_reply_120 (fun H locs hW => ?_)
                                obtain ⟨M96, hM96⟩ : ∃ z, z = upd2 My 7 k (lf % 13) := ⟨_, rfl⟩
                                rw [← hM96] at hW
                                refine lv_iload hx hb dX11_reply_121 (lv_at hl 8 rfl) ?_
                                refine rw_bipush hx hb dX11_reply_123 (by decide) ?_
                                refine rw_idiv hx hb dX11_reply_125 (by omega) (by decide) (by decide) rfl ?_
                                rw [Int.tdiv_eq_ediv_of_nonneg hl0.1]
                                refine lv_istore (lv' := [(8, .int (iN (lf / 13))), (0, .ref (ad 0)), (1, .int (iN 1)), (2, .int (iN n)), (3, .int (iN w)), (4, .int (iN wy)), (5, .int (iN best)), (6, .int (iN whr)), (7, .int (iN way)), (9, .int (iN k))]) hx hb dX11_reply_126 hl (by decide) rfl (fun ls hl => ?_)
                                refine rw_iinc (lv' := [(9, .int (iN (k + (-1)))), (8, .int (iN (lf / 13))), (0, .ref (ad 0)), (1, .int (iN 1)), (2, .int (iN n)), (3, .int (iN w)), (4, .int (iN wy)), (5, .int (iN best)), (6, .int (iN whr)), (7, .int (iN way))]) hx hb dX11_reply_128 hl (k := 9) rfl (by decide) rfl (fun ls hl => ?_)
                                refine lv_goto (tgt := 104) hx hb dX11_reply_131 (by decide) ?_
                                exact ih104 (lf / 13) (k + (-1)) M96 H locs ls (by omega) (by omega) (by omega) (by rw [hlf, show n - 1 - (k + -1) = n - 1 - k + 1 by omega, p13_S (by omega), Int.ediv_ediv_of_nonneg (Int.le_of_lt (p13_pos _))]) (fun q hq => by rw [hM96, upd2_ne1 hq]; exact hsy q hq) (fun j q1 q2 => by by_cases e : j = k; subst e; rw [hM96, upd2_eq, hlf]; rw [hM96, upd2_ne2 e]; exact hdg j (by omega) q2) hW (lv_sub hl [2, 3, 4, 5, 6, 7, 8, 9, 1, 0] rfl)
                          exact hC_104 _ way (n - 1) Mx H locs ls (Nat.lt_succ_self _) (by omega) (by omega) (by rw [show n - 1 - (n - 1) = 0 by omega]; show way = way / 1; rw [Int.ediv_one]) (fun q _ => rfl) (fun j q1 q2 => absurd q2 (by omega)) hW (lv_sub hl [2, 3, 4, 5, 6, 7, 8, 9, 1, 0] rfl)
                    exact hC_88 _ wy (-4) (-4) 0 M H locs ls (Nat.lt_succ_self _) (by have q := p13_rng (e := n) (by omega); exact ⟨by rw [hwy, show k = n by omega], q.1, q.2.1⟩) (by have := p13_pos k; omega) SameN.rf (by rfl) (fun j _ _ => rfl) (Or.inl ⟨rfl, rfl⟩) hW (lv_sub hl [1, 2, 3, 4, 5, 6, 7, 0] rfl)
                  · refine lv_iload hx hb dX11_reply_72 (lv_at hl 4 rfl) ?_
                    refine rw_bipush hx hb dX11_reply_74 (by decide) ?_
                    refine rw_imul hx hb dX11_reply_76 ?_
                    refine lv_istore (lv' := [(4, .int (iN (wy * 13))), (0, .ref (ad 0)), (1, .int (iN 1)), (2, .int (iN n)), (3, .int (iN w)), (5, .int (iN (-4))), (6, .int (iN (-4))), (7, .int (iN k))]) hx hb dX11_reply_77 hl (by decide) rfl (fun ls hl => ?_)
                    refine rw_iinc (lv' := [(7, .int (iN (k + 1))), (4, .int (iN (wy * 13))), (0, .ref (ad 0)), (1, .int (iN 1)), (2, .int (iN n)), (3, .int (iN w)), (5, .int (iN (-4))), (6, .int (iN (-4)))]) hx hb dX11_reply_79 hl (k := 7) rfl (by decide) rfl (fun ls hl => ?_)
                    refine lv_goto (tgt := 66) hx hb dX11_reply_82 (by decide) ?_
                    exact ih66 (k + 1) (wy * 13) H locs ls (by omega) (by omega) (by rw [hwy, p13_S hk9.1]) hW (lv_sub hl [2, 3, 4, 5, 1, 6, 7, 0] rfl)
              exact hC_66 _ 0 1 H locs ls (Nat.lt_succ_self _) (by omega) (by rfl) hW (lv_sub hl [4, 5, 6, 7, 3, 2, 1, 0] rfl)
          · refine rw_stk (st' := [.int (iN 0)]) rfl ?_
            refine rw_if_ne (tgt := 41) hx hb dX11_reply_36 (by decide) (by decide) (fun c => absurd c (by decide)) (fun _ => ?_)
            refine rw_iconst hx hb dX11_reply_39 ?_
            refine rw_iret hx hb hr hlocks hW dX11_reply_40 (⟨(-1), rfl, ?_⟩)
            exact Or.inr (Or.inr ⟨by omega, rfl, rfl⟩)
      · refine rw_stk (st' := [.int (iN 0)]) rfl ?_
        refine rw_if_eq (tgt := 39) hx hb dX11_reply_16 (by decide) (by decide) (fun _ => ?_) (fun c => absurd (by decide) c)
        refine rw_iconst hx hb dX11_reply_39 ?_
        refine rw_iret hx hb hr hlocks hW dX11_reply_40 (⟨(-1), rfl, ?_⟩)
        exact Or.inr (Or.inr ⟨by omega, rfl, rfl⟩)
  · refine rw_stk (st' := [.int (iN 0)]) rfl ?_
    refine rw_if_eq (tgt := 39) hx hb dX11_reply_4 (by decide) (by decide) (fun _ => ?_) (fun c => absurd (by decide) c)
    refine rw_iconst hx hb dX11_reply_39 ?_
    refine rw_iret hx hb hr hlocks hW dX11_reply_40 (⟨(-1), rfl, ?_⟩)
    exact Or.inr (Or.inr ⟨by omega, rfl, rfl⟩)
