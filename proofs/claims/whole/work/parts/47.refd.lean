abbrev P_X11_hold (sx : Int) (i : Int) (n : Int) (M : Mem) : Option Value → Mem → Prop := oI (fun zz MM => (((sx = 0 ∨ sx = 1) ∧ (0 ≤ i ∧ i < pg M 0 47) ∧ 1 ≤ n ∧ n ≤ 20) ∧ pg M 0 27 < pg M 0 47 ∧ LeastF (pg M 0) sx i n zz ∧ SameS M MM 188) ∨ (((sx = 0 ∨ sx = 1) ∧ (0 ≤ i ∧ i < pg M 0 47) ∧ 1 ≤ n ∧ n ≤ 20) ∧ pg M 0 47 ≤ pg M 0 27 ∧ zz = -2 ∧ MM = M) ∨ (¬ ((sx = 0 ∨ sx = 1) ∧ (0 ≤ i ∧ i < pg M 0 47) ∧ 1 ≤ n ∧ n ≤ 20) ∧ zz = -1 ∧ MM = M))
set_option maxRecDepth 100000 in
set_option maxHeartbeats 4000000 in
theorem c_X11_hold {l : Launch} {G : va_G} {ad : Nat → Nat} {CA : Nat → ClassId} {nt : Nat} (hnt : 6 ≤ nt) (sx : Int) (hsx9 : in32 sx) (i : Int) (hi9 : in32 i) (n : Int) (hn9 : in32 n) (M : Mem) (hI : InvF (pg M 0)) (hm : pg M 0 46 ≤ 999) : Mt l yX11_hold cX11_hold 8 (some .int) 5 121 G ad CA nt LyM [.ref (ad 0), .int (iN sx), .int (iN i), .int (iN n)] M (P_X11_hold sx i n M) := by
  refine Mt.of (by decide) (Nat.le_of_ble_eq_true rfl) (fun p e s m args below meth c hx hb hr hml hts hown hlocks hnm hW ls hl => ?_)
  have hl : lv_has ls 8 [(0, .ref (ad 0)), (1, .int (iN sx)), (2, .int (iN i)), (3, .int (iN n))] := hl
  have hnt4 : 4 ≤ nt := by omega
  obtain ⟨H, hH⟩ : ∃ z, z = s.heap := ⟨_, rfl⟩
  obtain ⟨locs, hlo⟩ : ∃ z : List Loc, z = [] := ⟨_, rfl⟩
  rw [← hH, ← hlo] at hW ⊢
  have hc := hI.1
  have h47 : pg M 0 47 = M 0 1 := rfl
  have hk := hI.2.1
  refine lv_iload_n hx hb dX11_hold_0 rfl (lv_at hl 1 rfl) ?_
  refine rw_callS hx hb hml hts hown hW ⟨Nat.le_refl 0, Nat.le_refl 0⟩ [.int (iN sx)] (c_X11_isSide (l := l) (G := G) (ad := ad) (CA := CA) (nt := nt) sx (by first | omega | decide) M) kX11_151 rfl ⟨Nat.le_of_ble_eq_true rfl, Nat.le_of_ble_eq_true rfl⟩ hl.1 rfl (Nat.le_of_ble_eq_true rfl) dX11_hold_1 (fun v1 M2 H locs hp3 hW => ?_)
  obtain ⟨a4, rfl, hp3, hp3m⟩ := hp3
  rw [hp3m] at hW
  rcases hp3 with ⟨rfl, hp3⟩ | ⟨rfl, hp3⟩
  · rcases hp3 with rfl | rfl
    · refine rw_stk (st' := [.int (iN 1)]) rfl ?_
      refine rw_if_eq (tgt := 27) hx hb dX11_hold_4 (by decide) (by decide) (fun c => absurd c (by decide)) (fun _ => ?_)
      refine lv_aload_n hx hb dX11_hold_7 rfl (lv_at hl 0 rfl) ?_
      refine lv_iload_n hx hb dX11_hold_8 rfl (lv_at hl 2 rfl) ?_
      refine rw_callV hx hb hml hts hown hW ⟨Nat.le_refl 0, Nat.le_refl 0⟩ [.int (iN i)] 0 lm_0 rfl (c_X11_isCell (l := l) (G := G) (ad := ad) (CA := CA) (nt := nt) (by omega) i (by first | omega | decide) M hc) kX11_142 rfl ⟨Nat.le_of_ble_eq_true rfl, Nat.le_of_ble_eq_true rfl⟩ hl.1 rfl (Nat.le_of_ble_eq_true rfl) dX11_hold_9 (fun v5 M6 H locs hp7 hW => ?_)
      obtain ⟨a8, rfl, hp7, hp7m⟩ := hp7
      rw [hp7m] at hW
      rcases hp7 with ⟨rfl, hp7⟩ | ⟨rfl, hp7⟩
      · refine rw_stk (st' := [.int (iN 1)]) rfl ?_
        refine rw_if_eq (tgt := 27) hx hb dX11_hold_12 (by decide) (by decide) (fun c => absurd c (by decide)) (fun _ => ?_)
        refine lv_iload_n hx hb dX11_hold_15 rfl (lv_at hl 3 rfl) ?_
        refine rw_i2l hx hb dX11_hold_16 (by omega) ?_
        refine lv_lconst (v := jN 1) hx hb dX11_hold_17 rfl ?_
        refine lv_ldc2 (v := 20) hx hb hown (hts _ (wm_39 _ (List.mem_of_getElem? (i := 8) rfl))) dX11_hold_18 ?_
        refine rw_stk (st' := [.long (jN 20), .long (jN 1), .long (jN n)]) (by rw [show (20 : Int64) = jN 20 from by decide]) ?_
        refine rw_callS hx hb hml hts hown hW ⟨Nat.le_refl 0, Nat.le_refl 0⟩ [.long (jN n), .long (jN 1), .long (jN 20)] (c_X11_in (l := l) (G := G) (ad := ad) (CA := CA) (nt := nt) n 1 20 (by first | omega | decide) (by first | omega | decide) (by first | omega | decide) M) kX11_57 rfl ⟨Nat.le_of_ble_eq_true rfl, Nat.le_of_ble_eq_true rfl⟩ hl.1 rfl (Nat.le_of_ble_eq_true rfl) dX11_hold_21 (fun v9 M10 H locs hp11 hW => ?_)
        obtain ⟨a12, rfl, hp11, hp11m⟩ := hp11
        rw [hp11m] at hW
        rcases hp11 with ⟨rfl, hp11⟩ | ⟨rfl, hp11⟩
        · refine rw_stk (st' := [.int (iN 1)]) rfl ?_
          refine rw_if_ne (tgt := 29) hx hb dX11_hold_24 (by decide) (by decide) (fun _ => ?_) (fun c => absurd c (by decide))
          refine lv_aload_n hx hb dX11_hold_29 rfl (lv_at hl 0 rfl) ?_
          refine rw_iconst hx hb dX11_hold_30 ?_
          refine rw_callV hx hb hml hts hown hW ⟨Nat.le_refl 0, Nat.le_refl 0⟩ [.int (iN 0)] 0 lm_0 rfl (c_X11_isOver (l := l) (G := G) (ad := ad) (CA := CA) (nt := nt) (by omega) 0 (by first | omega | decide) M hI) kX11_188 rfl ⟨Nat.le_of_ble_eq_true rfl, Nat.le_of_ble_eq_true rfl⟩ hl.1 rfl (Nat.le_of_ble_eq_true rfl) dX11_hold_31 (fun v13 M14 H locs hp15 hW => ?_)
          obtain ⟨a16, rfl, hp15, hp15m⟩ := hp15
          rw [hp15m] at hW
          rcases hp15 with ⟨rfl, hp15⟩ | ⟨rfl, hp15⟩
          · refine rw_stk (st' := [.int (iN 1)]) rfl ?_
            refine rw_if_eq (tgt := 40) hx hb dX11_hold_34 (by decide) (by decide) (fun c => absurd c (by decide)) (fun _ => ?_)
            refine rw_bipush hx hb dX11_hold_37 (by decide) ?_
            refine rw_iret hx hb hr hlocks hW dX11_hold_39 (⟨(-2), rfl, ?_⟩)
            exact Or.inr (Or.inl ⟨by omega, by omega, rfl, rfl⟩)
          · refine rw_stk (st' := [.int (iN 0)]) rfl ?_
            refine rw_if_eq (tgt := 40) hx hb dX11_hold_34 (by decide) (by decide) (fun _ => ?_) (fun c => absurd (by decide) c)
            refine rw_iconst hx hb dX11_hold_40 ?_
            refine lv_istore (lv' := [(4, .int (iN 0)), (0, .ref (ad 0)), (1, .int (iN 0)), (2, .int (iN i)), (3, .int (iN n))]) hx hb dX11_hold_41 hl (by decide) rfl (fun ls hl => ?_)
            have hC_43 : ∀ N : Nat, ∀ (v : Int) (Mx : Mem) (H : Heap) (locs : List Loc) (ls : Array Slot), (13 - v).toNat < N → (0 ≤ v ∧ v ≤ 13) → (SameS M Mx 188) → (∀ u, 0 ≤ u → u < v → ¬ holdsF (tryF (pg M 0) 0 u) 0 i n) → Wo G ad CA nt LyM (wA ad LyM) s Mx H locs → lv_has ls 8 [(0, .ref (ad 0)), (1, .int (iN 0)), (2, .int (iN i)), (3, .int (iN n)), (4, .int (iN v))] → Wf l 5 121 G ad CA nt LyM (P_X11_hold 0 i n M) p e s m args below meth c H locs (F0 m 43 ls []) := by
              intro N
              induction N with
              | zero => intro v Mx H locs ls hN; exact absurd hN (Nat.not_lt_zero _)
              | succ N ih43 =>
                intro v Mx H locs ls hN hv hs hq hW hl
                have hnow : pg Mx 0 = pg M 0 := pg_same hs (by decide)
                refine lv_iload hx hb dX11_hold_43 (lv_at hl 4 rfl) ?_
                refine rw_bipush hx hb dX11_hold_45 (by decide) ?_
                refine rw_icmp_gt (tgt := 179) hx hb dX11_hold_47 (by decide) (by omega) (by decide) (fun c_47 => ?_) (fun c_47 => ?_)
                · refine rw_bipush hx hb dX11_hold_179 (by decide) ?_
                  refine rw_iret hx hb hr hlocks hW dX11_hold_181 (⟨(-4), rfl, ?_⟩)
                  exact Or.inl ⟨by omega, by omega, Or.inr ⟨rfl, fun u h1 h2 => hq u h1 (by omega)⟩, hs⟩
                · refine lv_aload_n hx hb dX11_hold_50 rfl (lv_at hl 0 rfl) ?_
                  refine rw_iconst hx hb dX11_hold_51 ?_
                  refine rw_sipush hx hb dX11_hold_52 (by decide) ?_
                  refine rw_callV hx hb hml hts hown hW ⟨Nat.le_refl 0, Nat.le_refl 0⟩ [.int (iN 0), .int (iN 188)] 0 lm_0 rfl (c_X11_copies (l := l) (G := G) (ad := ad) (CA := CA) (nt := nt) (by omega) 0 188 (by first | omega | decide) (by first | omega | decide) (by first | omega | decide) Mx) kX11_212 rfl ⟨Nat.le_of_ble_eq_true rfl, Nat.le_of_ble_eq_true rfl⟩ hl.1 rfl (Nat.le_of_ble_eq_true rfl) dX11_hold_55 (fun v17 M18 H locs hp19 hW => ?_)
                  obtain ⟨rfl, hM18⟩ := hp19
                  refine rw_stk (st' := []) rfl ?_
                  refine lv_aload_n hx hb dX11_hold_58 rfl (lv_at hl 0 rfl) ?_
                  refine rw_getR hx hb hts hown hW 0 lm_0 0 1 rfl fX11_7 dX11_hold_59 ?_
                  refine rw_sipush hx hb dX11_hold_62 (by decide) ?_
                  refine rw_bipush hx hb dX11_hold_65 (by decide) ?_
                  refine lv_iload_n hx hb dX11_hold_67 rfl (lv_at hl 1 rfl) ?_
                  refine rw_imul hx hb dX11_hold_68 ?_
                  refine rw_stk (st' := [.int (iN 0), .int (iN 216), .ref (ad 1)]) rfl ?_
                  refine rw_iadd hx hb dX11_hold_69 ?_
                  refine rw_stk (st' := [.int (iN 216), .ref (ad 1)]) rfl ?_
                  refine rw_bipush hx hb dX11_hold_70 (by decide) ?_
                  refine rw_iadd hx hb dX11_hold_72 ?_
                  refine rw_stk (st' := [.int (iN 222), .ref (ad 1)]) rfl ?_
                  refine rw_iconst hx hb dX11_hold_73 ?_
                  refine rw_iast hx hb hW hnt4 1 lm_1 (v := 2) (by omega) (by omega) (by decide) dX11_hold_74 (fun H locs hW => ?_)
                  obtain ⟨M20, hM20⟩ : ∃ z, z = upd2 M18 1 222 2 := ⟨_, rfl⟩
                  rw [← hM20] at hW
                  refine lv_aload_n hx hb dX11_hold_75 rfl (lv_at hl 0 rfl) ?_
                  refine rw_getR hx hb hts hown hW 0 lm_0 0 1 rfl fX11_7 dX11_hold_76 ?_
                  refine rw_sipush hx hb dX11_hold_79 (by decide) ?_
                  refine rw_bipush hx hb dX11_hold_82 (by decide) ?_
                  refine lv_iload_n hx hb dX11_hold_84 rfl (lv_at hl 1 rfl) ?_
                  refine rw_imul hx hb dX11_hold_85 ?_
                  refine rw_stk (st' := [.int (iN 0), .int (iN 216), .ref (ad 1)]) rfl ?_
                  refine rw_iadd hx hb dX11_hold_86 ?_
                  refine rw_stk (st' := [.int (iN 216), .ref (ad 1)]) rfl ?_
                  refine rw_bipush hx hb dX11_hold_87 (by decide) ?_
                  refine rw_iadd hx hb dX11_hold_89 ?_
                  refine rw_stk (st' := [.int (iN 223), .ref (ad 1)]) rfl ?_
                  refine lv_iload hx hb dX11_hold_90 (lv_at hl 4 rfl) ?_
                  refine rw_iast hx hb hW hnt4 1 lm_1 (v := v) (by omega) (by omega) (by decide) dX11_hold_92 (fun H locs hW => ?_)
                  obtain ⟨M21, hM21⟩ : ∃ z, z = upd2 M20 1 223 v := ⟨_, rfl⟩
                  rw [← hM21] at hW
                  refine rw_iconst hx hb dX11_hold_93 ?_
                  refine lv_istore (lv' := [(5, .int (iN 1)), (0, .ref (ad 0)), (1, .int (iN 0)), (2, .int (iN i)), (3, .int (iN n)), (4, .int (iN v))]) hx hb dX11_hold_94 hl (by decide) rfl (fun ls hl => ?_)
                  have e9 : pg M21 188 = tryF (pg M 0) 0 v := by rw [← hnow, ← hM18.1]; exact tryP_34 (M1 := M20) (by decide) (by rw [hM20]; rfl) (by rw [hM21]; rfl)
                  have hs9 : SameS M M21 188 := by rw [hM21, hM20]; exact ((hs.trans hM18.2).up (by decide)).up (by decide)
                  have hTI := tryF_inv hI (s := 0) (v := v) (by decide) (by omega)
                  have hT46 := tryF_46 (pg M 0) (s := 0) (v := v) (by decide)
                  refine rw_iconst hx hb dX11_hold_96 ?_
                  refine lv_istore (lv' := [(6, .int (iN 0)), (5, .int (iN 1)), (0, .ref (ad 0)), (1, .int (iN 0)), (2, .int (iN i)), (3, .int (iN n)), (4, .int (iN v))]) hx hb dX11_hold_97 hl (by decide) rfl (fun ls hl => ?_)
                  have hC_99 : ∀ N : Nat, ∀ (b : Int) (t : Int) (My : Mem) (H : Heap) (locs : List Loc) (ls : Array Slot), (n - t).toNat < N → (0 ≤ t ∧ t ≤ n) → (pg My 188 = capN (tryF (pg M 0) 0 v) t.toNat) → (SameS M My 188) → (b = 0 ∨ b = 1) → (HBf (tryF (pg M 0) 0 v) 0 i n t b) → Wo G ad CA nt LyM (wA ad LyM) s My H locs → lv_has ls 8 [(0, .ref (ad 0)), (1, .int (iN 0)), (2, .int (iN i)), (3, .int (iN n)), (4, .int (iN v)), (5, .int (iN b)), (6, .int (iN t))] → Wf l 5 121 G ad CA nt LyM (P_X11_hold 0 i n M) p e s m args below meth c H locs (F0 m 99 ls []) := by
                    intro N
                    induction N with
                    | zero => intro b t My H locs ls hN; exact absurd hN (Nat.not_lt_zero _)
                    | succ N ih99 =>
                      intro b t My H locs ls hN ht hf hs2 hb01 hbb hW hl
                      refine lv_iload hx hb dX11_hold_99 (lv_at hl 6 rfl) ?_
                      refine lv_iload_n hx hb dX11_hold_101 rfl (lv_at hl 3 rfl) ?_
                      refine rw_icmp_ge (tgt := 165) hx hb dX11_hold_102 (by decide) (by omega) (by omega) (fun c_102 => ?_) (fun c_102 => ?_)
                      · refine lv_iload hx hb dX11_hold_165 (lv_at hl 5 rfl) ?_
                        refine rw_if_eq (tgt := 173) hx hb dX11_hold_167 (by decide) (by omega) (fun c_167 => ?_) (fun c_167 => ?_)
                        · refine rw_iinc (lv' := [(4, .int (iN (v + 1))), (0, .ref (ad 0)), (1, .int (iN 0)), (2, .int (iN i)), (3, .int (iN n)), (5, .int (iN b)), (6, .int (iN t))]) hx hb dX11_hold_173 hl (k := 4) rfl (by decide) rfl (fun ls hl => ?_)
                          refine lv_goto (tgt := 43) hx hb dX11_hold_176 (by decide) ?_
                          exact ih43 (v + 1) My H locs ls (by omega) (by omega) hs2 (fun u h1 h2 => by rcases Int.lt_or_le u v with q | q; exact hq u h1 q; rw [show u = v by omega]; exact hbb.off (by first | assumption | omega)) hW (lv_sub hl [1, 2, 3, 4, 0] rfl)
                        · refine lv_iload hx hb dX11_hold_170 (lv_at hl 4 rfl) ?_
                          refine rw_iret hx hb hr hlocks hW dX11_hold_172 (⟨v, rfl, ?_⟩)
                          refine Or.inl ⟨by omega, by omega, Or.inl ⟨by omega, by omega, fun k hk => ?_, hq⟩, hs2⟩
                          exact (hbb.on (by omega)) k (by omega)
                      · refine lv_iload hx hb dX11_hold_105 (lv_at hl 5 rfl) ?_
                        refine rw_if_eq (tgt := 165) hx hb dX11_hold_107 (by decide) (by omega) (fun c_107 => ?_) (fun c_107 => ?_)
                        · refine lv_iload hx hb dX11_hold_165 (lv_at hl 5 rfl) ?_
                          refine rw_if_eq (tgt := 173) hx hb dX11_hold_167 (by decide) (by omega) (fun c_167 => ?_) (fun c_167 => ?_)
                          · refine rw_iinc (lv' := [(4, .int (iN (v + 1))), (0, .ref (ad 0)), (1, .int (iN 0)), (2, .int (iN i)), (3, .int (iN n)), (5, .int (iN b)), (6, .int (iN t))]) hx hb dX11_hold_173 hl (k := 4) rfl (by decide) rfl (fun ls hl => ?_)
                            refine lv_goto (tgt := 43) hx hb dX11_hold_176 (by decide) ?_
                            exact ih43 (v + 1) My H locs ls (by omega) (by omega) hs2 (fun u h1 h2 => by rcases Int.lt_or_le u v with q | q; exact hq u h1 q; rw [show u = v by omega]; exact hbb.off (by first | assumption | omega)) hW (lv_sub hl [1, 2, 3, 4, 0] rfl)
                          · refine lv_iload hx hb dX11_hold_170 (lv_at hl 4 rfl) ?_
                            refine rw_iret hx hb hr hlocks hW dX11_hold_172 (⟨v, rfl, ?_⟩)
                            refine Or.inl ⟨by omega, by omega, Or.inl ⟨by omega, by omega, fun k hk => ?_, hq⟩, hs2⟩
                            exact (hbb.on (by omega)) k (by omega)
                        · have hbq := hbb.on c_107
                          refine lv_aload_n hx hb dX11_hold_110 rfl (lv_at hl 0 rfl) ?_
                          refine rw_iconst hx hb dX11_hold_111 ?_
                          refine rw_callV hx hb hml hts hown hW ⟨Nat.le_refl 0, Nat.le_refl 0⟩ [.int (iN 0)] 0 lm_0 rfl (c_X11_triesOne (l := l) (G := G) (ad := ad) (CA := CA) (nt := nt) (by omega) 0 (by first | omega | decide) My (by rw [hf]; exact (capN_inv hTI t.toNat (by omega)).1)) kX11_206 rfl ⟨Nat.le_of_ble_eq_true rfl, Nat.le_of_ble_eq_true rfl⟩ hl.1 rfl (Nat.le_of_ble_eq_true rfl) dX11_hold_112 (fun v22 M23 H locs hp24 hW => ?_)
                          obtain ⟨rfl, hM23⟩ := hp24
                          refine rw_stk (st' := []) rfl ?_
                          have e3 : pg M23 188 = capN (tryF (pg M 0) 0 v) (t.toNat + 1) := by rw [hM23.1, hf]; rfl
                          have e47 : M23 0 1 = M 0 1 := congrFun ((hs2.trans hM23.2).1 0 (by decide)) 1
                          have hkr : 0 ≤ pg M23 188 27 ∧ pg M23 188 27 ≤ 21 := by have q := (capN_inv hTI (t.toNat + 1) (by omega)).1; rw [← e3] at q; have q1 := q.1; have q2 := q.2.1; omega
                          have hsp : spotF (pg M23 188) (pg M23 188 27) = (if pg M23 188 27 = 20 then -1 else if pg M23 188 27 = 21 then M23 0 1 else pg M23 188 27) + 1 := by rw [place_spot M23 188]; omega
                          refine lv_aload_n hx hb dX11_hold_115 rfl (lv_at hl 0 rfl) ?_
                          refine lv_aload_n hx hb dX11_hold_116 rfl (lv_at hl 0 rfl) ?_
                          refine rw_sipush hx hb dX11_hold_117 (by decide) ?_
                          refine rw_callV hx hb hml hts hown hW ⟨Nat.le_refl 0, Nat.le_refl 0⟩ [.int (iN 188)] 0 lm_0 rfl (c_X11_keg (l := l) (G := G) (ad := ad) (CA := CA) (nt := nt) (by omega) 188 (by first | omega | decide) M23) kX11_146 rfl ⟨Nat.le_of_ble_eq_true rfl, Nat.le_of_ble_eq_true rfl⟩ hl.1 rfl (Nat.le_of_ble_eq_true rfl) dX11_hold_120 (fun v25 M26 H locs hp27 hW => ?_)
                          obtain ⟨_, rfl, rfl, hp27⟩ := hp27
                          rw [hp27] at hW
                          refine rw_stk (st' := [.int (iN (pg M23 188 27)), .ref (ad 0)]) rfl ?_
                          refine rw_callV hx hb hml hts hown hW ⟨Nat.le_refl 0, Nat.le_refl 0⟩ [.int (iN (pg M23 188 27))] 0 lm_0 rfl (c_X11_place (l := l) (G := G) (ad := ad) (CA := CA) (nt := nt) (by omega) (pg M23 188 27) (by first | omega | decide) M23) kX11_236 rfl ⟨Nat.le_of_ble_eq_true rfl, Nat.le_of_ble_eq_true rfl⟩ hl.1 rfl (Nat.le_of_ble_eq_true rfl) dX11_hold_123 (fun v28 M29 H locs hp30 hW => ?_)
                          obtain ⟨_, rfl, rfl, hp30⟩ := hp30
                          rw [hp30] at hW
                          refine rw_stk (st' := [.int (iN (if (pg M23 188 27) = 20 then -1 else if (pg M23 188 27) = 21 then M23 0 1 else (pg M23 188 27)))]) rfl ?_
                          refine lv_istore (lv' := [(7, .int (iN (if (pg M23 188 27) = 20 then -1 else if (pg M23 188 27) = 21 then M23 0 1 else (pg M23 188 27)))), (0, .ref (ad 0)), (1, .int (iN 0)), (2, .int (iN i)), (3, .int (iN n)), (4, .int (iN v)), (5, .int (iN b)), (6, .int (iN t))]) hx hb dX11_hold_126 hl (by decide) rfl (fun ls hl => ?_)
                          refine lv_iload_n hx hb dX11_hold_128 rfl (lv_at hl 2 rfl) ?_
                          refine rw_if_ne (tgt := 146) hx hb dX11_hold_129 (by decide) (by decide) (fun c => absurd c (by decide)) (fun _ => ?_)
                          refine lv_iload hx hb dX11_hold_132 (lv_at hl 0 rfl) ?_
                          refine lv_iload_n hx hb dX11_hold_134 rfl (lv_at hl 3 rfl) ?_
                          refine rw_icmp_gt (tgt := 142) hx hb dX11_hold_135 (by decide) (by omega) (by omega) (fun c_135 => ?_) (fun c_135 => ?_)
                          · refine rw_iconst hx hb dX11_hold_142 ?_
                            refine lv_goto (tgt := 157) hx hb dX11_hold_143 (by decide) ?_
                            refine lv_istore (lv' := [(5, .int (iN 0)), (7, .int (iN (if (pg M23 188 27) = 20 then -1 else if (pg M23 188 27) = 21 then M23 0 1 else (pg M23 188 27)))), (0, .ref (ad 0)), (1, .int (iN 0)), (2, .int (iN i)), (3, .int (iN n)), (4, .int (iN v)), (6, .int (iN t))]) hx hb dX11_hold_157 hl (by decide) rfl (fun ls hl => ?_)
                            refine rw_iinc (lv' := [(6, .int (iN (t + 1))), (5, .int (iN 0)), (7, .int (iN (if (pg M23 188 27) = 20 then -1 else if (pg M23 188 27) = 21 then M23 0 1 else (pg M23 188 27)))), (0, .ref (ad 0)), (1, .int (iN 0)), (2, .int (iN i)), (3, .int (iN n)), (4, .int (iN v))]) hx hb dX11_hold_159 hl (k := 7) rfl (by decide) rfl (fun ls hl => ?_)
                            refine lv_goto (tgt := 99) hx hb dX11_hold_162 (by decide) ?_
                            exact ih99 0 (t + 1) M23 H locs ls (by omega) (by omega) (by rw [e3, show (t + 1).toNat = t.toNat + 1 by omega]) (hs2.trans hM23.2) (by omega) (Or.inr ⟨rfl, t.toNat, by omega, by rw [← e3]; unfold beyondF distF; rw [hsp, pg_47]; (first | rw [if_pos rfl, if_pos rfl] | rw [if_neg (by decide), if_neg (by decide)]); omega⟩) hW (lv_sub hl [3, 4, 5, 6, 7, 1, 0] rfl)
                          · refine rw_iconst hx hb dX11_hold_138 ?_
                            refine lv_goto (tgt := 157) hx hb dX11_hold_139 (by decide) ?_
                            refine lv_istore (lv' := [(5, .int (iN 1)), (7, .int (iN (if (pg M23 188 27) = 20 then -1 else if (pg M23 188 27) = 21 then M23 0 1 else (pg M23 188 27)))), (0, .ref (ad 0)), (1, .int (iN 0)), (2, .int (iN i)), (3, .int (iN n)), (4, .int (iN v)), (6, .int (iN t))]) hx hb dX11_hold_157 hl (by decide) rfl (fun ls hl => ?_)
                            refine rw_iinc (lv' := [(6, .int (iN (t + 1))), (5, .int (iN 1)), (7, .int (iN (if (pg M23 188 27) = 20 then -1 else if (pg M23 188 27) = 21 then M23 0 1 else (pg M23 188 27)))), (0, .ref (ad 0)), (1, .int (iN 0)), (2, .int (iN i)), (3, .int (iN n)), (4, .int (iN v))]) hx hb dX11_hold_159 hl (k := 7) rfl (by decide) rfl (fun ls hl => ?_)
                            refine lv_goto (tgt := 99) hx hb dX11_hold_162 (by decide) ?_
                            exact ih99 1 (t + 1) M23 H locs ls (by omega) (by omega) (by rw [e3, show (t + 1).toNat = t.toNat + 1 by omega]) (hs2.trans hM23.2) (by omega) (Or.inl ⟨rfl, fun k hk => by rcases Nat.lt_or_ge k t.toNat with q | q; exact hbq k (by omega); rw [show k = t.toNat by omega, ← e3]; exact fun q => by unfold beyondF distF at q; rw [hsp, pg_47] at q; (first | rw [if_pos rfl, if_pos rfl] at q | rw [if_neg (by decide), if_neg (by decide)] at q); omega⟩) hW (lv_sub hl [3, 4, 5, 6, 7, 1, 0] rfl)
                  exact hC_99 _ 1 0 M21 H locs ls (Nat.lt_succ_self _) (by omega) e9 hs9 (by omega) (Or.inl ⟨rfl, fun k hk => absurd hk (by omega)⟩) hW (lv_sub hl [2, 3, 4, 5, 6, 1, 0] rfl)
            exact hC_43 _ 0 M H locs ls (Nat.lt_succ_self _) (by omega) SameS.rf (fun u h1 h2 => absurd h2 (by omega)) hW (lv_sub hl [1, 2, 3, 4, 0] rfl)
        · refine rw_stk (st' := [.int (iN 0)]) rfl ?_
          refine rw_if_ne (tgt := 29) hx hb dX11_hold_24 (by decide) (by decide) (fun c => absurd c (by decide)) (fun _ => ?_)
          refine rw_iconst hx hb dX11_hold_27 ?_
          refine rw_iret hx hb hr hlocks hW dX11_hold_28 (⟨(-1), rfl, ?_⟩)
          exact Or.inr (Or.inr ⟨by omega, rfl, rfl⟩)
      · refine rw_stk (st' := [.int (iN 0)]) rfl ?_
        refine rw_if_eq (tgt := 27) hx hb dX11_hold_12 (by decide) (by decide) (fun _ => ?_) (fun c => absurd (by decide) c)
        refine rw_iconst hx hb dX11_hold_27 ?_
        refine rw_iret hx hb hr hlocks hW dX11_hold_28 (⟨(-1), rfl, ?_⟩)
        exact Or.inr (Or.inr ⟨by omega, rfl, rfl⟩)
    · refine rw_stk (st' := [.int (iN 1)]) rfl ?_
      refine rw_if_eq (tgt := 27) hx hb dX11_hold_4 (by decide) (by decide) (fun c => absurd c (by decide)) (fun _ => ?_)
      refine lv_aload_n hx hb dX11_hold_7 rfl (lv_at hl 0 rfl) ?_
      refine lv_iload_n hx hb dX11_hold_8 rfl (lv_at hl 2 rfl) ?_
      refine rw_callV hx hb hml hts hown hW ⟨Nat.le_refl 0, Nat.le_refl 0⟩ [.int (iN i)] 0 lm_0 rfl (c_X11_isCell (l := l) (G := G) (ad := ad) (CA := CA) (nt := nt) (by omega) i (by first | omega | decide) M hc) kX11_142 rfl ⟨Nat.le_of_ble_eq_true rfl, Nat.le_of_ble_eq_true rfl⟩ hl.1 rfl (Nat.le_of_ble_eq_true rfl) dX11_hold_9 (fun v31 M32 H locs hp33 hW => ?_)
      obtain ⟨a34, rfl, hp33, hp33m⟩ := hp33
      rw [hp33m] at hW
      rcases hp33 with ⟨rfl, hp33⟩ | ⟨rfl, hp33⟩
      · refine rw_stk (st' := [.int (iN 1)]) rfl ?_
        refine rw_if_eq (tgt := 27) hx hb dX11_hold_12 (by decide) (by decide) (fun c => absurd c (by decide)) (fun _ => ?_)
        refine lv_iload_n hx hb dX11_hold_15 rfl (lv_at hl 3 rfl) ?_
        refine rw_i2l hx hb dX11_hold_16 (by omega) ?_
        refine lv_lconst (v := jN 1) hx hb dX11_hold_17 rfl ?_
        refine lv_ldc2 (v := 20) hx hb hown (hts _ (wm_39 _ (List.mem_of_getElem? (i := 8) rfl))) dX11_hold_18 ?_
        refine rw_stk (st' := [.long (jN 20), .long (jN 1), .long (jN n)]) (by rw [show (20 : Int64) = jN 20 from by decide]) ?_
        refine rw_callS hx hb hml hts hown hW ⟨Nat.le_refl 0, Nat.le_refl 0⟩ [.long (jN n), .long (jN 1), .long (jN 20)] (c_X11_in (l := l) (G := G) (ad := ad) (CA := CA) (nt := nt) n 1 20 (by first | omega | decide) (by first | omega | decide) (by first | omega | decide) M) kX11_57 rfl ⟨Nat.le_of_ble_eq_true rfl, Nat.le_of_ble_eq_true rfl⟩ hl.1 rfl (Nat.le_of_ble_eq_true rfl) dX11_hold_21 (fun v35 M36 H locs hp37 hW => ?_)
        obtain ⟨a38, rfl, hp37, hp37m⟩ := hp37
        rw [hp37m] at hW
        rcases hp37 with ⟨rfl, hp37⟩ | ⟨rfl, hp37⟩
        · refine rw_stk (st' := [.int (iN 1)]) rfl ?_
          refine rw_if_ne (tgt := 29) hx hb dX11_hold_24 (by decide) (by decide) (fun _ => ?_) (fun c => absurd c (by decide))
          refine lv_aload_n hx hb dX11_hold_29 rfl (lv_at hl 0 rfl) ?_
          refine rw_iconst hx hb dX11_hold_30 ?_
          refine rw_callV hx hb hml hts hown hW ⟨Nat.le_refl 0, Nat.le_refl 0⟩ [.int (iN 0)] 0 lm_0 rfl (c_X11_isOver (l := l) (G := G) (ad := ad) (CA := CA) (nt := nt) (by omega) 0 (by first | omega | decide) M hI) kX11_188 rfl ⟨Nat.le_of_ble_eq_true rfl, Nat.le_of_ble_eq_true rfl⟩ hl.1 rfl (Nat.le_of_ble_eq_true rfl) dX11_hold_31 (fun v39 M40 H locs hp41 hW => ?_)
          obtain ⟨a42, rfl, hp41, hp41m⟩ := hp41
          rw [hp41m] at hW
          rcases hp41 with ⟨rfl, hp41⟩ | ⟨rfl, hp41⟩
          · refine rw_stk (st' := [.int (iN 1)]) rfl ?_
            refine rw_if_eq (tgt := 40) hx hb dX11_hold_34 (by decide) (by decide) (fun c => absurd c (by decide)) (fun _ => ?_)
            refine rw_bipush hx hb dX11_hold_37 (by decide) ?_
            refine rw_iret hx hb hr hlocks hW dX11_hold_39 (⟨(-2), rfl, ?_⟩)
            exact Or.inr (Or.inl ⟨by omega, by omega, rfl, rfl⟩)
          · refine rw_stk (st' := [.int (iN 0)]) rfl ?_
            refine rw_if_eq (tgt := 40) hx hb dX11_hold_34 (by decide) (by decide) (fun _ => ?_) (fun c => absurd (by decide) c)
            refine rw_iconst hx hb dX11_hold_40 ?_
            refine lv_istore (lv' := [(4, .int (iN 0)), (0, .ref (ad 0)), (1, .int (iN 1)), (2, .int (iN i)), (3, .int (iN n))]) hx hb dX11_hold_41 hl (by decide) rfl (fun ls hl => ?_)
            have hC_43 : ∀ N : Nat, ∀ (v : Int) (Mx : Mem) (H : Heap) (locs : List Loc) (ls : Array Slot), (13 - v).toNat < N → (0 ≤ v ∧ v ≤ 13) → (SameS M Mx 188) → (∀ u, 0 ≤ u → u < v → ¬ holdsF (tryF (pg M 0) 1 u) 1 i n) → Wo G ad CA nt LyM (wA ad LyM) s Mx H locs → lv_has ls 8 [(0, .ref (ad 0)), (1, .int (iN 1)), (2, .int (iN i)), (3, .int (iN n)), (4, .int (iN v))] → Wf l 5 121 G ad CA nt LyM (P_X11_hold 1 i n M) p e s m args below meth c H locs (F0 m 43 ls []) := by
              intro N
              induction N with
              | zero => intro v Mx H locs ls hN; exact absurd hN (Nat.not_lt_zero _)
              | succ N ih43 =>
                intro v Mx H locs ls hN hv hs hq hW hl
                have hnow : pg Mx 0 = pg M 0 := pg_same hs (by decide)
                refine lv_iload hx hb dX11_hold_43 (lv_at hl 4 rfl) ?_
                refine rw_bipush hx hb dX11_hold_45 (by decide) ?_
                refine rw_icmp_gt (tgt := 179) hx hb dX11_hold_47 (by decide) (by omega) (by decide) (fun c_47 => ?_) (fun c_47 => ?_)
                · refine rw_bipush hx hb dX11_hold_179 (by decide) ?_
                  refine rw_iret hx hb hr hlocks hW dX11_hold_181 (⟨(-4), rfl, ?_⟩)
                  exact Or.inl ⟨by omega, by omega, Or.inr ⟨rfl, fun u h1 h2 => hq u h1 (by omega)⟩, hs⟩
                · refine lv_aload_n hx hb dX11_hold_50 rfl (lv_at hl 0 rfl) ?_
                  refine rw_iconst hx hb dX11_hold_51 ?_
                  refine rw_sipush hx hb dX11_hold_52 (by decide) ?_
                  refine rw_callV hx hb hml hts hown hW ⟨Nat.le_refl 0, Nat.le_refl 0⟩ [.int (iN 0), .int (iN 188)] 0 lm_0 rfl (c_X11_copies (l := l) (G := G) (ad := ad) (CA := CA) (nt := nt) (by omega) 0 188 (by first | omega | decide) (by first | omega | decide) (by first | omega | decide) Mx) kX11_212 rfl ⟨Nat.le_of_ble_eq_true rfl, Nat.le_of_ble_eq_true rfl⟩ hl.1 rfl (Nat.le_of_ble_eq_true rfl) dX11_hold_55 (fun v43 M44 H locs hp45 hW => ?_)
                  obtain ⟨rfl, hM44⟩ := hp45
                  refine rw_stk (st' := []) rfl ?_
                  refine lv_aload_n hx hb dX11_hold_58 rfl (lv_at hl 0 rfl) ?_
                  refine rw_getR hx hb hts hown hW 0 lm_0 0 1 rfl fX11_7 dX11_hold_59 ?_
                  refine rw_sipush hx hb dX11_hold_62 (by decide) ?_
                  refine rw_bipush hx hb dX11_hold_65 (by decide) ?_
                  refine lv_iload_n hx hb dX11_hold_67 rfl (lv_at hl 1 rfl) ?_
                  refine rw_imul hx hb dX11_hold_68 ?_
                  refine rw_stk (st' := [.int (iN 8), .int (iN 216), .ref (ad 1)]) rfl ?_
                  refine rw_iadd hx hb dX11_hold_69 ?_
                  refine rw_stk (st' := [.int (iN 224), .ref (ad 1)]) rfl ?_
                  refine rw_bipush hx hb dX11_hold_70 (by decide) ?_
                  refine rw_iadd hx hb dX11_hold_72 ?_
                  refine rw_stk (st' := [.int (iN 230), .ref (ad 1)]) rfl ?_
                  refine rw_iconst hx hb dX11_hold_73 ?_
                  refine rw_iast hx hb hW hnt4 1 lm_1 (v := 2) (by omega) (by omega) (by decide) dX11_hold_74 (fun H locs hW => ?_)
                  obtain ⟨M46, hM46⟩ : ∃ z, z = upd2 M44 1 230 2 := ⟨_, rfl⟩
                  rw [← hM46] at hW
                  refine lv_aload_n hx hb dX11_hold_75 rfl (lv_at hl 0 rfl) ?_
                  refine rw_getR hx hb hts hown hW 0 lm_0 0 1 rfl fX11_7 dX11_hold_76 ?_
                  refine rw_sipush hx hb dX11_hold_79 (by decide) ?_
                  refine rw_bipush hx hb dX11_hold_82 (by decide) ?_
                  refine lv_iload_n hx hb dX11_hold_84 rfl (lv_at hl 1 rfl) ?_
                  refine rw_imul hx hb dX11_hold_85 ?_
                  refine rw_stk (st' := [.int (iN 8), .int (iN 216), .ref (ad 1)]) rfl ?_
                  refine rw_iadd hx hb dX11_hold_86 ?_
                  refine rw_stk (st' := [.int (iN 224), .ref (ad 1)]) rfl ?_
                  refine rw_bipush hx hb dX11_hold_87 (by decide) ?_
                  refine rw_iadd hx hb dX11_hold_89 ?_
                  refine rw_stk (st' := [.int (iN 231), .ref (ad 1)]) rfl ?_
                  refine lv_iload hx hb dX11_hold_90 (lv_at hl 4 rfl) ?_
                  refine rw_iast hx hb hW hnt4 1 lm_1 (v := v) (by omega) (by omega) (by decide) dX11_hold_92 (fun H locs hW => ?_)
                  obtain ⟨M47, hM47⟩ : ∃ z, z = upd2 M46 1 231 v := ⟨_, rfl⟩
                  rw [← hM47] at hW
                  refine rw_iconst hx hb dX11_hold_93 ?_
                  refine lv_istore (lv' := [(5, .int (iN 1)), (0, .ref (ad 0)), (1, .int (iN 1)), (2, .int (iN i)), (3, .int (iN n)), (4, .int (iN v))]) hx hb dX11_hold_94 hl (by decide) rfl (fun ls hl => ?_)
                  have e9 : pg M47 188 = tryF (pg M 0) 1 v := by rw [← hnow, ← hM44.1]; exact tryP_34 (M1 := M46) (by decide) (by rw [hM46]; rfl) (by rw [hM47]; rfl)
                  have hs9 : SameS M M47 188 := by rw [hM47, hM46]; exact ((hs.trans hM44.2).up (by decide)).up (by decide)
                  have hTI := tryF_inv hI (s := 1) (v := v) (by decide) (by omega)
                  have hT46 := tryF_46 (pg M 0) (s := 1) (v := v) (by decide)
                  refine rw_iconst hx hb dX11_hold_96 ?_
                  refine lv_istore (lv' := [(6, .int (iN 0)), (5, .int (iN 1)), (0, .ref (ad 0)), (1, .int (iN 1)), (2, .int (iN i)), (3, .int (iN n)), (4, .int (iN v))]) hx hb dX11_hold_97 hl (by decide) rfl (fun ls hl => ?_)
                  have hC_99 : ∀ N : Nat, ∀ (b : Int) (t : Int) (My : Mem) (H : Heap) (locs : List Loc) (ls : Array Slot), (n - t).toNat < N → (0 ≤ t ∧ t ≤ n) → (pg My 188 = capN (tryF (pg M 0) 1 v) t.toNat) → (SameS M My 188) → (b = 0 ∨ b = 1) → (HBf (tryF (pg M 0) 1 v) 1 i n t b) → Wo G ad CA nt LyM (wA ad LyM) s My H locs → lv_has ls 8 [(0, .ref (ad 0)), (1, .int (iN 1)), (2, .int (iN i)), (3, .int (iN n)), (4, .int (iN v)), (5, .int (iN b)), (6, .int (iN t))] → Wf l 5 121 G ad CA nt LyM (P_X11_hold 1 i n M) p e s m args below meth c H locs (F0 m 99 ls []) := by
                    intro N
                    induction N with
                    | zero => intro b t My H locs ls hN; exact absurd hN (Nat.not_lt_zero _)
                    | succ N ih99 =>
                      intro b t My H locs ls hN ht hf hs2 hb01 hbb hW hl
                      refine lv_iload hx hb dX11_hold_99 (lv_at hl 6 rfl) ?_
                      refine lv_iload_n hx hb dX11_hold_101 rfl (lv_at hl 3 rfl) ?_
                      refine rw_icmp_ge (tgt := 165) hx hb dX11_hold_102 (by decide) (by omega) (by omega) (fun c_102 => ?_) (fun c_102 => ?_)
                      · refine lv_iload hx hb dX11_hold_165 (lv_at hl 5 rfl) ?_
                        refine rw_if_eq (tgt := 173) hx hb dX11_hold_167 (by decide) (by omega) (fun c_167 => ?_) (fun c_167 => ?_)
                        · refine rw_iinc (lv' := [(4, .int (iN (v + 1))), (0, .ref (ad 0)), (1, .int (iN 1)), (2, .int (iN i)), (3, .int (iN n)), (5, .int (iN b)), (6, .int (iN t))]) hx hb dX11_hold_173 hl (k := 4) rfl (by decide) rfl (fun ls hl => ?_)
                          refine lv_goto (tgt := 43) hx hb dX11_hold_176 (by decide) ?_
                          exact ih43 (v + 1) My H locs ls (by omega) (by omega) hs2 (fun u h1 h2 => by rcases Int.lt_or_le u v with q | q; exact hq u h1 q; rw [show u = v by omega]; exact hbb.off (by first | assumption | omega)) hW (lv_sub hl [1, 2, 3, 4, 0] rfl)
                        · refine lv_iload hx hb dX11_hold_170 (lv_at hl 4 rfl) ?_
                          refine rw_iret hx hb hr hlocks hW dX11_hold_172 (⟨v, rfl, ?_⟩)
                          refine Or.inl ⟨by omega, by omega, Or.inl ⟨by omega, by omega, fun k hk => ?_, hq⟩, hs2⟩
                          exact (hbb.on (by omega)) k (by omega)
                      · refine lv_iload hx hb dX11_hold_105 (lv_at hl 5 rfl) ?_
                        refine rw_if_eq (tgt := 165) hx hb dX11_hold_107 (by decide) (by omega) (fun c_107 => ?_) (fun c_107 => ?_)
                        · refine lv_iload hx hb dX11_hold_165 (lv_at hl 5 rfl) ?_
                          refine rw_if_eq (tgt := 173) hx hb dX11_hold_167 (by decide) (by omega) (fun c_167 => ?_) (fun c_167 => ?_)
                          · refine rw_iinc (lv' := [(4, .int (iN (v + 1))), (0, .ref (ad 0)), (1, .int (iN 1)), (2, .int (iN i)), (3, .int (iN n)), (5, .int (iN b)), (6, .int (iN t))]) hx hb dX11_hold_173 hl (k := 4) rfl (by decide) rfl (fun ls hl => ?_)
                            refine lv_goto (tgt := 43) hx hb dX11_hold_176 (by decide) ?_
                            exact ih43 (v + 1) My H locs ls (by omega) (by omega) hs2 (fun u h1 h2 => by rcases Int.lt_or_le u v with q | q; exact hq u h1 q; rw [show u = v by omega]; exact hbb.off (by first | assumption | omega)) hW (lv_sub hl [1, 2, 3, 4, 0] rfl)
                          · refine lv_iload hx hb dX11_hold_170 (lv_at hl 4 rfl) ?_
                            refine rw_iret hx hb hr hlocks hW dX11_hold_172 (⟨v, rfl, ?_⟩)
                            refine Or.inl ⟨by omega, by omega, Or.inl ⟨by omega, by omega, fun k hk => ?_, hq⟩, hs2⟩
                            exact (hbb.on (by omega)) k (by omega)
                        · have hbq := hbb.on c_107
                          refine lv_aload_n hx hb dX11_hold_110 rfl (lv_at hl 0 rfl) ?_
                          refine rw_iconst hx hb dX11_hold_111 ?_
                          refine rw_callV hx hb hml hts hown hW ⟨Nat.le_refl 0, Nat.le_refl 0⟩ [.int (iN 0)] 0 lm_0 rfl (c_X11_triesOne (l := l) (G := G) (ad := ad) (CA := CA) (nt := nt) (by omega) 0 (by first | omega | decide) My (by rw [hf]; exact (capN_inv hTI t.toNat (by omega)).1)) kX11_206 rfl ⟨Nat.le_of_ble_eq_true rfl, Nat.le_of_ble_eq_true rfl⟩ hl.1 rfl (Nat.le_of_ble_eq_true rfl) dX11_hold_112 (fun v48 M49 H locs hp50 hW => ?_)
                          obtain ⟨rfl, hM49⟩ := hp50
                          refine rw_stk (st' := []) rfl ?_
                          have e3 : pg M49 188 = capN (tryF (pg M 0) 1 v) (t.toNat + 1) := by rw [hM49.1, hf]; rfl
                          have e47 : M49 0 1 = M 0 1 := congrFun ((hs2.trans hM49.2).1 0 (by decide)) 1
                          have hkr : 0 ≤ pg M49 188 27 ∧ pg M49 188 27 ≤ 21 := by have q := (capN_inv hTI (t.toNat + 1) (by omega)).1; rw [← e3] at q; have q1 := q.1; have q2 := q.2.1; omega
                          have hsp : spotF (pg M49 188) (pg M49 188 27) = (if pg M49 188 27 = 20 then -1 else if pg M49 188 27 = 21 then M49 0 1 else pg M49 188 27) + 1 := by rw [place_spot M49 188]; omega
                          refine lv_aload_n hx hb dX11_hold_115 rfl (lv_at hl 0 rfl) ?_
                          refine lv_aload_n hx hb dX11_hold_116 rfl (lv_at hl 0 rfl) ?_
                          refine rw_sipush hx hb dX11_hold_117 (by decide) ?_
                          refine rw_callV hx hb hml hts hown hW ⟨Nat.le_refl 0, Nat.le_refl 0⟩ [.int (iN 188)] 0 lm_0 rfl (c_X11_keg (l := l) (G := G) (ad := ad) (CA := CA) (nt := nt) (by omega) 188 (by first | omega | decide) M49) kX11_146 rfl ⟨Nat.le_of_ble_eq_true rfl, Nat.le_of_ble_eq_true rfl⟩ hl.1 rfl (Nat.le_of_ble_eq_true rfl) dX11_hold_120 (fun v51 M52 H locs hp53 hW => ?_)
                          obtain ⟨_, rfl, rfl, hp53⟩ := hp53
                          rw [hp53] at hW
                          refine rw_stk (st' := [.int (iN (pg M49 188 27)), .ref (ad 0)]) rfl ?_
                          refine rw_callV hx hb hml hts hown hW ⟨Nat.le_refl 0, Nat.le_refl 0⟩ [.int (iN (pg M49 188 27))] 0 lm_0 rfl (c_X11_place (l := l) (G := G) (ad := ad) (CA := CA) (nt := nt) (by omega) (pg M49 188 27) (by first | omega | decide) M49) kX11_236 rfl ⟨Nat.le_of_ble_eq_true rfl, Nat.le_of_ble_eq_true rfl⟩ hl.1 rfl (Nat.le_of_ble_eq_true rfl) dX11_hold_123 (fun v54 M55 H locs hp56 hW => ?_)
                          obtain ⟨_, rfl, rfl, hp56⟩ := hp56
                          rw [hp56] at hW
                          refine rw_stk (st' := [.int (iN (if (pg M49 188 27) = 20 then -1 else if (pg M49 188 27) = 21 then M49 0 1 else (pg M49 188 27)))]) rfl ?_
                          refine lv_istore (lv' := [(7, .int (iN (if (pg M49 188 27) = 20 then -1 else if (pg M49 188 27) = 21 then M49 0 1 else (pg M49 188 27)))), (0, .ref (ad 0)), (1, .int (iN 1)), (2, .int (iN i)), (3, .int (iN n)), (4, .int (iN v)), (5, .int (iN b)), (6, .int (iN t))]) hx hb dX11_hold_126 hl (by decide) rfl (fun ls hl => ?_)
                          refine lv_iload_n hx hb dX11_hold_128 rfl (lv_at hl 2 rfl) ?_
                          refine rw_if_ne (tgt := 146) hx hb dX11_hold_129 (by decide) (by decide) (fun _ => ?_) (fun c => absurd c (by decide))
                          refine lv_iload hx hb dX11_hold_146 (lv_at hl 0 rfl) ?_
                          refine lv_iload_n hx hb dX11_hold_148 rfl (lv_at hl 3 rfl) ?_
                          refine rw_icmp_lt (tgt := 156) hx hb dX11_hold_149 (by decide) (by omega) (by omega) (fun c_149 => ?_) (fun c_149 => ?_)
                          · refine rw_iconst hx hb dX11_hold_156 ?_
                            refine lv_istore (lv' := [(5, .int (iN 0)), (7, .int (iN (if (pg M49 188 27) = 20 then -1 else if (pg M49 188 27) = 21 then M49 0 1 else (pg M49 188 27)))), (0, .ref (ad 0)), (1, .int (iN 1)), (2, .int (iN i)), (3, .int (iN n)), (4, .int (iN v)), (6, .int (iN t))]) hx hb dX11_hold_157 hl (by decide) rfl (fun ls hl => ?_)
                            refine rw_iinc (lv' := [(6, .int (iN (t + 1))), (5, .int (iN 0)), (7, .int (iN (if (pg M49 188 27) = 20 then -1 else if (pg M49 188 27) = 21 then M49 0 1 else (pg M49 188 27)))), (0, .ref (ad 0)), (1, .int (iN 1)), (2, .int (iN i)), (3, .int (iN n)), (4, .int (iN v))]) hx hb dX11_hold_159 hl (k := 7) rfl (by decide) rfl (fun ls hl => ?_)
                            refine lv_goto (tgt := 99) hx hb dX11_hold_162 (by decide) ?_
                            exact ih99 0 (t + 1) M49 H locs ls (by omega) (by omega) (by rw [e3, show (t + 1).toNat = t.toNat + 1 by omega]) (hs2.trans hM49.2) (by omega) (Or.inr ⟨rfl, t.toNat, by omega, by rw [← e3]; unfold beyondF distF; rw [hsp, pg_47]; (first | rw [if_pos rfl, if_pos rfl] | rw [if_neg (by decide), if_neg (by decide)]); omega⟩) hW (lv_sub hl [3, 4, 5, 6, 7, 1, 0] rfl)
                          · refine rw_iconst hx hb dX11_hold_152 ?_
                            refine lv_goto (tgt := 157) hx hb dX11_hold_153 (by decide) ?_
                            refine lv_istore (lv' := [(5, .int (iN 1)), (7, .int (iN (if (pg M49 188 27) = 20 then -1 else if (pg M49 188 27) = 21 then M49 0 1 else (pg M49 188 27)))), (0, .ref (ad 0)), (1, .int (iN 1)), (2, .int (iN i)), (3, .int (iN n)), (4, .int (iN v)), (6, .int (iN t))]) hx hb dX11_hold_157 hl (by decide) rfl (fun ls hl => ?_)
                            refine rw_iinc (lv' := [(6, .int (iN (t + 1))), (5, .int (iN 1)), (7, .int (iN (if (pg M49 188 27) = 20 then -1 else if (pg M49 188 27) = 21 then M49 0 1 else (pg M49 188 27)))), (0, .ref (ad 0)), (1, .int (iN 1)), (2, .int (iN i)), (3, .int (iN n)), (4, .int (iN v))]) hx hb dX11_hold_159 hl (k := 7) rfl (by decide) rfl (fun ls hl => ?_)
                            refine lv_goto (tgt := 99) hx hb dX11_hold_162 (by decide) ?_
                            exact ih99 1 (t + 1) M49 H locs ls (by omega) (by omega) (by rw [e3, show (t + 1).toNat = t.toNat + 1 by omega]) (hs2.trans hM49.2) (by omega) (Or.inl ⟨rfl, fun k hk => by rcases Nat.lt_or_ge k t.toNat with q | q; exact hbq k (by omega); rw [show k = t.toNat by omega, ← e3]; exact fun q => by unfold beyondF distF at q; rw [hsp, pg_47] at q; (first | rw [if_pos rfl, if_pos rfl] at q | rw [if_neg (by decide), if_neg (by decide)] at q); omega⟩) hW (lv_sub hl [3, 4, 5, 6, 7, 1, 0] rfl)
                  exact hC_99 _ 1 0 M47 H locs ls (Nat.lt_succ_self _) (by omega) e9 hs9 (by omega) (Or.inl ⟨rfl, fun k hk => absurd hk (by omega)⟩) hW (lv_sub hl [2, 3, 4, 5, 6, 1, 0] rfl)
            exact hC_43 _ 0 M H locs ls (Nat.lt_succ_self _) (by omega) SameS.rf (fun u h1 h2 => absurd h2 (by omega)) hW (lv_sub hl [1, 2, 3, 4, 0] rfl)
        · refine rw_stk (st' := [.int (iN 0)]) rfl ?_
          refine rw_if_ne (tgt := 29) hx hb dX11_hold_24 (by decide) (by decide) (fun c => absurd c (by decide)) (fun _ => ?_)
          refine rw_iconst hx hb dX11_hold_27 ?_
          refine rw_iret hx hb hr hlocks hW dX11_hold_28 (⟨(-1), rfl, ?_⟩)
          exact Or.inr (Or.inr ⟨by omega, rfl, rfl⟩)
      · refine rw_stk (st' := [.int (iN 0)]) rfl ?_
        refine rw_if_eq (tgt := 27) hx hb dX11_hold_12 (by decide) (by decide) (fun _ => ?_) (fun c => absurd (by decide) c)
        refine rw_iconst hx hb dX11_hold_27 ?_
        refine rw_iret hx hb hr hlocks hW dX11_hold_28 (⟨(-1), rfl, ?_⟩)
        exact Or.inr (Or.inr ⟨by omega, rfl, rfl⟩)
  · refine rw_stk (st' := [.int (iN 0)]) rfl ?_
    refine rw_if_eq (tgt := 27) hx hb dX11_hold_4 (by decide) (by decide) (fun _ => ?_) (fun c => absurd (by decide) c)
    refine rw_iconst hx hb dX11_hold_27 ?_
    refine rw_iret hx hb hr hlocks hW dX11_hold_28 (⟨(-1), rfl, ?_⟩)
    exact Or.inr (Or.inr ⟨by omega, rfl, rfl⟩)
abbrev P_X11_play (sd : Int32) (n : Int) (w : Int) (M : Mem) : Option Value → Mem → Prop := oI (fun zz MM => (((1 ≤ n ∧ n ≤ 60) ∧ 0 ≤ w ∧ w ≤ 1) ∧ zz = (if w = 0 then playP (pg M 0) sd n.toNat 27 else playC (pg M 0) sd n.toNat) ∧ SameS M MM 188) ∨ (¬ ((1 ≤ n ∧ n ≤ 60) ∧ 0 ≤ w ∧ w ≤ 1) ∧ zz = -1 ∧ MM = M))
set_option maxRecDepth 100000 in
set_option maxHeartbeats 4000000 in
theorem c_X11_play {l : Launch} {G : va_G} {ad : Nat → Nat} {CA : Nat → ClassId} {nt : Nat} (hnt : 6 ≤ nt) (sd : Int32) (n : Int) (hn9 : in32 n) (w : Int) (hw9 : in32 w) (M : Mem) (hI : InvF (pg M 0)) (hm : pg M 0 46 ≤ 999) : Mt l yX11_play cX11_play 6 (some .int) 5 121 G ad CA nt LyM [.ref (ad 0), .int sd, .int (iN n), .int (iN w)] M (P_X11_play sd n w M) := by
  refine Mt.of (by decide) (Nat.le_of_ble_eq_true rfl) (fun p e s m args below meth c hx hb hr hml hts hown hlocks hnm hW ls hl => ?_)
  have hl : lv_has ls 6 [(0, .ref (ad 0)), (1, .int sd), (2, .int (iN n)), (3, .int (iN w))] := hl
  have hnt4 : 4 ≤ nt := by omega
  obtain ⟨H, hH⟩ : ∃ z, z = s.heap := ⟨_, rfl⟩
  obtain ⟨locs, hlo⟩ : ∃ z : List Loc, z = [] := ⟨_, rfl⟩
  rw [← hH, ← hlo] at hW ⊢
  refine lv_iload_n hx hb dX11_play_0 rfl (lv_at hl 2 rfl) ?_
  refine rw_i2l hx hb dX11_play_1 (by omega) ?_
  refine lv_lconst (v := jN 1) hx hb dX11_play_2 rfl ?_
  refine lv_ldc2 (v := 60) hx hb hown (hts _ (wm_31 _ (List.mem_of_getElem? (i := 9) rfl))) dX11_play_3 ?_
  refine rw_stk (st' := [.long (jN 60), .long (jN 1), .long (jN n)]) (by rw [show (60 : Int64) = jN 60 from by decide]) ?_
  refine rw_callS hx hb hml hts hown hW ⟨Nat.le_refl 0, Nat.le_refl 0⟩ [.long (jN n), .long (jN 1), .long (jN 60)] (c_X11_in (l := l) (G := G) (ad := ad) (CA := CA) (nt := nt) n 1 60 (by first | omega | decide) (by first | omega | decide) (by first | omega | decide) M) kX11_57 rfl ⟨Nat.le_of_ble_eq_true rfl, Nat.le_of_ble_eq_true rfl⟩ hl.1 rfl (Nat.le_of_ble_eq_true rfl) dX11_play_6 (fun v1 M2 H locs hp3 hW => ?_)
  obtain ⟨a4, rfl, hp3, hp3m⟩ := hp3
  rw [hp3m] at hW
  rcases hp3 with ⟨rfl, hp3⟩ | ⟨rfl, hp3⟩
  · refine rw_stk (st' := [.int (iN 1)]) rfl ?_
    refine rw_if_eq (tgt := 22) hx hb dX11_play_9 (by decide) (by decide) (fun c => absurd c (by decide)) (fun _ => ?_)
    refine lv_iload_n hx hb dX11_play_12 rfl (lv_at hl 3 rfl) ?_
    refine rw_i2l hx hb dX11_play_13 (by omega) ?_
    refine lv_lconst (v := jN 0) hx hb dX11_play_14 rfl ?_
    refine lv_lconst (v := jN 1) hx hb dX11_play_15 rfl ?_
    refine rw_callS hx hb hml hts hown hW ⟨Nat.le_refl 0, Nat.le_refl 0⟩ [.long (jN w), .long (jN 0), .long (jN 1)] (c_X11_in (l := l) (G := G) (ad := ad) (CA := CA) (nt := nt) w 0 1 (by first | omega | decide) (by first | omega | decide) (by first | omega | decide) M) kX11_57 rfl ⟨Nat.le_of_ble_eq_true rfl, Nat.le_of_ble_eq_true rfl⟩ hl.1 rfl (Nat.le_of_ble_eq_true rfl) dX11_play_16 (fun v5 M6 H locs hp7 hW => ?_)
    obtain ⟨a8, rfl, hp7, hp7m⟩ := hp7
    rw [hp7m] at hW
    rcases hp7 with ⟨rfl, hp7⟩ | ⟨rfl, hp7⟩
    · refine rw_stk (st' := [.int (iN 1)]) rfl ?_
      refine rw_if_ne (tgt := 24) hx hb dX11_play_19 (by decide) (by decide) (fun _ => ?_) (fun c => absurd c (by decide))
      refine lv_aload_n hx hb dX11_play_24 rfl (lv_at hl 0 rfl) ?_
      refine rw_iconst hx hb dX11_play_25 ?_
      refine rw_sipush hx hb dX11_play_26 (by decide) ?_
      refine rw_callV hx hb hml hts hown hW ⟨Nat.le_refl 0, Nat.le_refl 0⟩ [.int (iN 0), .int (iN 188)] 0 lm_0 rfl (c_X11_copies (l := l) (G := G) (ad := ad) (CA := CA) (nt := nt) (by omega) 0 188 (by first | omega | decide) (by first | omega | decide) (by first | omega | decide) M) kX11_212 rfl ⟨Nat.le_of_ble_eq_true rfl, Nat.le_of_ble_eq_true rfl⟩ hl.1 rfl (Nat.le_of_ble_eq_true rfl) dX11_play_29 (fun v9 M10 H locs hp11 hW => ?_)
      obtain ⟨rfl, hM10⟩ := hp11
      refine rw_stk (st' := []) rfl ?_
      refine lv_iload_n hx hb dX11_play_32 rfl (lv_at hl 1 rfl) ?_
      refine lv_istore (lv' := [(4, .int sd), (0, .ref (ad 0)), (1, .int sd), (2, .int (iN n)), (3, .int (iN w))]) hx hb dX11_play_33 hl (by decide) rfl (fun ls hl => ?_)
      refine rw_iconst hx hb dX11_play_35 ?_
      refine lv_istore (lv' := [(5, .int (iN 0)), (4, .int sd), (0, .ref (ad 0)), (1, .int sd), (2, .int (iN n)), (3, .int (iN w))]) hx hb dX11_play_36 hl (by decide) rfl (fun ls hl => ?_)
      have hC_38 : ∀ N : Nat, ∀ (sd2 : Int32) (went : Int) (Mx : Mem) (H : Heap) (locs : List Loc) (ls : Array Slot), (n - went).toNat < N → (0 ≤ went ∧ went ≤ n) → (InvF (pg Mx 188)) → (pg Mx 188 46 ≤ 1000 + went) → (SameS M Mx 188) → (pg Mx 188 45 = pg M 0 45) → (playP (pg Mx 188) sd2 (n - went).toNat = playP (pg M 0) sd n.toNat) → (went + playC (pg Mx 188) sd2 (n - went).toNat = playC (pg M 0) sd n.toNat) → Wo G ad CA nt LyM (wA ad LyM) s Mx H locs → lv_has ls 6 [(0, .ref (ad 0)), (2, .int (iN n)), (3, .int (iN w)), (4, .int sd2), (5, .int (iN went))] → Wf l 5 121 G ad CA nt LyM (P_X11_play sd n w M) p e s m args below meth c H locs (F0 m 38 ls []) := by
        intro N
        induction N with
        | zero => intro sd2 went Mx H locs ls hN; exact absurd hN (Nat.not_lt_zero _)
        | succ N ih38 =>
          intro sd2 went Mx H locs ls hN hw hJ hm2 hs h45 hp hcn hW hl
          have hc := hJ.1
          have hk := hJ.2.1
          have hb3 := hI.2.2.2.1
          have hb45 : Mx 1 45 = pg M 0 45 := by rw [pg_45, Int.zero_add]; exact hs.2 45 (by decide)
          refine lv_iload hx hb dX11_play_38 (lv_at hl 4 rfl) ?_
          refine lv_iload_n hx hb dX11_play_40 rfl (lv_at hl 1 rfl) ?_
          refine rw_icmp_ge (tgt := 102) hx hb dX11_play_41 (by decide) (by omega) (by omega) (fun c_41 => ?_) (fun c_41 => ?_)
          · refine lv_iload_n hx hb dX11_play_102 rfl (lv_at hl 2 rfl) ?_
            refine rw_if_ne (tgt := 116) hx hb dX11_play_103 (by decide) (by omega) (fun c_103 => ?_) (fun c_103 => ?_)
            · refine lv_iload hx hb dX11_play_116 (lv_at hl 4 rfl) ?_
              refine rw_iret hx hb hr hlocks hW dX11_play_118 (⟨went, rfl, ?_⟩)
              refine Or.inl ⟨by omega, ?_, hs⟩
              rw [if_neg (by omega), ← hcn]
              rw [show (n - went).toNat = 0 by omega, playC_0]; omega
            · refine lv_aload_n hx hb dX11_play_106 rfl (lv_at hl 0 rfl) ?_
              refine rw_sipush hx hb dX11_play_107 (by decide) ?_
              refine rw_callV hx hb hml hts hown hW ⟨Nat.le_refl 0, Nat.le_refl 0⟩ [.int (iN 188)] 0 lm_0 rfl (c_X11_keg (l := l) (G := G) (ad := ad) (CA := CA) (nt := nt) (by omega) 188 (by first | omega | decide) Mx) kX11_146 rfl ⟨Nat.le_of_ble_eq_true rfl, Nat.le_of_ble_eq_true rfl⟩ hl.1 rfl (Nat.le_of_ble_eq_true rfl) dX11_play_110 (fun v12 M13 H locs hp14 hW => ?_)
              obtain ⟨_, rfl, rfl, hp14⟩ := hp14
              rw [hp14] at hW
              refine rw_stk (st' := [.int (iN (pg Mx 188 27))]) rfl ?_
              refine lv_goto (tgt := 118) hx hb dX11_play_113 (by decide) ?_
              refine rw_iret hx hb hr hlocks hW dX11_play_118 (⟨pg Mx 188 27, rfl, ?_⟩)
              refine Or.inl ⟨by omega, ?_, hs⟩
              rw [if_pos (by omega), ← hp]
              rw [show (n - went).toNat = 0 by omega, playP_0]
          · refine lv_aload_n hx hb dX11_play_44 rfl (lv_at hl 0 rfl) ?_
            refine rw_sipush hx hb dX11_play_45 (by decide) ?_
            refine rw_callV hx hb hml hts hown hW ⟨Nat.le_refl 0, Nat.le_refl 0⟩ [.int (iN 188)] 0 lm_0 rfl (c_X11_isOver (l := l) (G := G) (ad := ad) (CA := CA) (nt := nt) (by omega) 188 (by first | omega | decide) Mx hJ) kX11_188 rfl ⟨Nat.le_of_ble_eq_true rfl, Nat.le_of_ble_eq_true rfl⟩ hl.1 rfl (Nat.le_of_ble_eq_true rfl) dX11_play_48 (fun v15 M16 H locs hp17 hW => ?_)
            obtain ⟨a18, rfl, hp17, hp17m⟩ := hp17
            rw [hp17m] at hW
            rcases hp17 with ⟨rfl, hp17⟩ | ⟨rfl, hp17⟩
            · refine rw_stk (st' := [.int (iN 1)]) rfl ?_
              refine rw_if_ne (tgt := 102) hx hb dX11_play_51 (by decide) (by decide) (fun _ => ?_) (fun c => absurd c (by decide))
              refine lv_iload_n hx hb dX11_play_102 rfl (lv_at hl 2 rfl) ?_
              refine rw_if_ne (tgt := 116) hx hb dX11_play_103 (by decide) (by omega) (fun c_103 => ?_) (fun c_103 => ?_)
              · refine lv_iload hx hb dX11_play_116 (lv_at hl 4 rfl) ?_
                refine rw_iret hx hb hr hlocks hW dX11_play_118 (⟨went, rfl, ?_⟩)
                refine Or.inl ⟨by omega, ?_, hs⟩
                rw [if_neg (by omega), ← hcn]
                rw [playC_over (by omega)]; omega
              · refine lv_aload_n hx hb dX11_play_106 rfl (lv_at hl 0 rfl) ?_
                refine rw_sipush hx hb dX11_play_107 (by decide) ?_
                refine rw_callV hx hb hml hts hown hW ⟨Nat.le_refl 0, Nat.le_refl 0⟩ [.int (iN 188)] 0 lm_0 rfl (c_X11_keg (l := l) (G := G) (ad := ad) (CA := CA) (nt := nt) (by omega) 188 (by first | omega | decide) Mx) kX11_146 rfl ⟨Nat.le_of_ble_eq_true rfl, Nat.le_of_ble_eq_true rfl⟩ hl.1 rfl (Nat.le_of_ble_eq_true rfl) dX11_play_110 (fun v19 M20 H locs hp21 hW => ?_)
                obtain ⟨_, rfl, rfl, hp21⟩ := hp21
                rw [hp21] at hW
                refine rw_stk (st' := [.int (iN (pg Mx 188 27))]) rfl ?_
                refine lv_goto (tgt := 118) hx hb dX11_play_113 (by decide) ?_
                refine rw_iret hx hb hr hlocks hW dX11_play_118 (⟨pg Mx 188 27, rfl, ?_⟩)
                refine Or.inl ⟨by omega, ?_, hs⟩
                rw [if_pos (by omega), ← hp]
                rw [playP_over (by omega)]
            · refine rw_stk (st' := [.int (iN 0)]) rfl ?_
              refine rw_if_ne (tgt := 102) hx hb dX11_play_51 (by decide) (by decide) (fun c => absurd c (by decide)) (fun _ => ?_)
              refine lv_iload hx hb dX11_play_54 (lv_at hl 3 rfl) ?_
              refine lv_ldc (v := 1103515245) hx hb hown (hts _ (wm_43 _ (List.mem_of_getElem? (i := 4) rfl))) dX11_play_56 ?_
              refine lv_imul hx hb dX11_play_58 ?_
              refine rw_sipush hx hb dX11_play_59 (by decide) ?_
              refine lv_iadd hx hb dX11_play_62 ?_
              rw [nextS_is]
              refine lv_istore (lv' := [(4, .int (nextS sd2)), (0, .ref (ad 0)), (2, .int (iN n)), (3, .int (iN w)), (5, .int (iN went))]) hx hb dX11_play_63 hl (by decide) rfl (fun ls hl => ?_)
              refine lv_aload_n hx hb dX11_play_65 rfl (lv_at hl 1 rfl) ?_
              refine lv_iload hx hb dX11_play_66 (lv_at hl 0 rfl) ?_
              refine rw_bipush hx hb dX11_play_68 (by decide) ?_
              refine lv_ishr hx hb dX11_play_70 ?_
              refine rw_sipush hx hb dX11_play_71 (by decide) ?_
              refine lv_iand hx hb dX11_play_74 ?_
              rw [drawS_is]
              obtain ⟨dv, hdi, hdr, htm, hdv⟩ := outB_ex (nextS sd2)
              rw [hdi]
              refine rw_bipush hx hb dX11_play_75 (by decide) ?_
              refine rw_irem hx hb dX11_play_77 (by omega) (by decide) (by decide) rfl ?_
              refine lv_aload_n hx hb dX11_play_78 rfl (lv_at hl 1 rfl) ?_
              refine rw_getR hx hb hts hown hW 0 lm_0 0 1 rfl fX11_7 dX11_play_79 ?_
              refine rw_bipush hx hb dX11_play_82 (by decide) ?_
              refine rw_iald hx hb hW hnt4 1 lm_1 (by omega) (by omega) (by decide) dX11_play_84 (v := (Mx 1 45)) rfl ?_
              refine rw_icmp_ge (tgt := 92) hx hb dX11_play_85 (by decide) (by omega) (by omega) (fun c_85 => ?_) (fun c_85 => ?_)
              · refine rw_iconst hx hb dX11_play_92 ?_
                refine rw_callV hx hb hml hts hown hW ⟨Nat.le_refl 0, Nat.le_refl 0⟩ [.int (iN 0)] 0 lm_0 rfl (c_X11_triesOne (l := l) (G := G) (ad := ad) (CA := CA) (nt := nt) (by omega) 0 (by first | omega | decide) Mx hJ) kX11_206 rfl ⟨Nat.le_of_ble_eq_true rfl, Nat.le_of_ble_eq_true rfl⟩ hl.1 rfl (Nat.le_of_ble_eq_true rfl) dX11_play_93 (fun v22 M23 H locs hp24 hW => ?_)
                obtain ⟨rfl, hM23⟩ := hp24
                refine rw_stk (st' := []) rfl ?_
                refine rw_iinc (lv' := [(5, .int (iN (went + 1))), (4, .int (nextS sd2)), (0, .ref (ad 0)), (2, .int (iN n)), (3, .int (iN w))]) hx hb dX11_play_96 hl (k := 4) rfl (by decide) rfl (fun ls hl => ?_)
                refine lv_goto (tgt := 38) hx hb dX11_play_99 (by decide) ?_
                exact ih38 (nextS sd2) (went + 1) M23 H locs ls (by omega) (by omega) (by rw [hM23.1]; exact passCap_inv hJ (by omega) _) (by rw [hM23.1]; have := (passCap_min (pg Mx 188) 0).1; omega) (hs.trans hM23.2) (by rw [hM23.1, passCap_45, h45]) (by rw [hM23.1, ← hp, show (n - went).toNat = (n - (went + 1)).toNat + 1 by omega, playP_step (by omega) (by rw [hdv, h45, ← hb45, if_neg (by omega)])]) (by rw [hM23.1, ← hcn, show (n - went).toNat = (n - (went + 1)).toNat + 1 by omega, playC_step (by omega) (by rw [hdv, h45, ← hb45, if_neg (by omega)])]; omega) hW (lv_sub hl [2, 3, 4, 1, 0] rfl)
              · refine rw_iconst hx hb dX11_play_88 ?_
                refine lv_goto (tgt := 93) hx hb dX11_play_89 (by decide) ?_
                refine rw_callV hx hb hml hts hown hW ⟨Nat.le_refl 0, Nat.le_refl 0⟩ [.int (iN 1)] 0 lm_0 rfl (c_X11_triesOne (l := l) (G := G) (ad := ad) (CA := CA) (nt := nt) (by omega) 1 (by first | omega | decide) Mx hJ) kX11_206 rfl ⟨Nat.le_of_ble_eq_true rfl, Nat.le_of_ble_eq_true rfl⟩ hl.1 rfl (Nat.le_of_ble_eq_true rfl) dX11_play_93 (fun v25 M26 H locs hp27 hW => ?_)
                obtain ⟨rfl, hM26⟩ := hp27
                refine rw_stk (st' := []) rfl ?_
                refine rw_iinc (lv' := [(5, .int (iN (went + 1))), (4, .int (nextS sd2)), (0, .ref (ad 0)), (2, .int (iN n)), (3, .int (iN w))]) hx hb dX11_play_96 hl (k := 4) rfl (by decide) rfl (fun ls hl => ?_)
                refine lv_goto (tgt := 38) hx hb dX11_play_99 (by decide) ?_
                exact ih38 (nextS sd2) (went + 1) M26 H locs ls (by omega) (by omega) (by rw [hM26.1]; exact passCap_inv hJ (by omega) _) (by rw [hM26.1]; have := (passCap_min (pg Mx 188) 1).1; omega) (hs.trans hM26.2) (by rw [hM26.1, passCap_45, h45]) (by rw [hM26.1, ← hp, show (n - went).toNat = (n - (went + 1)).toNat + 1 by omega, playP_step (by omega) (by rw [hdv, h45, ← hb45, if_pos (by omega)])]) (by rw [hM26.1, ← hcn, show (n - went).toNat = (n - (went + 1)).toNat + 1 by omega, playC_step (by omega) (by rw [hdv, h45, ← hb45, if_pos (by omega)])]; omega) hW (lv_sub hl [2, 3, 4, 1, 0] rfl)
      exact hC_38 _ sd 0 M10 H locs ls (Nat.lt_succ_self _) (by omega) (by rw [hM10.1]; exact hI) (by rw [hM10.1]; omega) hM10.2 (by rw [hM10.1]) (by rw [hM10.1, Int.sub_zero]) (by rw [hM10.1, Int.sub_zero, Int.zero_add]) hW (lv_sub hl [2, 4, 5, 1, 0] rfl)
    · refine rw_stk (st' := [.int (iN 0)]) rfl ?_
      refine rw_if_ne (tgt := 24) hx hb dX11_play_19 (by decide) (by decide) (fun c => absurd c (by decide)) (fun _ => ?_)
      refine rw_iconst hx hb dX11_play_22 ?_
      refine rw_iret hx hb hr hlocks hW dX11_play_23 (⟨(-1), rfl, ?_⟩)
      exact Or.inr ⟨by omega, rfl, rfl⟩
  · refine rw_stk (st' := [.int (iN 0)]) rfl ?_
    refine rw_if_eq (tgt := 22) hx hb dX11_play_9 (by decide) (by decide) (fun _ => ?_) (fun c => absurd (by decide) c)
    refine rw_iconst hx hb dX11_play_22 ?_
    refine rw_iret hx hb hr hlocks hW dX11_play_23 (⟨(-1), rfl, ?_⟩)
    exact Or.inr ⟨by omega, rfl, rfl⟩
