abbrev P_X11_triesNumbers (sx : Int) (n : Int) (M : Mem) : Option Value → Mem → Prop := oI (fun zz MM => BP (canN sx n.toNat 0 (pg M 0) (M 7)) zz ∧ (canN sx n.toNat 0 (pg M 0) (M 7) → pg MM 188 = endN sx n.toNat 0 (pg M 0) (M 7)) ∧ SameS M MM 188)
set_option maxRecDepth 100000 in
set_option maxHeartbeats 4000000 in
theorem c_X11_triesNumbers {l : Launch} {G : va_G} {ad : Nat → Nat} {CA : Nat → ClassId} {nt : Nat} (hnt : 6 ≤ nt) (sx : Int) (hs : sx = 0 ∨ sx = 1) (n : Int) (hn : 1 ≤ n ∧ n ≤ 4) (M : Mem) (hnum : ∀ j, 0 ≤ j → j < n → 0 ≤ M 7 j ∧ M 7 j ≤ 12) (hI : InvF (pg M 0)) (hm : pg M 0 46 ≤ 999) : Mt l yX11_triesNumbers cX11_triesNumbers 6 (some .boolean) 4 99 G ad CA nt LyM [.ref (ad 0), .int (iN sx), .int (iN n)] M (P_X11_triesNumbers sx n M) := by
  refine Mt.of (by decide) (Nat.le_of_ble_eq_true rfl) (fun p e s m args below meth c hx hb hr hml hts hown hlocks hnm hW ls hl => ?_)
  have hl : lv_has ls 6 [(0, .ref (ad 0)), (1, .int (iN sx)), (2, .int (iN n))] := hl
  have hnt4 : 4 ≤ nt := by omega
  obtain ⟨H, hH⟩ : ∃ z, z = s.heap := ⟨_, rfl⟩
  obtain ⟨locs, hlo⟩ : ∃ z : List Loc, z = [] := ⟨_, rfl⟩
  rw [← hH, ← hlo] at hW ⊢
  rcases hs with rfl | rfl
  · have hC_13 : ∀ N : Nat, ∀ (b : Int) (t : Int) (Mx : Mem) (H : Heap) (locs : List Loc) (ls : Array Slot), (n - t).toNat < N → (0 ≤ t ∧ t ≤ n) → (b = 0 ∨ b = 1) → (SameS M Mx 188) → (InvF (pg Mx 188) ∧ pg Mx 188 46 ≤ 999 + t) → (b = 1 → (canN 0 (n - t).toNat t (pg Mx 188) (M 7) ↔ canN 0 n.toNat 0 (pg M 0) (M 7)) ∧ endN 0 (n - t).toNat t (pg Mx 188) (M 7) = endN 0 n.toNat 0 (pg M 0) (M 7)) → (b = 0 → ¬ canN 0 n.toNat 0 (pg M 0) (M 7)) → Wo G ad CA nt LyM (wA ad LyM) s Mx H locs → lv_has ls 6 [(0, .ref (ad 0)), (1, .int (iN 0)), (2, .int (iN n)), (3, .int (iN b)), (4, .int (iN t))] → Wf l 4 99 G ad CA nt LyM (P_X11_triesNumbers 0 n M) p e s m args below meth c H locs (F0 m 13 ls []) := by
      intro N
      induction N with
      | zero => intro b t Mx H locs ls hN; exact absurd hN (Nat.not_lt_zero _)
      | succ N ih13 =>
        intro b t Mx H locs ls hN ht hb01 hs hJ hgo hno hW hl
        have hI := hJ.1
        have hc := hI.1
        have hk := hI.2.1
        have h47 : pg Mx 188 47 = Mx 0 1 := rfl
        have hrr := hI.2.2.1
        have hm := hI.2.2.2.2.1
        have hz0 := InvF.sd _ hI (s := 0) (Or.inl rfl)
        have hz1 := InvF.sd _ hI (s := 1) (Or.inr rfl)
        have hf0 := hz0.1
        have hf1 := hz1.1
        have hq0 := hz0.2.2.2.2.2
        have hq1 := hz1.2.2.2.2.2
        have hg0 := hz0.2.1
        have hg1 := hz1.2.1
        have hg2 := hz0.2.2.1
        have hg3 := hz1.2.2.1
        have hg4 := hz0.2.2.2.1
        have hg5 := hz1.2.2.2.1
        have hg6 := hz0.2.2.2.2.1
        have hg7 := hz1.2.2.2.2.1
        have h7 : Mx 7 = M 7 := hs.1 7 (by decide)
        have hs0 := sentF_rng hI (s := 0) (Or.inl rfl)
        have hs1 := sentF_rng hI (s := 1) (Or.inr rfl)
        refine lv_iload hx hb dX11_triesNumbers_13 (lv_at hl 4 rfl) ?_
        refine lv_iload_n hx hb dX11_triesNumbers_15 rfl (lv_at hl 2 rfl) ?_
        refine rw_icmp_ge (tgt := 139) hx hb dX11_triesNumbers_16 (by decide) (by omega) (by omega) (fun c_16 => ?_) (fun c_16 => ?_)
        · refine lv_iload_n hx hb dX11_triesNumbers_139 rfl (lv_at hl 3 rfl) ?_
          refine rw_zret hx hb hr hlocks hW dX11_triesNumbers_140 (by omega) (⟨b, rfl, ?_⟩)
          rcases hb01 with e | e
          · exact ⟨by rw [e]; exact BP.f (hno e), fun z => absurd z (hno e), hs⟩
          · obtain ⟨hgo1, hgo2⟩ := hgo e
            rw [show (n - t).toNat = 0 by omega] at hgo1 hgo2
            exact ⟨by rw [e]; exact BP.t (hgo1.1 trivial), fun _ => hgo2, hs⟩
        · refine lv_iload_n hx hb dX11_triesNumbers_19 rfl (lv_at hl 3 rfl) ?_
          refine rw_if_eq (tgt := 139) hx hb dX11_triesNumbers_20 (by decide) (by omega) (fun c_20 => ?_) (fun c_20 => ?_)
          · refine lv_iload_n hx hb dX11_triesNumbers_139 rfl (lv_at hl 3 rfl) ?_
            refine rw_zret hx hb hr hlocks hW dX11_triesNumbers_140 (by omega) (⟨b, rfl, ?_⟩)
            have e : b = 0 := by omega
            exact ⟨by rw [e]; exact BP.f (hno e), fun z => absurd z (hno e), hs⟩
          · obtain ⟨hgo1, hgo2⟩ := hgo (by omega)
            have hn7 := hnum t (by omega) (by omega)
            rw [← h7] at hn7
            refine lv_aload_n hx hb dX11_triesNumbers_23 rfl (lv_at hl 0 rfl) ?_
            refine rw_sipush hx hb dX11_triesNumbers_24 (by decide) ?_
            refine rw_callV hx hb hml hts hown hW ⟨Nat.le_refl 0, Nat.le_refl 0⟩ [.int (iN 188)] 0 lm_0 rfl (c_X11_isOver (l := l) (G := G) (ad := ad) (CA := CA) (nt := nt) (by omega) 188 (by first | omega | decide) Mx hI) kX11_188 rfl ⟨Nat.le_of_ble_eq_true rfl, Nat.le_of_ble_eq_true rfl⟩ hl.1 rfl (Nat.le_of_ble_eq_true rfl) dX11_triesNumbers_27 (fun v1 M2 H locs hp3 hW => ?_)
            obtain ⟨a4, rfl, hp3, hp3m⟩ := hp3
            rw [hp3m] at hW
            rcases hp3 with ⟨rfl, hp3⟩ | ⟨rfl, hp3⟩
            · refine rw_stk (st' := [.int (iN 1)]) rfl ?_
              refine rw_if_eq (tgt := 52) hx hb dX11_triesNumbers_30 (by decide) (by decide) (fun c => absurd c (by decide)) (fun _ => ?_)
              have hmo : mostF (pg Mx 188) 0 = 0 := by unfold mostF; rw [if_pos (by omega)]
              have hps : ∀ v, passBut (pg Mx 188) 0 v = pg Mx 188 := fun v => by unfold passBut; rw [if_pos (by omega)]
              refine lv_aload_n hx hb dX11_triesNumbers_33 rfl (lv_at hl 0 rfl) ?_
              refine rw_getR hx hb hts hown hW 0 lm_0 19 7 rfl fX11_32 dX11_triesNumbers_34 ?_
              refine lv_iload hx hb dX11_triesNumbers_37 (lv_at hl 4 rfl) ?_
              refine rw_iald hx hb hW hnt4 7 lm_7 (by omega) (by omega) (by decide) dX11_triesNumbers_39 (v := (Mx 7 t)) rfl ?_
              refine rw_if_ne (tgt := 47) hx hb dX11_triesNumbers_40 (by decide) (by omega) (fun c_40 => ?_) (fun c_40 => ?_)
              · refine rw_iconst hx hb dX11_triesNumbers_47 ?_
                refine lv_istore_n (lv' := [(3, .int (iN 0)), (0, .ref (ad 0)), (1, .int (iN 0)), (2, .int (iN n)), (4, .int (iN t))]) hx hb dX11_triesNumbers_48 rfl hl (by decide) rfl (fun ls hl => ?_)
                refine lv_goto (tgt := 133) hx hb dX11_triesNumbers_49 (by decide) ?_
                refine rw_iinc (lv' := [(4, .int (iN (t + 1))), (3, .int (iN 0)), (0, .ref (ad 0)), (1, .int (iN 0)), (2, .int (iN n))]) hx hb dX11_triesNumbers_133 hl (k := 4) rfl (by decide) rfl (fun ls hl => ?_)
                refine lv_goto (tgt := 13) hx hb dX11_triesNumbers_136 (by decide) ?_
                exact ih13 0 (t + 1) Mx H locs ls (by omega) (by omega) (by omega) hs ⟨hJ.1, by omega⟩ (fun z => absurd z (by decide)) (fun _ z => by rw [← hgo1, show (n - t).toNat = (n - (t + 1)).toNat + 1 by omega, canN_S, ← h7, hmo] at z; have := z.1; omega) hW (lv_sub hl [2, 3, 4, 1, 0] rfl)
              · refine rw_iconst hx hb dX11_triesNumbers_43 ?_
                refine lv_goto (tgt := 48) hx hb dX11_triesNumbers_44 (by decide) ?_
                refine lv_istore_n (lv' := [(3, .int (iN 1)), (0, .ref (ad 0)), (1, .int (iN 0)), (2, .int (iN n)), (4, .int (iN t))]) hx hb dX11_triesNumbers_48 rfl hl (by decide) rfl (fun ls hl => ?_)
                refine lv_goto (tgt := 133) hx hb dX11_triesNumbers_49 (by decide) ?_
                refine rw_iinc (lv' := [(4, .int (iN (t + 1))), (3, .int (iN 1)), (0, .ref (ad 0)), (1, .int (iN 0)), (2, .int (iN n))]) hx hb dX11_triesNumbers_133 hl (k := 4) rfl (by decide) rfl (fun ls hl => ?_)
                refine lv_goto (tgt := 13) hx hb dX11_triesNumbers_136 (by decide) ?_
                exact ih13 1 (t + 1) Mx H locs ls (by omega) (by omega) (by omega) hs ⟨hJ.1, by omega⟩ (fun _ => by have hst : (n - t).toNat = (n - (t + 1)).toNat + 1 := (by omega); rw [← hgo1, ← hgo2, hst, canN_S, endN_S, ← h7, show Mx 7 t = 0 by omega, hps 0, hmo]; exact ⟨⟨fun z => ⟨Int.le_refl 0, z⟩, fun z => z.2⟩, rfl⟩) (fun z => absurd z (by decide)) hW (lv_sub hl [2, 3, 4, 1, 0] rfl)
            · refine rw_stk (st' := [.int (iN 0)]) rfl ?_
              refine rw_if_eq (tgt := 52) hx hb dX11_triesNumbers_30 (by decide) (by decide) (fun _ => ?_) (fun c => absurd (by decide) c)
              have hmo : mostF (pg Mx 188) 0 = sdF (pg Mx 188) 0 0 := by unfold mostF; rw [if_neg (by omega)]
              have hps : ∀ v, passBut (pg Mx 188) 0 v = passF (pg Mx 188) v (sentF (pg Mx 188) 1) 0 := fun v => by unfold passBut; rw [if_neg (by omega), if_pos rfl]
              refine lv_aload_n hx hb dX11_triesNumbers_52 rfl (lv_at hl 0 rfl) ?_
              refine rw_getR hx hb hts hown hW 0 lm_0 19 7 rfl fX11_32 dX11_triesNumbers_53 ?_
              refine lv_iload hx hb dX11_triesNumbers_56 (lv_at hl 4 rfl) ?_
              refine rw_iald hx hb hW hnt4 7 lm_7 (by omega) (by omega) (by decide) dX11_triesNumbers_58 (v := (Mx 7 t)) rfl ?_
              refine lv_aload_n hx hb dX11_triesNumbers_59 rfl (lv_at hl 0 rfl) ?_
              refine rw_sipush hx hb dX11_triesNumbers_60 (by decide) ?_
              refine lv_iload_n hx hb dX11_triesNumbers_63 rfl (lv_at hl 1 rfl) ?_
              refine rw_iconst hx hb dX11_triesNumbers_64 ?_
              refine rw_callV hx hb hml hts hown hW ⟨Nat.le_refl 0, Nat.le_refl 0⟩ [.int (iN 188), .int (iN 0), .int (iN 0)] 0 lm_0 rfl (c_X11_ofSide (l := l) (G := G) (ad := ad) (CA := CA) (nt := nt) (by omega) 188 (by first | omega | decide) 0 (by first | omega | decide) 0 (by first | omega | decide) Mx) kX11_156 rfl ⟨Nat.le_of_ble_eq_true rfl, Nat.le_of_ble_eq_true rfl⟩ hl.1 rfl (Nat.le_of_ble_eq_true rfl) dX11_triesNumbers_65 (fun v5 M6 H locs hp7 hW => ?_)
              obtain ⟨_, rfl, rfl, hp7⟩ := hp7
              rw [hp7] at hW
              refine rw_stk (st' := [.int (iN (sdF (pg Mx 188) 0 0)), .int (iN (Mx 7 t))]) rfl ?_
              refine rw_icmp_gt (tgt := 75) hx hb dX11_triesNumbers_68 (by decide) (by omega) (by omega) (fun c_68 => ?_) (fun c_68 => ?_)
              · refine rw_iconst hx hb dX11_triesNumbers_75 ?_
                refine lv_istore_n (lv' := [(3, .int (iN 0)), (0, .ref (ad 0)), (1, .int (iN 0)), (2, .int (iN n)), (4, .int (iN t))]) hx hb dX11_triesNumbers_76 rfl hl (by decide) rfl (fun ls hl => ?_)
                refine lv_aload_n hx hb dX11_triesNumbers_77 rfl (lv_at hl 1 rfl) ?_
                refine rw_sipush hx hb dX11_triesNumbers_78 (by decide) ?_
                refine rw_iconst hx hb dX11_triesNumbers_81 ?_
                refine lv_iload_n hx hb dX11_triesNumbers_82 rfl (lv_at hl 2 rfl) ?_
                refine rw_isub hx hb dX11_triesNumbers_83 ?_
                refine rw_stk (st' := [.int (iN 1), .int (iN 188), .ref (ad 0)]) rfl ?_
                refine rw_callV hx hb hml hts hown hW ⟨Nat.le_refl 0, Nat.le_refl 0⟩ [.int (iN 188), .int (iN 1)] 0 lm_0 rfl (c_X11_sentBy (l := l) (G := G) (ad := ad) (CA := CA) (nt := nt) (by omega) 188 (by first | omega | decide) 1 (by first | omega | decide) Mx hI) kX11_191 rfl ⟨Nat.le_of_ble_eq_true rfl, Nat.le_of_ble_eq_true rfl⟩ hl.1 rfl (Nat.le_of_ble_eq_true rfl) dX11_triesNumbers_84 (fun v8 M9 H locs hp10 hW => ?_)
                obtain ⟨_, rfl, rfl, hp10⟩ := hp10
                rw [hp10] at hW
                refine rw_stk (st' := [.int (iN (sentF (pg Mx 188) 1))]) rfl ?_
                refine lv_istore (lv' := [(5, .int (iN (sentF (pg Mx 188) 1))), (3, .int (iN 0)), (0, .ref (ad 0)), (1, .int (iN 0)), (2, .int (iN n)), (4, .int (iN t))]) hx hb dX11_triesNumbers_87 hl (by decide) rfl (fun ls hl => ?_)
                refine lv_iload_n hx hb dX11_triesNumbers_89 rfl (lv_at hl 1 rfl) ?_
                refine rw_if_eq (tgt := 133) hx hb dX11_triesNumbers_90 (by decide) (by decide) (fun _ => ?_) (fun c => absurd (by decide) c)
                refine rw_iinc (lv' := [(4, .int (iN (t + 1))), (5, .int (iN (sentF (pg Mx 188) 1))), (3, .int (iN 0)), (0, .ref (ad 0)), (1, .int (iN 0)), (2, .int (iN n))]) hx hb dX11_triesNumbers_133 hl (k := 5) rfl (by decide) rfl (fun ls hl => ?_)
                refine lv_goto (tgt := 13) hx hb dX11_triesNumbers_136 (by decide) ?_
                exact ih13 0 (t + 1) Mx H locs ls (by omega) (by omega) (by omega) hs ⟨hJ.1, by omega⟩ (fun z => absurd z (by decide)) (fun _ z => by rw [← hgo1, show (n - t).toNat = (n - (t + 1)).toNat + 1 by omega, canN_S, ← h7, hmo] at z; have := z.1; omega) hW (lv_sub hl [3, 4, 5, 2, 0] rfl)
              · refine rw_iconst hx hb dX11_triesNumbers_71 ?_
                refine lv_goto (tgt := 76) hx hb dX11_triesNumbers_72 (by decide) ?_
                refine lv_istore_n (lv' := [(3, .int (iN 1)), (0, .ref (ad 0)), (1, .int (iN 0)), (2, .int (iN n)), (4, .int (iN t))]) hx hb dX11_triesNumbers_76 rfl hl (by decide) rfl (fun ls hl => ?_)
                refine lv_aload_n hx hb dX11_triesNumbers_77 rfl (lv_at hl 1 rfl) ?_
                refine rw_sipush hx hb dX11_triesNumbers_78 (by decide) ?_
                refine rw_iconst hx hb dX11_triesNumbers_81 ?_
                refine lv_iload_n hx hb dX11_triesNumbers_82 rfl (lv_at hl 2 rfl) ?_
                refine rw_isub hx hb dX11_triesNumbers_83 ?_
                refine rw_stk (st' := [.int (iN 1), .int (iN 188), .ref (ad 0)]) rfl ?_
                refine rw_callV hx hb hml hts hown hW ⟨Nat.le_refl 0, Nat.le_refl 0⟩ [.int (iN 188), .int (iN 1)] 0 lm_0 rfl (c_X11_sentBy (l := l) (G := G) (ad := ad) (CA := CA) (nt := nt) (by omega) 188 (by first | omega | decide) 1 (by first | omega | decide) Mx hI) kX11_191 rfl ⟨Nat.le_of_ble_eq_true rfl, Nat.le_of_ble_eq_true rfl⟩ hl.1 rfl (Nat.le_of_ble_eq_true rfl) dX11_triesNumbers_84 (fun v11 M12 H locs hp13 hW => ?_)
                obtain ⟨_, rfl, rfl, hp13⟩ := hp13
                rw [hp13] at hW
                refine rw_stk (st' := [.int (iN (sentF (pg Mx 188) 1))]) rfl ?_
                refine lv_istore (lv' := [(5, .int (iN (sentF (pg Mx 188) 1))), (3, .int (iN 1)), (0, .ref (ad 0)), (1, .int (iN 0)), (2, .int (iN n)), (4, .int (iN t))]) hx hb dX11_triesNumbers_87 hl (by decide) rfl (fun ls hl => ?_)
                refine lv_iload_n hx hb dX11_triesNumbers_89 rfl (lv_at hl 1 rfl) ?_
                refine rw_if_eq (tgt := 133) hx hb dX11_triesNumbers_90 (by decide) (by decide) (fun c => absurd c (by decide)) (fun _ => ?_)
                refine lv_aload_n hx hb dX11_triesNumbers_93 rfl (lv_at hl 2 rfl) ?_
                refine rw_sipush hx hb dX11_triesNumbers_94 (by decide) ?_
                refine lv_iload_n hx hb dX11_triesNumbers_97 rfl (lv_at hl 3 rfl) ?_
                refine rw_if_ne (tgt := 111) hx hb dX11_triesNumbers_98 (by decide) (by decide) (fun c => absurd c (by decide)) (fun _ => ?_)
                refine lv_aload_n hx hb dX11_triesNumbers_101 rfl (lv_at hl 2 rfl) ?_
                refine rw_getR hx hb hts hown hW 0 lm_0 19 7 rfl fX11_32 dX11_triesNumbers_102 ?_
                refine lv_iload hx hb dX11_triesNumbers_105 (lv_at hl 5 rfl) ?_
                refine rw_iald hx hb hW hnt4 7 lm_7 (by omega) (by omega) (by decide) dX11_triesNumbers_107 (v := (Mx 7 t)) rfl ?_
                refine lv_goto (tgt := 113) hx hb dX11_triesNumbers_108 (by decide) ?_
                refine lv_iload_n hx hb dX11_triesNumbers_113 rfl (lv_at hl 3 rfl) ?_
                refine rw_if_ne (tgt := 122) hx hb dX11_triesNumbers_114 (by decide) (by decide) (fun c => absurd c (by decide)) (fun _ => ?_)
                refine lv_iload hx hb dX11_triesNumbers_117 (lv_at hl 0 rfl) ?_
                refine lv_goto (tgt := 129) hx hb dX11_triesNumbers_119 (by decide) ?_
                refine rw_iconst hx hb dX11_triesNumbers_129 ?_
                refine rw_callV hx hb hml hts hown hW ⟨Nat.le_refl 0, Nat.le_refl 0⟩ [.int (iN 188), .int (iN (Mx 7 t)), .int (iN (sentF (pg Mx 188) 1)), .int (iN 0)] 0 lm_0 rfl (c_X11_minutes (l := l) (G := G) (ad := ad) (CA := CA) (nt := nt) (by omega) 188 (by first | omega | decide) (Mx 7 t) (sentF (pg Mx 188) 1) 0 (by first | omega | decide) Mx hI (by first | omega | decide) (by first | omega | decide) (by first | omega | decide)) kX11_198 rfl ⟨Nat.le_of_ble_eq_true rfl, Nat.le_of_ble_eq_true rfl⟩ hl.1 rfl (Nat.le_of_ble_eq_true rfl) dX11_triesNumbers_130 (fun v14 M15 H locs hp16 hW => ?_)
                obtain ⟨rfl, hM15⟩ := hp16
                refine rw_stk (st' := []) rfl ?_
                refine rw_iinc (lv' := [(4, .int (iN (t + 1))), (5, .int (iN (sentF (pg Mx 188) 1))), (3, .int (iN 1)), (0, .ref (ad 0)), (1, .int (iN 0)), (2, .int (iN n))]) hx hb dX11_triesNumbers_133 hl (k := 5) rfl (by decide) rfl (fun ls hl => ?_)
                refine lv_goto (tgt := 13) hx hb dX11_triesNumbers_136 (by decide) ?_
                exact ih13 1 (t + 1) M15 H locs ls (by omega) (by omega) (by omega) (hs.trans hM15.2) (by rw [hM15.1, ← hps (Mx 7 t)]; exact ⟨passBut_inv hJ.1 (by omega) (by decide) (by omega), by have := passBut_min (pg Mx 188) 0 (Mx 7 t); omega⟩) (fun _ => by have hst : (n - t).toNat = (n - (t + 1)).toNat + 1 := (by omega); rw [← hgo1, ← hgo2, hst, canN_S, endN_S, ← h7, hM15.1, ← hps (Mx 7 t), hmo]; exact ⟨⟨fun z => ⟨by omega, z⟩, fun z => z.2⟩, rfl⟩) (fun z => absurd z (by decide)) hW (lv_sub hl [3, 4, 5, 2, 0] rfl)
    refine lv_aload_n hx hb dX11_triesNumbers_0 rfl (lv_at hl 0 rfl) ?_
    refine rw_iconst hx hb dX11_triesNumbers_1 ?_
    refine rw_sipush hx hb dX11_triesNumbers_2 (by decide) ?_
    refine rw_callV hx hb hml hts hown hW ⟨Nat.le_refl 0, Nat.le_refl 0⟩ [.int (iN 0), .int (iN 188)] 0 lm_0 rfl (c_X11_copies (l := l) (G := G) (ad := ad) (CA := CA) (nt := nt) (by omega) 0 188 (by first | omega | decide) (by first | omega | decide) (by first | omega | decide) M) kX11_212 rfl ⟨Nat.le_of_ble_eq_true rfl, Nat.le_of_ble_eq_true rfl⟩ hl.1 rfl (Nat.le_of_ble_eq_true rfl) dX11_triesNumbers_5 (fun v17 M18 H locs hp19 hW => ?_)
    obtain ⟨rfl, hM18⟩ := hp19
    refine rw_stk (st' := []) rfl ?_
    refine rw_iconst hx hb dX11_triesNumbers_8 ?_
    refine lv_istore_n (lv' := [(3, .int (iN 1)), (0, .ref (ad 0)), (1, .int (iN 0)), (2, .int (iN n))]) hx hb dX11_triesNumbers_9 rfl hl (by decide) rfl (fun ls hl => ?_)
    refine rw_iconst hx hb dX11_triesNumbers_10 ?_
    refine lv_istore (lv' := [(4, .int (iN 0)), (3, .int (iN 1)), (0, .ref (ad 0)), (1, .int (iN 0)), (2, .int (iN n))]) hx hb dX11_triesNumbers_11 hl (by decide) rfl (fun ls hl => ?_)
    exact hC_13 _ 1 0 M18 H locs ls (Nat.lt_succ_self _) (by omega) (by omega) hM18.2 (by rw [hM18.1]; exact ⟨hI, by omega⟩) (fun _ => ⟨by rw [hM18.1, Int.sub_zero], by rw [hM18.1, Int.sub_zero]⟩) (fun z => absurd z (by decide)) hW (lv_sub hl [2, 3, 4, 1, 0] rfl)
  · have hC_13 : ∀ N : Nat, ∀ (b : Int) (t : Int) (Mx : Mem) (H : Heap) (locs : List Loc) (ls : Array Slot), (n - t).toNat < N → (0 ≤ t ∧ t ≤ n) → (b = 0 ∨ b = 1) → (SameS M Mx 188) → (InvF (pg Mx 188) ∧ pg Mx 188 46 ≤ 999 + t) → (b = 1 → (canN 1 (n - t).toNat t (pg Mx 188) (M 7) ↔ canN 1 n.toNat 0 (pg M 0) (M 7)) ∧ endN 1 (n - t).toNat t (pg Mx 188) (M 7) = endN 1 n.toNat 0 (pg M 0) (M 7)) → (b = 0 → ¬ canN 1 n.toNat 0 (pg M 0) (M 7)) → Wo G ad CA nt LyM (wA ad LyM) s Mx H locs → lv_has ls 6 [(0, .ref (ad 0)), (1, .int (iN 1)), (2, .int (iN n)), (3, .int (iN b)), (4, .int (iN t))] → Wf l 4 99 G ad CA nt LyM (P_X11_triesNumbers 1 n M) p e s m args below meth c H locs (F0 m 13 ls []) := by
      intro N
      induction N with
      | zero => intro b t Mx H locs ls hN; exact absurd hN (Nat.not_lt_zero _)
      | succ N ih13 =>
        intro b t Mx H locs ls hN ht hb01 hs hJ hgo hno hW hl
        have hI := hJ.1
        have hc := hI.1
        have hk := hI.2.1
        have h47 : pg Mx 188 47 = Mx 0 1 := rfl
        have hrr := hI.2.2.1
        have hm := hI.2.2.2.2.1
        have hz0 := InvF.sd _ hI (s := 0) (Or.inl rfl)
        have hz1 := InvF.sd _ hI (s := 1) (Or.inr rfl)
        have hf0 := hz0.1
        have hf1 := hz1.1
        have hq0 := hz0.2.2.2.2.2
        have hq1 := hz1.2.2.2.2.2
        have hg0 := hz0.2.1
        have hg1 := hz1.2.1
        have hg2 := hz0.2.2.1
        have hg3 := hz1.2.2.1
        have hg4 := hz0.2.2.2.1
        have hg5 := hz1.2.2.2.1
        have hg6 := hz0.2.2.2.2.1
        have hg7 := hz1.2.2.2.2.1
        have h7 : Mx 7 = M 7 := hs.1 7 (by decide)
        have hs0 := sentF_rng hI (s := 0) (Or.inl rfl)
        have hs1 := sentF_rng hI (s := 1) (Or.inr rfl)
        refine lv_iload hx hb dX11_triesNumbers_13 (lv_at hl 4 rfl) ?_
        refine lv_iload_n hx hb dX11_triesNumbers_15 rfl (lv_at hl 2 rfl) ?_
        refine rw_icmp_ge (tgt := 139) hx hb dX11_triesNumbers_16 (by decide) (by omega) (by omega) (fun c_16 => ?_) (fun c_16 => ?_)
        · refine lv_iload_n hx hb dX11_triesNumbers_139 rfl (lv_at hl 3 rfl) ?_
          refine rw_zret hx hb hr hlocks hW dX11_triesNumbers_140 (by omega) (⟨b, rfl, ?_⟩)
          rcases hb01 with e | e
          · exact ⟨by rw [e]; exact BP.f (hno e), fun z => absurd z (hno e), hs⟩
          · obtain ⟨hgo1, hgo2⟩ := hgo e
            rw [show (n - t).toNat = 0 by omega] at hgo1 hgo2
            exact ⟨by rw [e]; exact BP.t (hgo1.1 trivial), fun _ => hgo2, hs⟩
        · refine lv_iload_n hx hb dX11_triesNumbers_19 rfl (lv_at hl 3 rfl) ?_
          refine rw_if_eq (tgt := 139) hx hb dX11_triesNumbers_20 (by decide) (by omega) (fun c_20 => ?_) (fun c_20 => ?_)
          · refine lv_iload_n hx hb dX11_triesNumbers_139 rfl (lv_at hl 3 rfl) ?_
            refine rw_zret hx hb hr hlocks hW dX11_triesNumbers_140 (by omega) (⟨b, rfl, ?_⟩)
            have e : b = 0 := by omega
            exact ⟨by rw [e]; exact BP.f (hno e), fun z => absurd z (hno e), hs⟩
          · obtain ⟨hgo1, hgo2⟩ := hgo (by omega)
            have hn7 := hnum t (by omega) (by omega)
            rw [← h7] at hn7
            refine lv_aload_n hx hb dX11_triesNumbers_23 rfl (lv_at hl 0 rfl) ?_
            refine rw_sipush hx hb dX11_triesNumbers_24 (by decide) ?_
            refine rw_callV hx hb hml hts hown hW ⟨Nat.le_refl 0, Nat.le_refl 0⟩ [.int (iN 188)] 0 lm_0 rfl (c_X11_isOver (l := l) (G := G) (ad := ad) (CA := CA) (nt := nt) (by omega) 188 (by first | omega | decide) Mx hI) kX11_188 rfl ⟨Nat.le_of_ble_eq_true rfl, Nat.le_of_ble_eq_true rfl⟩ hl.1 rfl (Nat.le_of_ble_eq_true rfl) dX11_triesNumbers_27 (fun v20 M21 H locs hp22 hW => ?_)
            obtain ⟨a23, rfl, hp22, hp22m⟩ := hp22
            rw [hp22m] at hW
            rcases hp22 with ⟨rfl, hp22⟩ | ⟨rfl, hp22⟩
            · refine rw_stk (st' := [.int (iN 1)]) rfl ?_
              refine rw_if_eq (tgt := 52) hx hb dX11_triesNumbers_30 (by decide) (by decide) (fun c => absurd c (by decide)) (fun _ => ?_)
              have hmo : mostF (pg Mx 188) 1 = 0 := by unfold mostF; rw [if_pos (by omega)]
              have hps : ∀ v, passBut (pg Mx 188) 1 v = pg Mx 188 := fun v => by unfold passBut; rw [if_pos (by omega)]
              refine lv_aload_n hx hb dX11_triesNumbers_33 rfl (lv_at hl 0 rfl) ?_
              refine rw_getR hx hb hts hown hW 0 lm_0 19 7 rfl fX11_32 dX11_triesNumbers_34 ?_
              refine lv_iload hx hb dX11_triesNumbers_37 (lv_at hl 4 rfl) ?_
              refine rw_iald hx hb hW hnt4 7 lm_7 (by omega) (by omega) (by decide) dX11_triesNumbers_39 (v := (Mx 7 t)) rfl ?_
              refine rw_if_ne (tgt := 47) hx hb dX11_triesNumbers_40 (by decide) (by omega) (fun c_40 => ?_) (fun c_40 => ?_)
              · refine rw_iconst hx hb dX11_triesNumbers_47 ?_
                refine lv_istore_n (lv' := [(3, .int (iN 0)), (0, .ref (ad 0)), (1, .int (iN 1)), (2, .int (iN n)), (4, .int (iN t))]) hx hb dX11_triesNumbers_48 rfl hl (by decide) rfl (fun ls hl => ?_)
                refine lv_goto (tgt := 133) hx hb dX11_triesNumbers_49 (by decide) ?_
                refine rw_iinc (lv' := [(4, .int (iN (t + 1))), (3, .int (iN 0)), (0, .ref (ad 0)), (1, .int (iN 1)), (2, .int (iN n))]) hx hb dX11_triesNumbers_133 hl (k := 4) rfl (by decide) rfl (fun ls hl => ?_)
                refine lv_goto (tgt := 13) hx hb dX11_triesNumbers_136 (by decide) ?_
                exact ih13 0 (t + 1) Mx H locs ls (by omega) (by omega) (by omega) hs ⟨hJ.1, by omega⟩ (fun z => absurd z (by decide)) (fun _ z => by rw [← hgo1, show (n - t).toNat = (n - (t + 1)).toNat + 1 by omega, canN_S, ← h7, hmo] at z; have := z.1; omega) hW (lv_sub hl [2, 3, 4, 1, 0] rfl)
              · refine rw_iconst hx hb dX11_triesNumbers_43 ?_
                refine lv_goto (tgt := 48) hx hb dX11_triesNumbers_44 (by decide) ?_
                refine lv_istore_n (lv' := [(3, .int (iN 1)), (0, .ref (ad 0)), (1, .int (iN 1)), (2, .int (iN n)), (4, .int (iN t))]) hx hb dX11_triesNumbers_48 rfl hl (by decide) rfl (fun ls hl => ?_)
                refine lv_goto (tgt := 133) hx hb dX11_triesNumbers_49 (by decide) ?_
                refine rw_iinc (lv' := [(4, .int (iN (t + 1))), (3, .int (iN 1)), (0, .ref (ad 0)), (1, .int (iN 1)), (2, .int (iN n))]) hx hb dX11_triesNumbers_133 hl (k := 4) rfl (by decide) rfl (fun ls hl => ?_)
                refine lv_goto (tgt := 13) hx hb dX11_triesNumbers_136 (by decide) ?_
                exact ih13 1 (t + 1) Mx H locs ls (by omega) (by omega) (by omega) hs ⟨hJ.1, by omega⟩ (fun _ => by have hst : (n - t).toNat = (n - (t + 1)).toNat + 1 := (by omega); rw [← hgo1, ← hgo2, hst, canN_S, endN_S, ← h7, show Mx 7 t = 0 by omega, hps 0, hmo]; exact ⟨⟨fun z => ⟨Int.le_refl 0, z⟩, fun z => z.2⟩, rfl⟩) (fun z => absurd z (by decide)) hW (lv_sub hl [2, 3, 4, 1, 0] rfl)
            · refine rw_stk (st' := [.int (iN 0)]) rfl ?_
              refine rw_if_eq (tgt := 52) hx hb dX11_triesNumbers_30 (by decide) (by decide) (fun _ => ?_) (fun c => absurd (by decide) c)
              have hmo : mostF (pg Mx 188) 1 = sdF (pg Mx 188) 1 0 := by unfold mostF; rw [if_neg (by omega)]
              have hps : ∀ v, passBut (pg Mx 188) 1 v = passF (pg Mx 188) (sentF (pg Mx 188) 0) v 0 := fun v => by unfold passBut; rw [if_neg (by omega), if_neg (by decide)]
              refine lv_aload_n hx hb dX11_triesNumbers_52 rfl (lv_at hl 0 rfl) ?_
              refine rw_getR hx hb hts hown hW 0 lm_0 19 7 rfl fX11_32 dX11_triesNumbers_53 ?_
              refine lv_iload hx hb dX11_triesNumbers_56 (lv_at hl 4 rfl) ?_
              refine rw_iald hx hb hW hnt4 7 lm_7 (by omega) (by omega) (by decide) dX11_triesNumbers_58 (v := (Mx 7 t)) rfl ?_
              refine lv_aload_n hx hb dX11_triesNumbers_59 rfl (lv_at hl 0 rfl) ?_
              refine rw_sipush hx hb dX11_triesNumbers_60 (by decide) ?_
              refine lv_iload_n hx hb dX11_triesNumbers_63 rfl (lv_at hl 1 rfl) ?_
              refine rw_iconst hx hb dX11_triesNumbers_64 ?_
              refine rw_callV hx hb hml hts hown hW ⟨Nat.le_refl 0, Nat.le_refl 0⟩ [.int (iN 188), .int (iN 1), .int (iN 0)] 0 lm_0 rfl (c_X11_ofSide (l := l) (G := G) (ad := ad) (CA := CA) (nt := nt) (by omega) 188 (by first | omega | decide) 1 (by first | omega | decide) 0 (by first | omega | decide) Mx) kX11_156 rfl ⟨Nat.le_of_ble_eq_true rfl, Nat.le_of_ble_eq_true rfl⟩ hl.1 rfl (Nat.le_of_ble_eq_true rfl) dX11_triesNumbers_65 (fun v24 M25 H locs hp26 hW => ?_)
              obtain ⟨_, rfl, rfl, hp26⟩ := hp26
              rw [hp26] at hW
              refine rw_stk (st' := [.int (iN (sdF (pg Mx 188) 1 0)), .int (iN (Mx 7 t))]) rfl ?_
              refine rw_icmp_gt (tgt := 75) hx hb dX11_triesNumbers_68 (by decide) (by omega) (by omega) (fun c_68 => ?_) (fun c_68 => ?_)
              · refine rw_iconst hx hb dX11_triesNumbers_75 ?_
                refine lv_istore_n (lv' := [(3, .int (iN 0)), (0, .ref (ad 0)), (1, .int (iN 1)), (2, .int (iN n)), (4, .int (iN t))]) hx hb dX11_triesNumbers_76 rfl hl (by decide) rfl (fun ls hl => ?_)
                refine lv_aload_n hx hb dX11_triesNumbers_77 rfl (lv_at hl 1 rfl) ?_
                refine rw_sipush hx hb dX11_triesNumbers_78 (by decide) ?_
                refine rw_iconst hx hb dX11_triesNumbers_81 ?_
                refine lv_iload_n hx hb dX11_triesNumbers_82 rfl (lv_at hl 2 rfl) ?_
                refine rw_isub hx hb dX11_triesNumbers_83 ?_
                refine rw_stk (st' := [.int (iN 0), .int (iN 188), .ref (ad 0)]) rfl ?_
                refine rw_callV hx hb hml hts hown hW ⟨Nat.le_refl 0, Nat.le_refl 0⟩ [.int (iN 188), .int (iN 0)] 0 lm_0 rfl (c_X11_sentBy (l := l) (G := G) (ad := ad) (CA := CA) (nt := nt) (by omega) 188 (by first | omega | decide) 0 (by first | omega | decide) Mx hI) kX11_191 rfl ⟨Nat.le_of_ble_eq_true rfl, Nat.le_of_ble_eq_true rfl⟩ hl.1 rfl (Nat.le_of_ble_eq_true rfl) dX11_triesNumbers_84 (fun v27 M28 H locs hp29 hW => ?_)
                obtain ⟨_, rfl, rfl, hp29⟩ := hp29
                rw [hp29] at hW
                refine rw_stk (st' := [.int (iN (sentF (pg Mx 188) 0))]) rfl ?_
                refine lv_istore (lv' := [(5, .int (iN (sentF (pg Mx 188) 0))), (3, .int (iN 0)), (0, .ref (ad 0)), (1, .int (iN 1)), (2, .int (iN n)), (4, .int (iN t))]) hx hb dX11_triesNumbers_87 hl (by decide) rfl (fun ls hl => ?_)
                refine lv_iload_n hx hb dX11_triesNumbers_89 rfl (lv_at hl 1 rfl) ?_
                refine rw_if_eq (tgt := 133) hx hb dX11_triesNumbers_90 (by decide) (by decide) (fun _ => ?_) (fun c => absurd (by decide) c)
                refine rw_iinc (lv' := [(4, .int (iN (t + 1))), (5, .int (iN (sentF (pg Mx 188) 0))), (3, .int (iN 0)), (0, .ref (ad 0)), (1, .int (iN 1)), (2, .int (iN n))]) hx hb dX11_triesNumbers_133 hl (k := 5) rfl (by decide) rfl (fun ls hl => ?_)
                refine lv_goto (tgt := 13) hx hb dX11_triesNumbers_136 (by decide) ?_
                exact ih13 0 (t + 1) Mx H locs ls (by omega) (by omega) (by omega) hs ⟨hJ.1, by omega⟩ (fun z => absurd z (by decide)) (fun _ z => by rw [← hgo1, show (n - t).toNat = (n - (t + 1)).toNat + 1 by omega, canN_S, ← h7, hmo] at z; have := z.1; omega) hW (lv_sub hl [3, 4, 5, 2, 0] rfl)
              · refine rw_iconst hx hb dX11_triesNumbers_71 ?_
                refine lv_goto (tgt := 76) hx hb dX11_triesNumbers_72 (by decide) ?_
                refine lv_istore_n (lv' := [(3, .int (iN 1)), (0, .ref (ad 0)), (1, .int (iN 1)), (2, .int (iN n)), (4, .int (iN t))]) hx hb dX11_triesNumbers_76 rfl hl (by decide) rfl (fun ls hl => ?_)
                refine lv_aload_n hx hb dX11_triesNumbers_77 rfl (lv_at hl 1 rfl) ?_
                refine rw_sipush hx hb dX11_triesNumbers_78 (by decide) ?_
                refine rw_iconst hx hb dX11_triesNumbers_81 ?_
                refine lv_iload_n hx hb dX11_triesNumbers_82 rfl (lv_at hl 2 rfl) ?_
                refine rw_isub hx hb dX11_triesNumbers_83 ?_
                refine rw_stk (st' := [.int (iN 0), .int (iN 188), .ref (ad 0)]) rfl ?_
                refine rw_callV hx hb hml hts hown hW ⟨Nat.le_refl 0, Nat.le_refl 0⟩ [.int (iN 188), .int (iN 0)] 0 lm_0 rfl (c_X11_sentBy (l := l) (G := G) (ad := ad) (CA := CA) (nt := nt) (by omega) 188 (by first | omega | decide) 0 (by first | omega | decide) Mx hI) kX11_191 rfl ⟨Nat.le_of_ble_eq_true rfl, Nat.le_of_ble_eq_true rfl⟩ hl.1 rfl (Nat.le_of_ble_eq_true rfl) dX11_triesNumbers_84 (fun v30 M31 H locs hp32 hW => ?_)
                obtain ⟨_, rfl, rfl, hp32⟩ := hp32
                rw [hp32] at hW
                refine rw_stk (st' := [.int (iN (sentF (pg Mx 188) 0))]) rfl ?_
                refine lv_istore (lv' := [(5, .int (iN (sentF (pg Mx 188) 0))), (3, .int (iN 1)), (0, .ref (ad 0)), (1, .int (iN 1)), (2, .int (iN n)), (4, .int (iN t))]) hx hb dX11_triesNumbers_87 hl (by decide) rfl (fun ls hl => ?_)
                refine lv_iload_n hx hb dX11_triesNumbers_89 rfl (lv_at hl 1 rfl) ?_
                refine rw_if_eq (tgt := 133) hx hb dX11_triesNumbers_90 (by decide) (by decide) (fun c => absurd c (by decide)) (fun _ => ?_)
                refine lv_aload_n hx hb dX11_triesNumbers_93 rfl (lv_at hl 2 rfl) ?_
                refine rw_sipush hx hb dX11_triesNumbers_94 (by decide) ?_
                refine lv_iload_n hx hb dX11_triesNumbers_97 rfl (lv_at hl 3 rfl) ?_
                refine rw_if_ne (tgt := 111) hx hb dX11_triesNumbers_98 (by decide) (by decide) (fun _ => ?_) (fun c => absurd c (by decide))
                refine lv_iload hx hb dX11_triesNumbers_111 (lv_at hl 0 rfl) ?_
                refine lv_iload_n hx hb dX11_triesNumbers_113 rfl (lv_at hl 3 rfl) ?_
                refine rw_if_ne (tgt := 122) hx hb dX11_triesNumbers_114 (by decide) (by decide) (fun _ => ?_) (fun c => absurd c (by decide))
                refine lv_aload_n hx hb dX11_triesNumbers_122 rfl (lv_at hl 2 rfl) ?_
                refine rw_getR hx hb hts hown hW 0 lm_0 19 7 rfl fX11_32 dX11_triesNumbers_123 ?_
                refine lv_iload hx hb dX11_triesNumbers_126 (lv_at hl 5 rfl) ?_
                refine rw_iald hx hb hW hnt4 7 lm_7 (by omega) (by omega) (by decide) dX11_triesNumbers_128 (v := (Mx 7 t)) rfl ?_
                refine rw_iconst hx hb dX11_triesNumbers_129 ?_
                refine rw_callV hx hb hml hts hown hW ⟨Nat.le_refl 0, Nat.le_refl 0⟩ [.int (iN 188), .int (iN (sentF (pg Mx 188) 0)), .int (iN (Mx 7 t)), .int (iN 0)] 0 lm_0 rfl (c_X11_minutes (l := l) (G := G) (ad := ad) (CA := CA) (nt := nt) (by omega) 188 (by first | omega | decide) (sentF (pg Mx 188) 0) (Mx 7 t) 0 (by first | omega | decide) Mx hI (by first | omega | decide) (by first | omega | decide) (by first | omega | decide)) kX11_198 rfl ⟨Nat.le_of_ble_eq_true rfl, Nat.le_of_ble_eq_true rfl⟩ hl.1 rfl (Nat.le_of_ble_eq_true rfl) dX11_triesNumbers_130 (fun v33 M34 H locs hp35 hW => ?_)
                obtain ⟨rfl, hM34⟩ := hp35
                refine rw_stk (st' := []) rfl ?_
                refine rw_iinc (lv' := [(4, .int (iN (t + 1))), (5, .int (iN (sentF (pg Mx 188) 0))), (3, .int (iN 1)), (0, .ref (ad 0)), (1, .int (iN 1)), (2, .int (iN n))]) hx hb dX11_triesNumbers_133 hl (k := 5) rfl (by decide) rfl (fun ls hl => ?_)
                refine lv_goto (tgt := 13) hx hb dX11_triesNumbers_136 (by decide) ?_
                exact ih13 1 (t + 1) M34 H locs ls (by omega) (by omega) (by omega) (hs.trans hM34.2) (by rw [hM34.1, ← hps (Mx 7 t)]; exact ⟨passBut_inv hJ.1 (by omega) (by decide) (by omega), by have := passBut_min (pg Mx 188) 1 (Mx 7 t); omega⟩) (fun _ => by have hst : (n - t).toNat = (n - (t + 1)).toNat + 1 := (by omega); rw [← hgo1, ← hgo2, hst, canN_S, endN_S, ← h7, hM34.1, ← hps (Mx 7 t), hmo]; exact ⟨⟨fun z => ⟨by omega, z⟩, fun z => z.2⟩, rfl⟩) (fun z => absurd z (by decide)) hW (lv_sub hl [3, 4, 5, 2, 0] rfl)
    refine lv_aload_n hx hb dX11_triesNumbers_0 rfl (lv_at hl 0 rfl) ?_
    refine rw_iconst hx hb dX11_triesNumbers_1 ?_
    refine rw_sipush hx hb dX11_triesNumbers_2 (by decide) ?_
    refine rw_callV hx hb hml hts hown hW ⟨Nat.le_refl 0, Nat.le_refl 0⟩ [.int (iN 0), .int (iN 188)] 0 lm_0 rfl (c_X11_copies (l := l) (G := G) (ad := ad) (CA := CA) (nt := nt) (by omega) 0 188 (by first | omega | decide) (by first | omega | decide) (by first | omega | decide) M) kX11_212 rfl ⟨Nat.le_of_ble_eq_true rfl, Nat.le_of_ble_eq_true rfl⟩ hl.1 rfl (Nat.le_of_ble_eq_true rfl) dX11_triesNumbers_5 (fun v36 M37 H locs hp38 hW => ?_)
    obtain ⟨rfl, hM37⟩ := hp38
    refine rw_stk (st' := []) rfl ?_
    refine rw_iconst hx hb dX11_triesNumbers_8 ?_
    refine lv_istore_n (lv' := [(3, .int (iN 1)), (0, .ref (ad 0)), (1, .int (iN 1)), (2, .int (iN n))]) hx hb dX11_triesNumbers_9 rfl hl (by decide) rfl (fun ls hl => ?_)
    refine rw_iconst hx hb dX11_triesNumbers_10 ?_
    refine lv_istore (lv' := [(4, .int (iN 0)), (3, .int (iN 1)), (0, .ref (ad 0)), (1, .int (iN 1)), (2, .int (iN n))]) hx hb dX11_triesNumbers_11 hl (by decide) rfl (fun ls hl => ?_)
    exact hC_13 _ 1 0 M37 H locs ls (Nat.lt_succ_self _) (by omega) (by omega) hM37.2 (by rw [hM37.1]; exact ⟨hI, by omega⟩) (fun _ => ⟨by rw [hM37.1, Int.sub_zero], by rw [hM37.1, Int.sub_zero]⟩) (fun z => absurd z (by decide)) hW (lv_sub hl [2, 3, 4, 1, 0] rfl)
