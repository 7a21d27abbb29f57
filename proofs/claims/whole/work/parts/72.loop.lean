theorem law_len {i L : Nat} (hi : i < 2 ^ 30) (hL : L < 2 ^ 30) (h : ¬ Int32.ofNat L - nI 4 < nI i) : i + 4 ≤ L := by
  rw [Int32.lt_iff_toInt_lt] at h
  have e : (Int32.ofNat L - nI 4).toInt = (L : Int) - 4 := pk_sub_toInt (a := L) (b := 4) (by omega) (by omega)
  rw [e, nI_toInt (by omega)] at h
  omega
set_option maxHeartbeats 4000000 in
set_option maxRecDepth 100000 in
theorem law_loop {p9 : Program} {l : Launch} {e9 : Env} {s9 : State} {m9 : MethodId} {ar9 : Array Value} {be9 : List Frame} {me9 : Method} {c9 : Code} {Q9 : State → Prop} {A9 : Nat → Prop} {D : va_G} {cI cS cL : ClassId} (hst : l.stackTraces = false) (C0 : CallFix p9 m9 c9 cL_law 9 s9 ar9 wsL_law RL) (hN : NST s9) (hAm : AMB A9 s9 s9.heap) (hXN : XN s9) (hK : va_K D vwCl (TY cI cS cL) s9) (hA : ∀ q, s9.heap.size ≤ q → A9 q) {b0 L : Nat} {xs : Nat → Int32} (hX : va_X b0 L xs s9 s9.heap) (hbl : b0 < s9.heap.size) (hbA : ¬ A9 b0) (hL : L ≤ 2048) (hQ : ∀ (H : Heap) (locs : List Loc) (ls : Array Slot) (ce sl : Nat), va_S A9 s9.heap H locs → ls.size = 9 → ce ≤ 500000 → sl ≤ 7000000 → W p9 l e9 room_1 s9 m9 ar9 be9 me9 c9 H locs ce sl Q9 (F0 m9 1601 ls [.int 1])) : ∀ (fuel i T ce sl : Nat) (H : Heap) (locs : List Loc) (ls : Array Slot), LI D cI cS cL A9 s9 b0 i T H locs ls → i ≤ 2048 → T = 50 * i → ce ≤ 1000 + i → sl ≤ 5000 + 6 * i → i % 4 = 0 → 2052 - i < fuel → W p9 l e9 room_1 s9 m9 ar9 be9 me9 c9 H locs ce sl Q9 (F0 m9 23 ls []) := by
  intro fuel
  induction fuel with
  | zero => intro i T ce sl H locs ls _ _ _ _ _ _ h; exact absurd h (Nat.not_lt_zero _)
  | succ fuel ih =>
    intro i T ce sl H locs ls hLI hi8 hT hce hsl hi4 hfu
    obtain ⟨hx, hb, hml, hown, hts⟩ := id C0
    have hLI2 := hLI
    obtain ⟨f0, a, s, fl, c0, c1, n, cs, b, r, gl, sv, ad, t, f6, k, m0, m1, m2, m3, m4, m5, th, ax, fa, vl, tn, hg, bg, h, td, o0, xo, t6, hI, hk, hn, hcs2, htk, ht6, hP, hD, hS, hl⟩ := hLI2
    refine lv_iload hx hb dL_law_23 (lv_at hl 4 rfl) ?_
    refine lv_aload_n hx hb dL_law_25 rfl (lv_at hl 0 rfl) ?_
    refine va_slen hx hb hX hbl hbA hS dL_law_26 ?_
    refine lv_iconst (v := nI 4) hx hb dL_law_27 (by decide +kernel) ?_
    refine lv_isub hx hb dL_law_28 ?_
    refine lv_icmp_gt (tgt := 1600) hx hb dL_law_29 (by decide) (fun c_29 => ?_) (fun c_29 => ?_)
    · refine lv_iconst (v := 1) hx hb dL_law_1600 (by decide +kernel) ?_
      exact hQ H locs ls ce sl hS hl.1 (by omega) (by omega)
    · have hiL : i + 4 ≤ L := law_len (by omega) (by omega) c_29
      have hnext : ∀ (T2 : Nat) (H : Heap) (locs : List Loc) (ls : Array Slot) (ce2 sl2 : Nat), LI D cI cS cL A9 s9 b0 i T2 H locs ls → T2 = T + 200 → ce2 ≤ ce + 4 → sl2 ≤ sl + 24 → W p9 l e9 room_1 s9 m9 ar9 be9 me9 c9 H locs ce2 sl2 Q9 (F0 m9 1594 ls []) := by
        intro T2 H locs ls ce2 sl2 h1 h2 h3 h4
        obtain ⟨f0, a, s, fl, c0, c1, n, cs, b, r, gl, sv, ad, t, f6, k, m0, m1, m2, m3, m4, m5, th, ax, fa, vl, tn, hg, bg, h, td, o0, xo, t6, hI, hk, hn, hcs2, htk, ht6, hP, hD, hS, hl⟩ := h1
        refine lv_iinc (v := nI (i + 4)) (lv' := [(4, .int (nI (i + 4))), (0, .ref b0), (1, .ref f0), (2, .ref m0), (3, .ref o0)]) hx hb dL_law_1594 hl (k := 4) rfl (nI_add i 4) (by decide) rfl (fun ls hl => ?_)
        refine lv_goto (tgt := 23) hx hb dL_law_1597 (by decide) ?_
        exact ih (i + 4) T2 ce2 sl2 H locs ls ⟨_, _, _, _, _, _, _, _, _, _, _, _, _, _, _, _, _, _, _, _, _, _, _, _, _, _, _, _, _, _, _, _, _, _, hI, hk, hn, hcs2, htk, ht6, hP, hD, hS, lv_sub hl [1, 2, 3, 4, 0] rfl⟩ (by omega) (by omega) (by omega) (by omega) (by omega) (by omega)
      refine lv_aload_n hx hb dL_law_32 rfl (lv_at hl 0 rfl) ?_
      refine lv_iload hx hb dL_law_33 (lv_at hl 4 rfl) ?_
      refine va_sld hx hb hX hbl hbA hS (vp_in_nI (n := i) (by omega) (by omega)) dL_law_35 ?_
      refine lv_bipush (v := 31) hx hb dL_law_36 (by decide +kernel) ?_
      refine lv_iand hx hb dL_law_38 ?_
      generalize xs (nI i).toNatClampNeg &&& 31 = sel
      by_cases e_0 : sel.toInt = 0
      · refine lv_tableIn (off := 117) (tgt := 156) hx hb dL_law_39 (by rw [e_0]; decide) (by rw [e_0]; decide) (by rw [e_0]; rfl) (by decide) ?_
        exact law_jet hst C0 hN hAm hXN hK hA hX hbl hbA hL hiL (by omega) (by omega) (by omega) hnext H locs ls hLI
      by_cases e_1 : sel.toInt = 1
      · refine lv_tableIn (off := 197) (tgt := 236) hx hb dL_law_39 (by rw [e_1]; decide) (by rw [e_1]; decide) (by rw [e_1]; rfl) (by decide) ?_
        exact law_aim hst C0 hN hAm hXN hK hA hX hbl hbA hL hiL (by omega) (by omega) (by omega) hnext H locs ls hLI
      by_cases e_2 : sel.toInt = 2
      · refine lv_tableIn (off := 265) (tgt := 304) hx hb dL_law_39 (by rw [e_2]; decide) (by rw [e_2]; decide) (by rw [e_2]; rfl) (by decide) ?_
        exact law_pump hst C0 hN hAm hXN hK hA hX hbl hbA hL hiL (by omega) (by omega) (by omega) hnext H locs ls hLI
      by_cases e_3 : sel.toInt = 3
      · refine lv_tableIn (off := 333) (tgt := 372) hx hb dL_law_39 (by rw [e_3]; decide) (by rw [e_3]; decide) (by rw [e_3]; rfl) (by decide) ?_
        exact law_wind hst C0 hN hAm hXN hK hA hX hbl hbA hL hiL (by omega) (by omega) (by omega) hnext H locs ls hLI
      by_cases e_4 : sel.toInt = 4
      · refine lv_tableIn (off := 389) (tgt := 428) hx hb dL_law_39 (by rw [e_4]; decide) (by rw [e_4]; decide) (by rw [e_4]; rfl) (by decide) ?_
        exact law_fill hst C0 hN hAm hXN hK hA hX hbl hbA hL hiL (by omega) (by omega) (by omega) hnext H locs ls hLI
      by_cases e_5 : sel.toInt = 5
      · refine lv_tableIn (off := 445) (tgt := 484) hx hb dL_law_39 (by rw [e_5]; decide) (by rw [e_5]; decide) (by rw [e_5]; rfl) (by decide) ?_
        exact law_set hst C0 hN hAm hXN hK hA hX hbl hbA hL hiL (by omega) (by omega) (by omega) hnext H locs ls hLI
      by_cases e_6 : sel.toInt = 6
      · refine lv_tableIn (off := 513) (tgt := 552) hx hb dL_law_39 (by rw [e_6]; decide) (by rw [e_6]; decide) (by rw [e_6]; rfl) (by decide) ?_
        exact law_cue hst C0 hN hAm hXN hK hA hX hbl hbA hL hiL (by omega) (by omega) (by omega) hnext H locs ls hLI
      by_cases e_7 : sel.toInt = 7
      · refine lv_tableIn (off := 593) (tgt := 632) hx hb dL_law_39 (by rw [e_7]; decide) (by rw [e_7]; decide) (by rw [e_7]; rfl) (by decide) ?_
        exact law_drop hst C0 hN hAm hXN hK hA hX hbl hbA hL hiL (by omega) (by omega) (by omega) hnext H locs ls hLI
      by_cases e_8 : sel.toInt = 8
      · refine lv_tableIn (off := 649) (tgt := 688) hx hb dL_law_39 (by rw [e_8]; decide) (by rw [e_8]; decide) (by rw [e_8]; rfl) (by decide) ?_
        exact law_play hst C0 hN hAm hXN hK hA hX hbl hbA hL hiL (by omega) (by omega) (by omega) hnext H locs ls hLI
      by_cases e_9 : sel.toInt = 9
      · refine lv_tableIn (off := 705) (tgt := 744) hx hb dL_law_39 (by rw [e_9]; decide) (by rw [e_9]; decide) (by rw [e_9]; rfl) (by decide) ?_
        exact law_append hst C0 hN hAm hXN hK hA hX hbl hbA hL hiL (by omega) (by omega) (by omega) hnext H locs ls hLI
      by_cases e_10 : sel.toInt = 10
      · refine lv_tableIn (off := 761) (tgt := 800) hx hb dL_law_39 (by rw [e_10]; decide) (by rw [e_10]; decide) (by rw [e_10]; rfl) (by decide) ?_
        exact law_clearBuffer hst C0 hN hAm hXN hK hA hX hbl hbA hL hiL (by omega) (by omega) (by omega) hnext H locs ls hLI
      by_cases e_11 : sel.toInt = 11
      · refine lv_tableIn (off := 774) (tgt := 813) hx hb dL_law_39 (by rw [e_11]; decide) (by rw [e_11]; decide) (by rw [e_11]; rfl) (by decide) ?_
        exact law_firstError hst C0 hN hAm hXN hK hA hX hbl hbA hL hiL (by omega) (by omega) (by omega) hnext H locs ls hLI
      by_cases e_12 : sel.toInt = 12
      · refine lv_tableIn (off := 787) (tgt := 826) hx hb dL_law_39 (by rw [e_12]; decide) (by rw [e_12]; decide) (by rw [e_12]; rfl) (by decide) ?_
        exact law_cueAll hst C0 hN hAm hXN hK hA hX hbl hbA hL hiL (by omega) (by omega) (by omega) hnext H locs ls hLI
      by_cases e_13 : sel.toInt = 13
      · refine lv_tableIn (off := 831) (tgt := 870) hx hb dL_law_39 (by rw [e_13]; decide) (by rw [e_13]; decide) (by rw [e_13]; rfl) (by decide) ?_
        exact law_undo hst C0 hN hAm hXN hK hA hX hbl hbA hL hiL (by omega) (by omega) (by omega) hnext H locs ls hLI
      by_cases e_14 : sel.toInt = 14
      · refine lv_tableIn (off := 875) (tgt := 914) hx hb dL_law_39 (by rw [e_14]; decide) (by rw [e_14]; decide) (by rw [e_14]; rfl) (by decide) ?_
        exact law_jetOf hst C0 hN hAm hXN hK hA hX hbl hbA hL hiL (by omega) (by omega) (by omega) hnext H locs ls hLI
      by_cases e_15 : sel.toInt = 15
      · refine lv_tableIn (off := 943) (tgt := 982) hx hb dL_law_39 (by rw [e_15]; decide) (by rw [e_15]; decide) (by rw [e_15]; rfl) (by decide) ?_
        exact law_pumpOf hst C0 hN hAm hXN hK hA hX hbl hbA hL hiL (by omega) (by omega) (by omega) hnext H locs ls hLI
      by_cases e_16 : sel.toInt = 16
      · refine lv_tableIn (off := 1011) (tgt := 1050) hx hb dL_law_39 (by rw [e_16]; decide) (by rw [e_16]; decide) (by rw [e_16]; rfl) (by decide) ?_
        exact law_cueOf hst C0 hN hAm hXN hK hA hX hbl hbA hL hiL (by omega) (by omega) (by omega) hnext H locs ls hLI
      by_cases e_17 : sel.toInt = 17
      · refine lv_tableIn (off := 1079) (tgt := 1118) hx hb dL_law_39 (by rw [e_17]; decide) (by rw [e_17]; decide) (by rw [e_17]; rfl) (by decide) ?_
        exact law_count hst C0 hN hAm hXN hK hA hX hbl hbA hL hiL (by omega) (by omega) (by omega) hnext H locs ls hLI
      by_cases e_18 : sel.toInt = 18
      · refine lv_tableIn (off := 1135) (tgt := 1174) hx hb dL_law_39 (by rw [e_18]; decide) (by rw [e_18]; decide) (by rw [e_18]; rfl) (by decide) ?_
        exact law_setting hst C0 hN hAm hXN hK hA hX hbl hbA hL hiL (by omega) (by omega) (by omega) hnext H locs ls hLI
      by_cases e_19 : sel.toInt = 19
      · refine lv_tableIn (off := 1191) (tgt := 1230) hx hb dL_law_39 (by rw [e_19]; decide) (by rw [e_19]; decide) (by rw [e_19]; rfl) (by decide) ?_
        exact law_refusal hst C0 hN hAm hXN hK hA hX hbl hbA hL hiL (by omega) (by omega) (by omega) hnext H locs ls hLI
      by_cases e_20 : sel.toInt = 20
      · refine lv_tableIn (off := 1271) (tgt := 1310) hx hb dL_law_39 (by rw [e_20]; decide) (by rw [e_20]; decide) (by rw [e_20]; rfl) (by decide) ?_
        exact law_ifPlayed hst C0 hN hAm hXN hK hA hX hbl hbA hL hiL (by omega) (by omega) (by omega) hnext H locs ls hLI
      by_cases e_21 : sel.toInt = 21
      · refine lv_tableIn (off := 1339) (tgt := 1378) hx hb dL_law_39 (by rw [e_21]; decide) (by rw [e_21]; decide) (by rw [e_21]; rfl) (by decide) ?_
        exact law_mostAim hst C0 hN hAm hXN hK hA hX hbl hbA hL hiL (by omega) (by omega) (by omega) hnext H locs ls hLI
      by_cases e_22 : sel.toInt = 22
      · refine lv_tableIn (off := 1407) (tgt := 1446) hx hb dL_law_39 (by rw [e_22]; decide) (by rw [e_22]; decide) (by rw [e_22]; rfl) (by decide) ?_
        exact law_fits hst C0 hN hAm hXN hK hA hX hbl hbA hL hiL (by omega) (by omega) (by omega) hnext H locs ls hLI
      by_cases e_23 : sel.toInt = 23
      · refine lv_tableIn (off := 1487) (tgt := 1526) hx hb dL_law_39 (by rw [e_23]; decide) (by rw [e_23]; decide) (by rw [e_23]; rfl) (by decide) ?_
        exact law_dryIn hst C0 hN hAm hXN hK hA hX hbl hbA hL hiL (by omega) (by omega) (by omega) hnext H locs ls hLI
      by_cases e_24 : sel.toInt = 24
      · refine lv_tableIn (off := 1500) (tgt := 1539) hx hb dL_law_39 (by rw [e_24]; decide) (by rw [e_24]; decide) (by rw [e_24]; rfl) (by decide) ?_
        exact law_share hst C0 hN hAm hXN hK hA hX hbl hbA hL hiL (by omega) (by omega) (by omega) hnext H locs ls hLI
      by_cases e_25 : sel.toInt = 25
      · refine lv_tableIn (off := 1541) (tgt := 1580) hx hb dL_law_39 (by rw [e_25]; decide) (by rw [e_25]; decide) (by rw [e_25]; rfl) (by decide) ?_
        exact law_digest hst C0 hN hAm hXN hK hA hX hbl hbA hL hiL (by omega) (by omega) (by omega) hnext H locs ls hLI
      refine lv_tableOut (tgt := 1594) hx hb dL_law_39 (by omega) (by decide) ?_
      exact hnext (T + 200) H locs ls ce sl ⟨_, _, _, _, _, _, _, _, _, _, _, _, _, _, _, _, _, _, _, _, _, _, _, _, _, _, _, _, _, _, _, _, _, _, sI_mono hI (by omega), hk, hn, hcs2, fun j hj => sI_mono (htk j hj) (by omega), ht6, hP, hD, hS, hl⟩ rfl (by omega) (by omega)
