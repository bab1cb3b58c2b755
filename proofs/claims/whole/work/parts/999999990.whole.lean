/-! THE LOOP, THE WHOLE -/
theorem ly_gt {L n : Nat} (hL : L ≤ 3072) (hn : n ≤ 3072) (q : ¬ Int32.ofNat L - (6 : Int32) < nI n) : n + 6 ≤ L := by
  rcases Nat.lt_or_ge L (n + 6) with h | h
  · refine absurd ?_ q
    by_cases h6 : 6 ≤ L
    · rw [show Int32.ofNat L - (6 : Int32) = nI (L - 6) from e_sub h6]
      exact of_eq_true (e_lt_t (by omega) (by omega))
    · have h0 : (0 : Int32) ≤ nI n := of_eq_true (e_le_t (a := 0) (b := n) (by omega) (by omega))
      have h1 : Int32.ofNat L - (6 : Int32) < 0 := by
        rcases (show L = 0 ∨ L = 1 ∨ L = 2 ∨ L = 3 ∨ L = 4 ∨ L = 5 by omega) with rfl | rfl | rfl | rfl | rfl | rfl <;> decide
      exact Int32.lt_of_lt_of_le h1 h0
  · exact h
theorem m_Str0 : m_Str (fun _ => 0) := fun a k hk _ i c hc => by
  have hk : 0 = k := hk
  subst hk
  cases hc
section LO
variable {p : Program} {l : Launch} {e : Env} {s : State} {m : MethodId} {below : List Frame} {meth : Method} {c : Code} {G : m_G} {x b L : Nat} {xs : Nat → Int32}
set_option maxHeartbeats 4000000 in
set_option maxRecDepth 100000 in
theorem l_loop (X : m_Cx p s m #[Value.ref b] meth c cL_law 7 RL G) (hN : m_N s) (hZ : x_Z G s s.heap) (hlt : l.stackTraces = false) (hX : l_X s G b L xs) (hr : meth.sig.returnType = ret) (hG : G.2.2 = s.heap.size) :
    ∀ (d k : Nat), k + d = 513 → 6 * k ≤ L → ∀ (H : Heap) (locs : List Loc) (ls : Array Slot) (nx : Nat) (κ : Nat → Nat) (S : m_M), lv_has ls 7 (l_lv b x (6 * k)) → m_H G nx κ S H → m_S G s H locs → l_K x nx κ → l_S x S → W p l e room_1 s m #[Value.ref b] below meth c H locs (200 + 37 * k) (50000 + 3131 * k) (lw_Z below #[Value.ref b] s) (F0 m 23 ls []) := by
  have hx := X.1.1
  have hb := X.1.2.1
  have hL := hX.2.2.2
  intro d
  induction d with
  | zero => intro k hk h6; exact absurd h6 (by omega)
  | succ d ih =>
    intro k hk h6 H locs ls nx κ S hl hH hS hK hs
    have kk : l_Q p l e s m #[Value.ref b] below meth c (lw_Z below #[Value.ref b] s) G x b (6 * k) (200 + 37 * k + 37) (50000 + 3131 * k + 3131) ∨ ¬ 6 * k + 6 ≤ L := by
      by_cases hn : 6 * k + 6 ≤ L
      · refine Or.inl (fun H locs ls nx κ S hl hH hS hK hs => ?_)
        refine lv_iinc (v := nI (6 * (k + 1))) (lv' := [(4, .int (nI (6 * (k + 1)))), (0, .ref b), (1, .ref x), (2, .ref (x + 100)), (3, .ref (x + 130))]) hx hb dL_law_1127 hl (k := 4) rfl (by rw [show Int32.ofInt 6 = nI 6 from rfl, nI_add]; congr 1) (by decide) rfl (fun ls hl => ?_)
        refine lv_goto (tgt := 23) hx hb dL_law_1130 (by decide) ?_
        refine W.widen (k := 200 + 37 * (k + 1)) (n := 50000 + 3131 * (k + 1)) (by omega) (by omega) ?_
        exact ih (k + 1) (by omega) (by omega) H locs ls nx κ S (lv_sub hl [1, 2, 3, 4, 0] rfl) hH hS hK hs
      · exact Or.inr hn
    refine lv_iload hx hb dL_law_23 (lv_at hl 4 rfl) ?_
    refine lv_aload_n hx hb dL_law_25 rfl (lv_at hl 0 rfl) ?_
    refine va_slen hx hb hX.1 hX.2.1 hX.2.2.1 hS dL_law_26 ?_
    refine lv_bipush (v := (6 : Int32)) hx hb dL_law_27 (by decide) ?_
    refine lv_isub hx hb dL_law_29 ?_
    refine lv_icmp_gt (tgt := 1133) hx hb dL_law_30 (by decide) (fun _ => ?_) (fun q => ?_)
    · refine lv_iconst (v := 1) hx hb dL_law_1133 (by decide) ?_
      refine va_forget (fun q hq => by have := hS.2.2 q hq; rw [hG] at this; exact this) ?_
      refine W.widen (k := 601024) (n := 7293034) (by omega) (by omega) ?_
      exact lw_ret hx hb hr X.2.2.1 dL_law_1134
    · have hn : 6 * k + 6 ≤ L := ly_gt hL (by omega) q
      have kk := kk.resolve_right (fun h => h hn)
      have hcs : 200 + 37 * k + 37 ≤ 601024 ∧ 50000 + 3131 * k + 3131 ≤ 7293034 := by omega
      refine lv_aload_n hx hb dL_law_33 rfl (lv_at hl 0 rfl) ?_
      refine lv_iload hx hb dL_law_34 (lv_at hl 4 rfl) ?_
      refine ly_ld X hX hS (k := 6 * k) (by omega) rfl dL_law_36 ?_
      refine lv_bipush (v := (31 : Int32)) hx hb dL_law_37 (by decide) ?_
      refine lv_iand hx hb dL_law_39 ?_
      generalize xs (6 * k) &&& (31 : Int32) = w
      by_cases c0 : w = (0 : Int32)
      · refine lv_tableIn (off := 140) (tgt := 180) hx hb dL_law_40 (by rw [c0]; decide) (by rw [c0]; decide) (by rw [c0]; rfl) (by decide) ?_
        exact lc_0 X hN hZ hlt hX hH hS hl hK hs hn hcs kk
      by_cases c1 : w = (1 : Int32)
      · refine lv_tableIn (off := 213) (tgt := 253) hx hb dL_law_40 (by rw [c1]; decide) (by rw [c1]; decide) (by rw [c1]; rfl) (by decide) ?_
        exact lc_1 X hN hZ hlt hX hH hS hl hK hs hn hcs kk
      by_cases c2 : w = (2 : Int32)
      · refine lv_tableIn (off := 238) (tgt := 278) hx hb dL_law_40 (by rw [c2]; decide) (by rw [c2]; decide) (by rw [c2]; rfl) (by decide) ?_
        exact lc_2 X hN hZ hlt hX hH hS hl hK hs hn hcs kk
      by_cases c3 : w = (3 : Int32)
      · refine lv_tableIn (off := 251) (tgt := 291) hx hb dL_law_40 (by rw [c3]; decide) (by rw [c3]; decide) (by rw [c3]; rfl) (by decide) ?_
        exact lc_3 X hN hZ hlt hX hH hS hl hK hs hn hcs kk
      by_cases c4 : w = (4 : Int32)
      · refine lv_tableIn (off := 264) (tgt := 304) hx hb dL_law_40 (by rw [c4]; decide) (by rw [c4]; decide) (by rw [c4]; rfl) (by decide) ?_
        exact lc_4 X hN hZ hlt hX hH hS hl hK hs hn hcs kk
      by_cases c5 : w = (5 : Int32)
      · refine lv_tableIn (off := 332) (tgt := 372) hx hb dL_law_40 (by rw [c5]; decide) (by rw [c5]; decide) (by rw [c5]; rfl) (by decide) ?_
        exact lc_5 X hN hZ hlt hX hH hS hl hK hs hn hcs kk
      by_cases c6 : w = (6 : Int32)
      · refine lv_tableIn (off := 369) (tgt := 409) hx hb dL_law_40 (by rw [c6]; decide) (by rw [c6]; decide) (by rw [c6]; rfl) (by decide) ?_
        exact lc_6 X hN hZ hlt hX hH hS hl hK hs hn hcs kk
      by_cases c7 : w = (7 : Int32)
      · refine lv_tableIn (off := 406) (tgt := 446) hx hb dL_law_40 (by rw [c7]; decide) (by rw [c7]; decide) (by rw [c7]; rfl) (by decide) ?_
        exact lc_7 X hN hZ hlt hX hH hS hl hK hs hn hcs kk
      by_cases c8 : w = (8 : Int32)
      · refine lv_tableIn (off := 455) (tgt := 495) hx hb dL_law_40 (by rw [c8]; decide) (by rw [c8]; decide) (by rw [c8]; rfl) (by decide) ?_
        exact lc_8 X hN hZ hlt hX hH hS hl hK hs hn hcs kk
      by_cases c9 : w = (9 : Int32)
      · refine lv_tableIn (off := 468) (tgt := 508) hx hb dL_law_40 (by rw [c9]; decide) (by rw [c9]; decide) (by rw [c9]; rfl) (by decide) ?_
        exact lc_9 X hN hZ hlt hX hH hS hl hK hs hn hcs kk
      by_cases c10 : w = (10 : Int32)
      · refine lv_tableIn (off := 493) (tgt := 533) hx hb dL_law_40 (by rw [c10]; decide) (by rw [c10]; decide) (by rw [c10]; rfl) (by decide) ?_
        exact lc_10 X hN hZ hlt hX hH hS hl hK hs hn hcs kk
      by_cases c11 : w = (11 : Int32)
      · refine lv_tableIn (off := 518) (tgt := 558) hx hb dL_law_40 (by rw [c11]; decide) (by rw [c11]; decide) (by rw [c11]; rfl) (by decide) ?_
        exact lc_11 X hN hZ hlt hX hH hS hl hK hs hn hcs kk
      by_cases c12 : w = (12 : Int32)
      · refine lv_tableIn (off := 555) (tgt := 595) hx hb dL_law_40 (by rw [c12]; decide) (by rw [c12]; decide) (by rw [c12]; rfl) (by decide) ?_
        exact lc_12 X hN hZ hlt hX hH hS hl hK hs hn hcs kk
      by_cases c13 : w = (13 : Int32)
      · refine lv_tableIn (off := 623) (tgt := 663) hx hb dL_law_40 (by rw [c13]; decide) (by rw [c13]; decide) (by rw [c13]; rfl) (by decide) ?_
        exact lc_13 X hN hZ hlt hX hH hS hl hK hs hn hcs kk
      by_cases c14 : w = (14 : Int32)
      · refine lv_tableIn (off := 660) (tgt := 700) hx hb dL_law_40 (by rw [c14]; decide) (by rw [c14]; decide) (by rw [c14]; rfl) (by decide) ?_
        exact lc_14 X hN hZ hlt hX hH hS hl hK hs hn hcs kk
      by_cases c15 : w = (15 : Int32)
      · refine lv_tableIn (off := 728) (tgt := 768) hx hb dL_law_40 (by rw [c15]; decide) (by rw [c15]; decide) (by rw [c15]; rfl) (by decide) ?_
        exact lc_15 X hN hZ hlt hX hH hS hl hK hs hn hcs kk
      by_cases c16 : w = (16 : Int32)
      · refine lv_tableIn (off := 741) (tgt := 781) hx hb dL_law_40 (by rw [c16]; decide) (by rw [c16]; decide) (by rw [c16]; rfl) (by decide) ?_
        exact lc_16 X hN hZ hlt hX hH hS hl hK hs hn hcs kk
      by_cases c17 : w = (17 : Int32)
      · refine lv_tableIn (off := 785) (tgt := 825) hx hb dL_law_40 (by rw [c17]; decide) (by rw [c17]; decide) (by rw [c17]; rfl) (by decide) ?_
        exact lc_17 X hN hZ hlt hX hH hS hl hK hs hn hcs kk
      by_cases c18 : w = (18 : Int32)
      · refine lv_tableIn (off := 810) (tgt := 850) hx hb dL_law_40 (by rw [c18]; decide) (by rw [c18]; decide) (by rw [c18]; rfl) (by decide) ?_
        exact lc_18 X hN hZ hlt hX hH hS hl hK hs hn hcs kk
      by_cases c19 : w = (19 : Int32)
      · refine lv_tableIn (off := 835) (tgt := 875) hx hb dL_law_40 (by rw [c19]; decide) (by rw [c19]; decide) (by rw [c19]; rfl) (by decide) ?_
        exact lc_19 X hN hZ hlt hX hH hS hl hK hs hn hcs kk
      by_cases c20 : w = (20 : Int32)
      · refine lv_tableIn (off := 848) (tgt := 888) hx hb dL_law_40 (by rw [c20]; decide) (by rw [c20]; decide) (by rw [c20]; rfl) (by decide) ?_
        exact lc_20 X hN hZ hlt hX hH hS hl hK hs hn hcs kk
      by_cases c21 : w = (21 : Int32)
      · refine lv_tableIn (off := 873) (tgt := 913) hx hb dL_law_40 (by rw [c21]; decide) (by rw [c21]; decide) (by rw [c21]; rfl) (by decide) ?_
        exact lc_21 X hN hZ hlt hX hH hS hl hK hs hn hcs kk
      by_cases c22 : w = (22 : Int32)
      · refine lv_tableIn (off := 886) (tgt := 926) hx hb dL_law_40 (by rw [c22]; decide) (by rw [c22]; decide) (by rw [c22]; rfl) (by decide) ?_
        exact lc_22 X hN hZ hlt hX hH hS hl hK hs hn hcs kk
      by_cases c23 : w = (23 : Int32)
      · refine lv_tableIn (off := 899) (tgt := 939) hx hb dL_law_40 (by rw [c23]; decide) (by rw [c23]; decide) (by rw [c23]; rfl) (by decide) ?_
        exact lc_23 X hN hZ hlt hX hH hS hl hK hs hn hcs kk
      by_cases c24 : w = (24 : Int32)
      · refine lv_tableIn (off := 924) (tgt := 964) hx hb dL_law_40 (by rw [c24]; decide) (by rw [c24]; decide) (by rw [c24]; rfl) (by decide) ?_
        exact lc_24 X hN hZ hlt hX hH hS hl hK hs hn hcs kk
      by_cases c25 : w = (25 : Int32)
      · refine lv_tableIn (off := 961) (tgt := 1001) hx hb dL_law_40 (by rw [c25]; decide) (by rw [c25]; decide) (by rw [c25]; rfl) (by decide) ?_
        exact lc_25 X hN hZ hlt hX hH hS hl hK hs hn hcs kk
      by_cases c26 : w = (26 : Int32)
      · refine lv_tableIn (off := 974) (tgt := 1014) hx hb dL_law_40 (by rw [c26]; decide) (by rw [c26]; decide) (by rw [c26]; rfl) (by decide) ?_
        exact lc_26 X hN hZ hlt hX hH hS hl hK hs hn hcs kk
      by_cases c27 : w = (27 : Int32)
      · refine lv_tableIn (off := 987) (tgt := 1027) hx hb dL_law_40 (by rw [c27]; decide) (by rw [c27]; decide) (by rw [c27]; rfl) (by decide) ?_
        exact lc_27 X hN hZ hlt hX hH hS hl hK hs hn hcs kk
      by_cases c28 : w = (28 : Int32)
      · refine lv_tableIn (off := 1012) (tgt := 1052) hx hb dL_law_40 (by rw [c28]; decide) (by rw [c28]; decide) (by rw [c28]; rfl) (by decide) ?_
        exact lc_28 X hN hZ hlt hX hH hS hl hK hs hn hcs kk
      by_cases c29 : w = (29 : Int32)
      · refine lv_tableIn (off := 1037) (tgt := 1077) hx hb dL_law_40 (by rw [c29]; decide) (by rw [c29]; decide) (by rw [c29]; rfl) (by decide) ?_
        exact lc_29 X hN hZ hlt hX hH hS hl hK hs hn hcs kk
      by_cases c30 : w = (30 : Int32)
      · refine lv_tableIn (off := 1062) (tgt := 1102) hx hb dL_law_40 (by rw [c30]; decide) (by rw [c30]; decide) (by rw [c30]; rfl) (by decide) ?_
        exact lc_30 X hN hZ hlt hX hH hS hl hK hs hn hcs kk
      refine lv_tableOut (tgt := 1127) hx hb dL_law_40 (by have h0 := lv_neT (a := 0) c0 rfl; have h1 := lv_neT (a := 1) c1 rfl; have h2 := lv_neT (a := 2) c2 rfl; have h3 := lv_neT (a := 3) c3 rfl; have h4 := lv_neT (a := 4) c4 rfl; have h5 := lv_neT (a := 5) c5 rfl; have h6 := lv_neT (a := 6) c6 rfl; have h7 := lv_neT (a := 7) c7 rfl; have h8 := lv_neT (a := 8) c8 rfl; have h9 := lv_neT (a := 9) c9 rfl; have h10 := lv_neT (a := 10) c10 rfl; have h11 := lv_neT (a := 11) c11 rfl; have h12 := lv_neT (a := 12) c12 rfl; have h13 := lv_neT (a := 13) c13 rfl; have h14 := lv_neT (a := 14) c14 rfl; have h15 := lv_neT (a := 15) c15 rfl; have h16 := lv_neT (a := 16) c16 rfl; have h17 := lv_neT (a := 17) c17 rfl; have h18 := lv_neT (a := 18) c18 rfl; have h19 := lv_neT (a := 19) c19 rfl; have h20 := lv_neT (a := 20) c20 rfl; have h21 := lv_neT (a := 21) c21 rfl; have h22 := lv_neT (a := 22) c22 rfl; have h23 := lv_neT (a := 23) c23 rfl; have h24 := lv_neT (a := 24) c24 rfl; have h25 := lv_neT (a := 25) c25 rfl; have h26 := lv_neT (a := 26) c26 rfl; have h27 := lv_neT (a := 27) c27 rfl; have h28 := lv_neT (a := 28) c28 rfl; have h29 := lv_neT (a := 29) c29 rfl; have h30 := lv_neT (a := 30) c30 rfl; omega) (by decide) ?_
      refine W.widen (k := 200 + 37 * k + 37) (n := 50000 + 3131 * k + 3131) (by omega) (by omega) ?_
      exact kk _ _ _ _ _ _ hl hH hS hK hs
end LO
set_option maxHeartbeats 4000000 in
set_option maxRecDepth 100000 in
theorem whole_start {p : Program} {e : Env} {s : State} {m : MethodId} {below : List Frame} {meth : Method} {c : Code} (l : Launch) (hlt : l.stackTraces = false) {b L : Nat} {xs : Nat → Int32} (hL : L ≤ 3072) (C0 : lw_At p s m meth c b L xs) : W p l e room_1 s m #[Value.ref b] below meth c s.heap [] 0 0 (lw_Z below #[Value.ref b] s) (entryFrame m ([Value.ref b] : List Value).toArray 7) := by
  obtain ⟨G, q, v, hG, X, hN, hTX, hvk, hZ, hH0⟩ := ey_known C0
  obtain ⟨hx, hb, hr, hml, hown, hts, hXs, hbl, hlocks, hgv⟩ := C0
  have hX : l_X s G b L xs := ⟨hXs, hbl, by rw [hG]; exact Nat.not_le.mpr hbl, hL⟩
  have hS : m_S G s s.heap [] := va_S.rf
  have hl := lv_entry ([.ref b]) (n := 7) (Nat.le_of_ble_eq_true rfl)
  rw [lg_entry_eq]
  generalize (lg_sl ([.ref b]) ++ List.replicate (7 - (lg_sl ([.ref b])).length) Slot.unset).toArray = ls at hl ⊢
  have hl : lv_has ls 7 [(0, .ref b)] := hl
  obtain ⟨x, hxx⟩ : ∃ x, x = s.heap.size := ⟨_, rfl⟩
  have hH := hH0 (fun _ _ => 0, fun _ _ => 0, fun _ _ => none)
  rw [← hxx] at hH
  generalize ((fun _ _ => 0, fun _ _ => 0, fun _ _ => none) : m_M) = S0 at hH
  have HI : i_I x (x + 1) (m_new S0 x) := i_I.new (h := x) ⟨fun q a b => by omega, fun q a b => by omega⟩
  obtain ⟨S1, f1, I1, J1, J3, K1⟩ := i_class HI
  obtain ⟨S2, f2, R2, F2⟩ := s_R_0 (m := x + 100) (S := S1)
  refine n_new X hH hS m_Str0 (k := 11) tyX11 (by decide) rfl m_wi11 tyX11_ok in_1_26 in_1_27 in_1_1 m_df11 rfl (nx' := x + 1) rfl (Nat.le_of_ble_eq_true rfl) (Nat.le_of_ble_eq_true rfl) dL_law_0 (fun H κ1 hq1 hk1 hT hH hS => ?_)
  refine lv_dup hx hb dL_law_3 rfl ?_
  refine n_cIT X hN hTX hvk hH hS (c_X11_init (a := x) hT hk1 f1) mw_X11_init in_1_29 rfl in_1_28 rfl ⟨rfl, rfl⟩ ⟨Nat.le_of_ble_eq_true rfl, Nat.le_of_ble_eq_true rfl⟩ ⟨Nat.le_of_ble_eq_true rfl, Nat.le_of_ble_eq_true rfl⟩ hl.1 (Nat.le_of_ble_eq_true rfl) dL_law_4 (fun H locs κ2 hq2 hg2 hT hH hS => ?_)
  refine lv_astore_n (lv' := [(1, .ref x), (0, .ref b)]) hx hb dL_law_7 rfl hl (by decide) rfl (fun ls hl => ?_)
  have kx2 : κ2 x = 12 := hg2 0 12 rfl
  have hH : m_H G (x + 100) κ2 S1 H := hH
  refine n_new X hH hS hT (k := 12) tyX12 (by decide) rfl m_wi12 tyX12_ok in_6_179 in_6_173 in_1_19 m_df12 rfl (nx' := x + 101) rfl (Nat.le_of_ble_eq_true rfl) (Nat.le_of_ble_eq_true rfl) dL_law_8 (fun H κ3 hq3 hk3 hT hH hS => ?_)
  refine lv_dup hx hb dL_law_11 rfl ?_
  refine n_cI X hN hH hS (c_X12_init (a := x + 100) hT hk3 f2) mw_X12_init in_6_181 rfl in_6_180 rfl ⟨rfl, rfl⟩ ⟨Nat.le_of_ble_eq_true rfl, Nat.le_of_ble_eq_true rfl⟩ ⟨Nat.le_of_ble_eq_true rfl, Nat.le_of_ble_eq_true rfl⟩ hl.1 (Nat.le_of_ble_eq_true rfl) dL_law_12 (fun H locs κ4 hq4 hg4 hT hH hS => ?_)
  refine lv_astore_n (lv' := [(2, .ref (x + 100)), (1, .ref x), (0, .ref b)]) hx hb dL_law_15 rfl hl (by decide) rfl (fun ls hl => ?_)
  have km4 : κ4 (x + 100) = 13 := hg4 0 13 rfl
  have kx4 : κ4 x = 12 := by rw [hq4 x (by omega), hq3 x (by omega)]; exact kx2
  have hH : m_H G (x + 130) κ4 S2 H := hH
  refine lv_iconst (v := (1 : Int32)) hx hb dL_law_16 (by decide) ?_
  refine n_newa X hH hS hT (ty := .long) (N := 1) rfl in_1_120 2 rfl (by decide) rfl m_RAl (by decide) (by decide) (by decide) rfl (nx' := x + 131) rfl (Nat.le_of_ble_eq_true rfl) (Nat.le_of_ble_eq_true rfl) dL_law_17 (fun H κ5 hq5 hk5 hT hH hS => ?_)
  refine lv_astore_n (lv' := [(3, .ref (x + 130)), (2, .ref (x + 100)), (1, .ref x), (0, .ref b)]) hx hb dL_law_19 rfl hl (by decide) rfl (fun ls hl => ?_)
  refine lv_iconst (v := (0 : Int32)) hx hb dL_law_20 (by decide) ?_
  refine lv_istore (lv' := [(4, .int 0), (3, .ref (x + 130)), (2, .ref (x + 100)), (1, .ref x), (0, .ref b)]) hx hb dL_law_21 hl (by decide) rfl (fun ls hl => ?_)
  have hK : l_K x (x + 131) κ5 := ⟨hT, by rw [hq5 x (by omega)]; exact kx4, by rw [hq5 (x + 100) (by omega)]; exact km4, hk5, Nat.le_refl _⟩
  have hs : l_S x (m_new S2 (x + 130)) := by
    refine ⟨s_0, s_V_0, s_C_0 (I1.kept fun q hq => ?_) (c_kq.kept (S := S1) ⟨J1.1, J3.1, J1.2, J3.2⟩ ⟨?_, ?_, ?_, ?_⟩) (fun i hi => ?_), R2.far fun q h1 h2 => ?_⟩
    · rw [i_nr, i_nn, m_up_ne (by omega), m_up_ne (by omega)]; exact ⟨(F2 q hq).1, (F2 q hq).2.2⟩
    · rw [i_nj, m_up_ne (by omega), (F2 (x + 26) (by omega)).2.1]
    · rw [i_nj, m_up_ne (by omega), (F2 (x + 38) (by omega)).2.1]
    · rw [i_nr, m_up_ne (by omega), (F2 (x + 25) (by omega)).1]
    · rw [i_nr, m_up_ne (by omega), (F2 (x + 37) (by omega)).1]
    · rw [i_nr, m_up_ne (by omega), (F2 (x + 76) (by omega)).1]; exact K1 i hi
    · rw [i_nr, i_nj, m_up_ne (by omega), m_up_ne (by omega)]; exact ⟨rfl, rfl⟩
  refine W.widen (k := 200 + 37 * 0) (n := 50000 + 3131 * 0) (Nat.le_of_ble_eq_true rfl) (Nat.le_of_ble_eq_true rfl) ?_
  exact l_loop X hN hZ hlt hX hr hG 513 0 rfl (Nat.zero_le _) H _ ls (x + 131) κ5 (m_new S2 (x + 130)) (lv_sub hl [4, 3, 2, 1, 0] rfl) hH hS hK hs
set_option maxHeartbeats 4000000 in
theorem lw_walk (l : Launch) (hlt : l.stackTraces = false) (b : Addr) (xs : List Int32) : MetFree l x (headSpec (Jvm.Cond.code x code maxLocals ret :: tables_1) room_1) (lw_P b xs) (fun _ _ _ _ _ => True) lw_Q := by
  refine MetFree.of_bodyS (code := code) (maxLocals := maxLocals) (ret := ret) (by decide) ?_ ?_
  · intro args s m h hn
    obtain ⟨meth, c, h1, h2, h3, h4, h5, h6, -, -⟩ := Cond.code_spec hn (atoms_spec (ws := Jvm.Cond.code x code maxLocals ret :: tables_1) h _ List.mem_cons_self)
    exact ⟨meth, c, h1, h2, h3, h4, h5, h6⟩
  · intro p e s m args below meth c s₁ B hml0 hP _
    obtain ⟨rfl, hx, hbd, hgv⟩ := hP
    obtain ⟨scr, harrAt, hlist, hof, hsmall⟩ := hx
    obtain ⟨hcb, hkn, -, -⟩ := State.arrayAt?_spec harrAt
    have hown : s.vm.findClass R_law = some m.cls := findClass_of_methodNamed B.named
    have hts0 : ∀ c ∈ (Jvm.Cond.code x code maxLocals ret :: tables_1), c.before #[Value.ref b] s = true := atoms_spec (ws := Jvm.Cond.code x code maxLocals ret :: tables_1) B.pre
    have hts : ∀ w ∈ lw_tbl, w.before #[Value.ref b] s = true := k2_hts_sels lw_privs (fun w hw => hts0 w (List.mem_cons_of_mem _ hw)) lw_privs_ok
    have hml : c.maxLocals = 7 := B.maxLocals_eq (hts0 _ List.mem_cons_self)
    have X₀ : Stand p l e room_1 s m #[Value.ref b] below meth c s₁ [] 0 0 := Stand.of_body B
    have hh0 : s₁.heap = s.heap := by rw [B.state]; rfl
    have hsz : scr.slots.size = xs.length := by rw [← Array.length_toList, hlist, List.length_map]
    have hval : ∀ j : Nat, j < xs.length → scr.slots[j]? = some (.int (xs.getD j 0)) := fun j hj => by
      rw [← Array.getElem?_toList, hlist]
      simp [hj]
    have hbl : b < s.heap.size := (Array.getElem?_eq_some_iff.mp hcb).1
    have hX : va_X b xs.length (fun j => xs.getD j 0) s s.heap := ⟨scr, hcb, hof, hkn, hsz, hval⟩
    have K : W p l e room_1 s m #[Value.ref b] below meth c s₁.heap [] 0 0 (lw_Z below #[Value.ref b] s) (entryFrame m ([Value.ref b] : List Value).toArray 7) := by
      rw [hh0]
      exact whole_start l hlt hbd ⟨B.exec, B.bytes, B.returns, hml, hown, hts, hX, hbl, B.notSynchronized, hgv⟩
    obtain ⟨t, a1, o, b1, b2, b3⟩ := K s₁ rfl X₀
    exact ⟨t, o, a1, b1, b2, b3⟩
theorem lw_pre_spec {args : Array Value} {s : State} (h : (Jvm.Cond.and given_1 narrow_1).before args s = true) (hr : rest_1_c.before args s = true) : ∃ (b : Addr) (xs : List Int32), lw_P b xs args s := by
  have hs := flat_of_before _ h
  have hq := flat_of_before _ hr
  have hc : (Cond.count 1).before args s = true := hs _ (by decide +kernel)
  have harr : (Cond.arrayOf (.arg 0) .int).before args s = true := hs _ (by decide +kernel)
  have hle : (Cond.le (.length (.arg 0)) (.int 3072)).before args s = true := hs _ (by decide +kernel)
  have hlen : (Cond.isInt (.length (.arg 0))).before args s = true := hq _ (by decide +kernel)
  have hall : (Cond.all (.arg 0) (.isInt (.elem (.arg 0) (.index 0)))).before args s = true := hq _ (by decide +kernel)
  obtain ⟨b, xs, hb, hx⟩ := State.ints_of_pre rfl harr hlen hall
  have hsm : xs.length < 2 ^ 31 := hx.choose_spec.2.2.2
  have hev : (Term.length (.arg 0)).eval args s none [] s = some (.int xs.length.toInt32) := hx.length_eval hb
  have hv := Cond.le_ints hev (show (Term.int 3072).eval args s none [] s = some (.int 3072) from rfl)
  have hd : xs.length.toInt32 ≤ 3072 := by
    simpa [Cond.before, Cond.holds, hv] using hle
  have hN : xs.length ≤ 3072 := (Int32.ofNat_le_ofNat hsm (by decide)).mp (show Int32.ofNat xs.length ≤ Int32.ofNat 3072 from hd)
  exact ⟨b, xs, Cond.one_arg hc (show args[0]? = some (.ref b) from hb), hx, hN, h⟩
theorem lw_comes (l : Launch) (hlt : l.stackTraces = false) : Comes l x (Jvm.Cond.code x code maxLocals ret :: tables_1) room_1 (fun tb e args s => Calls_1 tb e args s ∧ rest_1 tb e args s ∧ Pre_1 tb e args s)
    (fun _ _ args s o t => lw_Q args s o t) := by
  intro p e ha hc hk s m args below hf hfit hheap happ hpre
  obtain ⟨b, xs, hP⟩ := lw_pre_spec hpre.2.2 hpre.2.1
  obtain ⟨k, o, h1, h2, h3, hQ⟩ := lw_walk l hlt b xs p e ha hc hk s m args below hf ((Spec.applies_iff_loose hf).mp happ).1 hP trivial
  exact ⟨k, o, h1, h2, h3, hQ⟩
theorem lw_frame {s t : State} {o : Outcome} {args : Array Value} (h : Framed s o t [] 601024 7293034) :
    Framed s o t (fieldLocs frame_1_writes args s ++ arrayLocs frame_1_arrays args s ++ staticLocs frame_1_statics s) 601024 7293034 := h
theorem lw_limb (L : Cond) (hL : ∀ (args : Array Value) (s t : State), L.after args s (.returned (some (.int 1))) t = true) :
    ArmFor flags0 classFile x code maxLocals ret World_1 tables_1 room_1 Calls_1 rest_1 Pre_1
      (fun tb e a s o t => postC L tb e a s o t ∧ Framed s o t (fieldLocs frame_1_writes a s ++ arrayLocs frame_1_arrays a s ++ staticLocs frame_1_statics s) 601024 7293034) := by
  intro l hfl _ _ p e ha hc hk s m args below hf hfit hheap happ hpre
  obtain ⟨k, o, h1, h2, h3, rfl, hF⟩ := lw_comes l (by unfold Launch.stackTraces; rw [hfl]; decide +kernel) p e ha hc hk s m args below hf hfit hheap happ hpre
  exact ⟨k, _, h1, h2, h3, hL args s _, lw_frame hF⟩
theorem i_vc : Claimed_1_1 ∧ Claimed_1_2 := ⟨lw_limb limb_1_1 (fun args s t => by simp [limb_1_1, Cond.after, Cond.holds, Cond.value]), lw_limb limb_1_2 (fun args s t => Cond.after_iff.mpr (by
  first | (rw [show limb_1_2 = Cond.eq .result (.int 1) from rfl, Cond.eq_ints (x := 1) (y := 1) rfl rfl]; simp; done) | (simp [limb_1_2, Cond.value, Term.eval]; done)))⟩
