/-! a final int field, set while the object is being made -/
section MRawf
variable {p : Program} {l : Launch} {e : Env} {R : Room} {s : State} {m : MethodId} {args : Array Value} {below : List Frame} {meth : Method} {c : Code} {H : Heap} {locs : List Loc} {cells slots : Nat} {Q : State → Prop}
variable {cc : ByteArray} {nL : Nat} {own : String} {pc : Nat} {ls : Array Slot} {st rest As : List Value} {G : m_G} {nx : Nat} {κ : Nat → Nat} {S S' : m_M}
theorem n_puwfi (X : m_Cx p s m args meth c cc nL own G) (hinit : meth.name = "<init>") (hH : m_H G nx κ S H) (hS0 : m_S G s H locs) {k i a j index N : Nat} {C : String} {T : u_T} (ty0 : Nat → FieldType) {v : Int32} (hk : κ a = m_ac 7 (100 * k + i)) (hkl : k < 13) (hi : i < 100) (hc : vwCl[k]? = some (C, T, N)) (hin : ∀ w ∈ u_ws C T N, w ∈ m_gW) (hty : ∀ k, k < N → parseFieldDescriptor (T k).2.2.1 = some (ty0 k)) (hnm : ∀ a, a < N → ∀ b, b < N → a ≠ b → (T a).2.1 ≠ (T b).2.1)
    (hj : j < N) (hlink : Cond.fieldLink own index C (T j).2.1 (T j).2.2.1 ∈ m_gW) (hC : (T j).1 = C) (hCo : C = own) (hfin : (T j).2.2.2 = true) (ht : ((m_tab k).getD j (0, 0, 0)).1 = 0) (hn : narrow (ty0 j) (.int v) = .int v ∧ fits (ty0 j) (.int v) = true) (hv : m_si S a j v = S')
    (hdg : decode cc pc = .ok (.putfield index, 3)) (kk : ∀ (H1 : Heap) (locs1 : List Loc), m_H G nx κ S' H1 → m_S G s H1 locs1 → W p l e R s m args below meth c H1 locs1 cells slots Q (F0 m (pc + 3) ls rest)) : W p l e R s m args below meth c H locs cells slots Q (F0 m pc ls (.int v :: .ref a :: rest)) := by
  subst hv
  obtain ⟨⟨hx, hb, -, hown, hts⟩, hK, -, -⟩ := X
  have hap := va_apart (own := own) hts hin ty0 hty hnm hK hc
  obtain ⟨r, h1, cell, q1, q2, q3, q4⟩ := hH.2.2.2.1 a k i hk hkl hi
  have hr : r = (C, T, N) := Option.some.inj (h1.symm.trans hc)
  subst hr
  obtain ⟨hS, hfc, kC, hkC, hkind⟩ := hK.1 k _ hc
  obtain ⟨cf, kf, fi, f, hif, hsl⟩ := hS j hj
  have hlay := hts _ (hin _ (u_in_lay hj))
  unfold u_lay at hlay
  rw [if_pos hfin] at hlay
  have hst := (u_facts hfc hkC (u_lays hts hin hj) hif).1
  have hcf : m.cls = cf := by
    obtain ⟨_, _, c', _, _, _, -, -, hf', -, -, -, hown2, -⟩ := Cond.laysFinal_spec hlay
    have e1 : c' = cf := by have := hif.symm.trans hf'; simp at this; exact this.1.symm
    rw [hC, hCo] at hown2
    rw [← e1]; exact Option.some.inj (hown.symm.trans hown2)
  have h6 := u_fits hfc hkC hkind (Or.inr hlay) hif (hty j hj) hn.1 hn.2
  refine W.putFinK hx hb hown (hts _ hlink) (by rw [← hC]; exact hif) hst hcf hinit (by rw [q2]; exact h6) q1 q3 (by rw [hsl]; exact k2_hasslot (q4 j hj)) rfl rfl hdg fun H' g1 g2 g3 => ?_
  rw [hsl] at g1 ⊢
  refine kk H' _ (hH.one g2 g3 (fun q h => m_si_ne h) (fun _ _ => rfl) (fun q _ => rfl) (fun k' hk' _ => ?_) (fun k' i' hk' _ _ => ?_) (fun t n hk' _ => ?_) (fun n hk' => ?_) (fun t n hk' _ => ?_)) (hS0.put g2 g3 (hH.2.1.2 a (by rw [hk]; simp only [m_ac]; omega)).1)
  · rw [hk] at hk'; simp only [m_ac] at hk'; omega
  · have := (m_ac_inj (by omega) (by omega) (hk.symm.trans hk')).2
    have e5 : k' = k := by omega
    have e6 : i' = i := by omega
    subst e5; subst e6
    refine ⟨_, hc, t_OB.to (V := updV (m_ow S a k' i') j (.int v)) ⟨_, g1, q2, q3, t_set q4 hap hj (.int v)⟩ (fun q _ => ?_)⟩
    rw [m_ow_si ht q]; rfl
  · have := m_ac_inj (by omega) (by omega) (hk.symm.trans hk'); omega
  · have := m_ac_inj (by omega) (by omega) (hk.symm.trans hk'); omega
  · have := m_ac_inj (by omega) (by omega) (hk.symm.trans hk'); omega
end MRawf
def rm_X9_init : Room := { frames := 6, cells := 4, slots := 2725, locals := 220 }
def b_X9_init_126 (x : Nat) : Nat → m_M → Int32 → Int64 → Int32 → Option m_M
  | 0, _, _, _, _ => none
  | n + 1, S, l2, l3, l5 =>
    if (113 : Int32) ≤ l5 then some S else
    if (22 : Int32) ≤ l2 then some S else
    if l5 < 0 ∨ 113 ≤ l5.toNatClampNeg then none else
    if m_ch l5.toNatClampNeg = (32 : Int32) then (
      (m_stj S (x + 26) 22 l2 l3).bind fun S1 =>
      m_let (l2 + (1 : Int32)) fun v2 =>
      m_let (l5 + (1 : Int32)) fun v5 =>
      b_X9_init_126 x n S1 v2 (0 : Int64) v5) else (
      m_call (f_X9_withLetter S l3 (m_ch l5.toNatClampNeg)) fun v3 S1 =>
      m_let (l5 + (1 : Int32)) fun v5 =>
      b_X9_init_126 x n S1 l2 v3 v5)
set_option maxHeartbeats 4000000 in
set_option maxRecDepth 100000 in
theorem k_X9_init_126 {p : Program} {l : Launch} {e : Env} {s : State} {m : MethodId} {args : Array Value} {below : List Frame} {meth : Method} {c : Code} {G : m_G} {κ κ0 : Nat → Nat} {S' : m_M} {x q v : Nat} (X : m_Cx p s m args meth c cX9_init 6 RX9 G) (hN : m_N s) (hXs : m_TX G.2.2 q v s) (hZ : vk_R RX9 74 m_kwt q s) (hr : meth.sig.returnType = none) (hT : m_Str κ) (hk_s : κ (x + 25) = 10) (hq : ∀ q, q < (x + 25) → κ q = κ0 q) (hg : m_seg κ (x + 25) [10, 278, 7309, 7309, 7310]) (n : Nat) :
    ∀ (S : m_M) (l2 : Int32) (l3 : Int64) (l5 : Int32) (H : Heap) (locs : List Loc) (ls : Array Slot), m_H G (x + 30) κ S H → m_S G s H locs → lv_has ls 6 [(0, .ref (x + 25)), (2, .int l2), (3, .long l3), (5, .int l5)] → b_X9_init_126 x n S l2 l3 l5 = some S' → W p l e rm_X9_init s m args below meth c H locs 4 2725 (m_QK below args s G (x + 25) [10, 278, 7309, 7309, 7310] κ0 S' 4 2725) (F0 m 126 ls []) := by
  have hx := X.1.1
  have hb := X.1.2.1
  induction n with
  | zero => intro S l2 l3 l5 H locs ls hH hS hl hm; have hm : (none : Option m_M) = some S' := hm; cases hm
  | succ n ih =>
    intro S l2 l3 l5 H locs ls hH hS hl hm
    rw [b_X9_init_126] at hm
    refine lv_iload hx hb dX9_init_126 (lv_at hl 3 rfl) ?_
    refine va_ldcS hx hb X.1.2.2.2.1 hZ dX9_init_128 ?_
    refine n_cR (As := []) X.1 hXs hS c_length mw_J0_length_8abf5 rfl in_1_197 rfl ⟨rfl, rfl⟩ ⟨Nat.le_of_ble_eq_true rfl, Nat.le_of_ble_eq_true rfl⟩ ⟨Nat.le_of_ble_eq_true rfl, Nat.le_of_ble_eq_true rfl⟩ hl.1 (Nat.le_of_ble_eq_true rfl) dX9_init_130 ?_
    refine lv_icmp_ge (tgt := 187) hx hb dX9_init_133 (by decide) (fun c1 => ?_) (fun c1 => ?_)
    · have hm := m_ite_t hm c1
      exact r_kret X hN hr hH hS hm hT hq hg rfl (Nat.le_refl _) (Nat.le_refl _) dX9_init_187
    have hm := m_ite_f hm c1
    refine lv_iload_n hx hb dX9_init_136 rfl (lv_at hl 1 rfl) ?_
    refine lv_bipush (v := (22 : Int32)) hx hb dX9_init_137 (by decide) ?_
    refine lv_icmp_ge (tgt := 187) hx hb dX9_init_139 (by decide) (fun c2 => ?_) (fun c2 => ?_)
    · have hm := m_ite_t hm c2
      exact r_kret X hN hr hH hS hm hT hq hg rfl (Nat.le_refl _) (Nat.le_refl _) dX9_init_187
    have hm := m_ite_f hm c2
    obtain ⟨hin, hm⟩ := m_ifn_of hm
    refine va_ldcS hx hb X.1.2.2.2.1 hZ dX9_init_142 ?_
    refine lv_iload hx hb dX9_init_144 (lv_at hl 3 rfl) ?_
    refine n_cR (As := [.int l5]) X.1 hXs hS (c_charAt hin) mw_J0_charAt_5068e rfl in_1_207 rfl ⟨rfl, rfl⟩ ⟨Nat.le_of_ble_eq_true rfl, Nat.le_of_ble_eq_true rfl⟩ ⟨Nat.le_of_ble_eq_true rfl, Nat.le_of_ble_eq_true rfl⟩ hl.1 (Nat.le_of_ble_eq_true rfl) dX9_init_146 ?_
    refine lv_bipush (v := (32 : Int32)) hx hb dX9_init_149 (by decide) ?_
    refine lv_icmp_ne (tgt := 169) hx hb dX9_init_151 (by decide) (fun c3 => ?_) (fun c3 => ?_)
    · have hm := m_ite_f hm c3
      refine lv_lload_n hx hb dX9_init_169 rfl (lv_at hl 2 rfl) ?_
      refine va_ldcS hx hb X.1.2.2.2.1 hZ dX9_init_170 ?_
      refine lv_iload hx hb dX9_init_172 (lv_at hl 3 rfl) ?_
      refine n_cR (As := [.int l5]) X.1 hXs hS (c_charAt hin) mw_J0_charAt_5068e rfl in_1_207 rfl ⟨rfl, rfl⟩ ⟨Nat.le_of_ble_eq_true rfl, Nat.le_of_ble_eq_true rfl⟩ ⟨Nat.le_of_ble_eq_true rfl, Nat.le_of_ble_eq_true rfl⟩ hl.1 (Nat.le_of_ble_eq_true rfl) dX9_init_174 ?_
      obtain ⟨v3, S1, e_S1, hm⟩ := m_call_of hm
      refine n_cSl X hH hS (c_X9_withLetter hT e_S1) mw_X9_withLetter in_2_5 rfl ⟨rfl, rfl⟩ ⟨Nat.le_of_ble_eq_true rfl, Nat.le_of_ble_eq_true rfl⟩ ⟨Nat.le_of_ble_eq_true rfl, Nat.le_of_ble_eq_true rfl⟩ hl.1 (Nat.le_of_ble_eq_true rfl) dX9_init_177 (fun H locs hH hS => ?_)
      refine lv_lstore_n (lv' := [(3, .long v3), (0, .ref (x + 25)), (2, .int l2), (5, .int l5)]) hx hb dX9_init_180 rfl hl (by decide) rfl (fun ls hl => ?_)
      obtain ⟨v5, e_v5, hm⟩ := m_let_of hm
      refine lv_iinc (v := v5) (lv' := [(5, .int v5), (3, .long v3), (0, .ref (x + 25)), (2, .int l2)]) hx hb dX9_init_181 hl (k := 3) rfl (by rw [← e_v5]; rfl) (by decide) rfl (fun ls hl => ?_)
      refine lv_goto (tgt := 126) hx hb dX9_init_184 (by decide) ?_
      exact ih S1 l2 v3 v5 _ _ _ hH hS (lv_sub hl [2, 3, 1, 0] rfl) hm
    · have hm := m_ite_t hm c3
      refine lv_aload_n hx hb dX9_init_154 rfl (lv_at hl 0 rfl) ?_
      refine r_getp X hH (k := 9) (a := (x + 25)) (j := 1) (b := (x + 26)) (A := 1) (B := 0) hk_s (by decide) rfl m_wi9 (by decide) in_2_10 rfl rfl (by first | rfl | omega) dX9_init_155 ?_
      refine lv_iload_n hx hb dX9_init_158 rfl (lv_at hl 1 rfl) ?_
      refine lv_lload_n hx hb dX9_init_159 rfl (lv_at hl 2 rfl) ?_
      obtain ⟨S1, h_S1, e_S1, hm⟩ := n_stj hm
      refine n_last X hH hS (n := 22) (hg 1 _ rfl) h_S1 e_S1 dX9_init_160 (fun H locs hH hS => ?_)
      obtain ⟨v2, e_v2, hm⟩ := m_let_of hm
      refine lv_iinc (v := v2) (lv' := [(2, .int v2), (0, .ref (x + 25)), (3, .long l3), (5, .int l5)]) hx hb dX9_init_161 hl (k := 1) rfl (by rw [← e_v2]; rfl) (by decide) rfl (fun ls hl => ?_)
      refine lv_lconst (v := (0 : Int64)) hx hb dX9_init_164 (by decide) ?_
      refine lv_lstore_n (lv' := [(3, .long (0 : Int64)), (2, .int v2), (0, .ref (x + 25)), (5, .int l5)]) hx hb dX9_init_165 rfl hl (by decide) rfl (fun ls hl => ?_)
      refine lv_goto (tgt := 181) hx hb dX9_init_166 (by decide) ?_
      obtain ⟨v5, e_v5, hm⟩ := m_let_of hm
      refine lv_iinc (v := v5) (lv' := [(5, .int v5), (3, .long (0 : Int64)), (2, .int v2), (0, .ref (x + 25))]) hx hb dX9_init_181 hl (k := 3) rfl (by rw [← e_v5]; rfl) (by decide) rfl (fun ls hl => ?_)
      refine lv_goto (tgt := 126) hx hb dX9_init_184 (by decide) ?_
      exact ih S1 v2 (0 : Int64) v5 _ _ _ hH hS (lv_sub hl [3, 2, 1, 0] rfl) hm
def f_X9_init (x : Nat) (S : m_M) : Option m_M :=
    m_let (m_new S (x + 26)) fun S1 =>
    m_let (m_si S1 (x + 25) 5 (0 : Int32)) fun S4 =>
    m_let (m_si S4 (x + 25) 6 (0 : Int32)) fun S5 =>
    m_let (m_si S5 (x + 25) 7 (0 : Int32)) fun S6 =>
    m_let (m_si S6 (x + 25) 8 (-1 : Int32)) fun S7 =>
    m_let (m_si S7 (x + 25) 9 (0 : Int32)) fun S8 =>
    m_let (m_si S8 (x + 25) 10 (0 : Int32)) fun S9 =>
    m_let (m_si S9 (x + 25) 11 (-1 : Int32)) fun S10 =>
    m_let (m_si S10 (x + 25) 12 (-1 : Int32)) fun S11 =>
    m_let (m_si S11 (x + 25) 13 (-1 : Int32)) fun S12 =>
    m_let (m_sj S12 (x + 25) 14 (-1 : Int64)) fun S13 =>
    m_let (m_si S13 (x + 25) 15 (0 : Int32)) fun S14 =>
    m_let (m_si S14 (x + 25) 16 (0 : Int32)) fun S15 =>
    m_let (m_si S15 (x + 25) 0 (900 : Int32)) fun S16 =>
    m_let (m_new S16 (x + 27)) fun S17 =>
    m_let (m_new S17 (x + 28)) fun S20 =>
    m_let (m_new S20 (x + 29)) fun S23 =>
    b_X9_init_126 x m_fu S23 (0 : Int32) (0 : Int64) (0 : Int32)
set_option maxHeartbeats 4000000 in
set_option maxRecDepth 100000 in
theorem c_X9_init {l : Launch} {G : m_G} {κ : Nat → Nat} {x q v : Nat} {S S' : m_M} (hT : m_Str κ) (hk1 : κ (x + 25) = m_ac 7 (100 * 9)) (hm : f_X9_init x S = some S') : m_KT l yX9_init cX9_init 6 rm_X9_init G (x + 25) [10, 278, 7309, 7309, 7310] (x + 26) κ q v [.ref (x + 25), .int (900 : Int32)] S S' 4 2725 := by
  refine m_KT.of (by decide) rfl (Nat.le_of_ble_eq_true rfl) ?_
  intro p e s m args below meth c ls X hN hXs hZ hin hr hH hl
  have hx := X.1.1
  have hb := X.1.2.1
  have hS : m_S G s s.heap [] := va_S.rf
  have hl : lv_has ls 6 [(0, .ref (x + 25)), (1, .int (900 : Int32))] := hl
  have hg : m_seg κ (x + 25) [7307] := m_seg.one hk1
  have hq : ∀ q, q < (x + 25) → κ q = κ q := fun _ _ => rfl
  rw [f_X9_init] at hm
  refine lv_aload_n hx hb dX9_init_0 rfl (lv_at hl 0 rfl) ?_
  refine W.objInit hx hb X.1.2.2.2.1 (m_w X in_1_191) (m_w X in_1_32) (m_w X in_1_33) rfl (by rw [X.1.2.2.1]; exact hl.1) rfl dX9_init_1 (Nat.le_of_ble_eq_true rfl) (Nat.le_of_ble_eq_true rfl) ?_
  refine W.eq (g2 := F0 m 4 ls []) rfl ?_
  refine lv_aload_n hx hb dX9_init_4 rfl (lv_at hl 0 rfl) ?_
  refine lv_bipush (v := (22 : Int32)) hx hb dX9_init_5 (by decide) ?_
  obtain ⟨S1, e_S1, hm⟩ := m_let_of hm
  refine n_newa X hH hS hT (ty := .long) (N := 22) rfl in_1_120 2 rfl (by decide) rfl m_RAl (by decide) (by decide) (by decide) e_S1 (nx' := (x + 27)) rfl (Nat.le_of_ble_eq_true rfl) (Nat.le_of_ble_eq_true rfl) dX9_init_7 (fun H κ2 hq1 hk1 hT hH hS => ?_)
  have hg : m_seg κ2 (x + 25) [7307, 278] := hg.grow rfl hq1 hk1
  have hq := m_lt_nx hq (by omega) hq1
  refine n_puwr X hin hH hS hT (k := 9) (i := 0) (a := (x + 25)) (b := (x + 26)) (j := 1) (A := 1) (B := 0) tyX9 (hg 0 _ rfl) (by decide) (by decide) rfl m_wi9 tyX9_ok nmX9 (by decide) in_2_10 rfl rfl rfl rfl rfl (by first | rfl | omega) ⟨rfl, rfl⟩ dX9_init_9 (fun H locs κ3 hq1 hk1 hT hH hS => ?_)
  have hg : m_seg κ3 (x + 25) [7315, 278] := hg.swap hq1 hk1
  have hq := m_lt_ne hq hq1
  refine lv_aload_n hx hb dX9_init_12 rfl (lv_at hl 0 rfl) ?_
  refine lv_iconst (v := (0 : Int32)) hx hb dX9_init_13 (by decide) ?_
  obtain ⟨S4, e_S4, hm⟩ := m_let_of hm
  refine n_puwi X hH hS tyX9 (k := 9) (i := 1) (a := (x + 25)) (j := 5) (hg 0 _ rfl) (by decide) (by decide) rfl m_wi9 tyX9_ok nmX9 (by decide) in_2_14 rfl rfl rfl ⟨rfl, rfl⟩ e_S4 dX9_init_14 (fun H locs hH hS => ?_)
  refine lv_aload_n hx hb dX9_init_17 rfl (lv_at hl 0 rfl) ?_
  refine lv_iconst (v := (0 : Int32)) hx hb dX9_init_18 (by decide) ?_
  obtain ⟨S5, e_S5, hm⟩ := m_let_of hm
  refine n_puwi X hH hS tyX9 (k := 9) (i := 1) (a := (x + 25)) (j := 6) (hg 0 _ rfl) (by decide) (by decide) rfl m_wi9 tyX9_ok nmX9 (by decide) in_2_15 rfl rfl rfl ⟨rfl, rfl⟩ e_S5 dX9_init_19 (fun H locs hH hS => ?_)
  refine lv_aload_n hx hb dX9_init_22 rfl (lv_at hl 0 rfl) ?_
  refine lv_iconst (v := (0 : Int32)) hx hb dX9_init_23 (by decide) ?_
  obtain ⟨S6, e_S6, hm⟩ := m_let_of hm
  refine n_puwi X hH hS tyX9 (k := 9) (i := 1) (a := (x + 25)) (j := 7) (hg 0 _ rfl) (by decide) (by decide) rfl m_wi9 tyX9_ok nmX9 (by decide) in_2_16 rfl rfl rfl ⟨rfl, rfl⟩ e_S6 dX9_init_24 (fun H locs hH hS => ?_)
  refine lv_aload_n hx hb dX9_init_27 rfl (lv_at hl 0 rfl) ?_
  refine lv_iconst (v := (-1 : Int32)) hx hb dX9_init_28 (by decide) ?_
  obtain ⟨S7, e_S7, hm⟩ := m_let_of hm
  refine n_puwi X hH hS tyX9 (k := 9) (i := 1) (a := (x + 25)) (j := 8) (hg 0 _ rfl) (by decide) (by decide) rfl m_wi9 tyX9_ok nmX9 (by decide) in_2_17 rfl rfl rfl ⟨rfl, rfl⟩ e_S7 dX9_init_29 (fun H locs hH hS => ?_)
  refine lv_aload_n hx hb dX9_init_32 rfl (lv_at hl 0 rfl) ?_
  refine lv_iconst (v := (0 : Int32)) hx hb dX9_init_33 (by decide) ?_
  obtain ⟨S8, e_S8, hm⟩ := m_let_of hm
  refine n_puwi X hH hS tyX9 (k := 9) (i := 1) (a := (x + 25)) (j := 9) (hg 0 _ rfl) (by decide) (by decide) rfl m_wi9 tyX9_ok nmX9 (by decide) in_2_18 rfl rfl rfl ⟨rfl, rfl⟩ e_S8 dX9_init_34 (fun H locs hH hS => ?_)
  refine lv_aload_n hx hb dX9_init_37 rfl (lv_at hl 0 rfl) ?_
  refine lv_iconst (v := (0 : Int32)) hx hb dX9_init_38 (by decide) ?_
  obtain ⟨S9, e_S9, hm⟩ := m_let_of hm
  refine n_puwi X hH hS tyX9 (k := 9) (i := 1) (a := (x + 25)) (j := 10) (hg 0 _ rfl) (by decide) (by decide) rfl m_wi9 tyX9_ok nmX9 (by decide) in_2_21 rfl rfl rfl ⟨rfl, rfl⟩ e_S9 dX9_init_39 (fun H locs hH hS => ?_)
  refine lv_aload_n hx hb dX9_init_42 rfl (lv_at hl 0 rfl) ?_
  refine lv_iconst (v := (-1 : Int32)) hx hb dX9_init_43 (by decide) ?_
  obtain ⟨S10, e_S10, hm⟩ := m_let_of hm
  refine n_puwi X hH hS tyX9 (k := 9) (i := 1) (a := (x + 25)) (j := 11) (hg 0 _ rfl) (by decide) (by decide) rfl m_wi9 tyX9_ok nmX9 (by decide) in_2_22 rfl rfl rfl ⟨rfl, rfl⟩ e_S10 dX9_init_44 (fun H locs hH hS => ?_)
  refine lv_aload_n hx hb dX9_init_47 rfl (lv_at hl 0 rfl) ?_
  refine lv_iconst (v := (-1 : Int32)) hx hb dX9_init_48 (by decide) ?_
  obtain ⟨S11, e_S11, hm⟩ := m_let_of hm
  refine n_puwi X hH hS tyX9 (k := 9) (i := 1) (a := (x + 25)) (j := 12) (hg 0 _ rfl) (by decide) (by decide) rfl m_wi9 tyX9_ok nmX9 (by decide) in_2_25 rfl rfl rfl ⟨rfl, rfl⟩ e_S11 dX9_init_49 (fun H locs hH hS => ?_)
  refine lv_aload_n hx hb dX9_init_52 rfl (lv_at hl 0 rfl) ?_
  refine lv_iconst (v := (-1 : Int32)) hx hb dX9_init_53 (by decide) ?_
  obtain ⟨S12, e_S12, hm⟩ := m_let_of hm
  refine n_puwi X hH hS tyX9 (k := 9) (i := 1) (a := (x + 25)) (j := 13) (hg 0 _ rfl) (by decide) (by decide) rfl m_wi9 tyX9_ok nmX9 (by decide) in_2_28 rfl rfl rfl ⟨rfl, rfl⟩ e_S12 dX9_init_54 (fun H locs hH hS => ?_)
  refine lv_aload_n hx hb dX9_init_57 rfl (lv_at hl 0 rfl) ?_
  refine lv_ldc2 hx hb X.1.2.2.2.1 (m_w X in_1_192) dX9_init_58 ?_
  obtain ⟨S13, e_S13, hm⟩ := m_let_of hm
  refine n_puwj X hH hS tyX9 (k := 9) (i := 1) (a := (x + 25)) (j := 14) (hg 0 _ rfl) (by decide) (by decide) rfl m_wi9 tyX9_ok nmX9 (by decide) in_2_30 rfl rfl rfl ⟨rfl, rfl⟩ e_S13 dX9_init_61 (fun H locs hH hS => ?_)
  refine lv_aload_n hx hb dX9_init_64 rfl (lv_at hl 0 rfl) ?_
  refine lv_iconst (v := (0 : Int32)) hx hb dX9_init_65 (by decide) ?_
  obtain ⟨S14, e_S14, hm⟩ := m_let_of hm
  refine n_puwi X hH hS tyX9 (k := 9) (i := 1) (a := (x + 25)) (j := 15) (hg 0 _ rfl) (by decide) (by decide) rfl m_wi9 tyX9_ok nmX9 (by decide) in_2_33 rfl rfl rfl ⟨rfl, rfl⟩ e_S14 dX9_init_66 (fun H locs hH hS => ?_)
  refine lv_aload_n hx hb dX9_init_69 rfl (lv_at hl 0 rfl) ?_
  refine lv_iconst (v := (0 : Int32)) hx hb dX9_init_70 (by decide) ?_
  obtain ⟨S15, e_S15, hm⟩ := m_let_of hm
  refine n_puwi X hH hS tyX9 (k := 9) (i := 1) (a := (x + 25)) (j := 16) (hg 0 _ rfl) (by decide) (by decide) rfl m_wi9 tyX9_ok nmX9 (by decide) in_2_35 rfl rfl rfl ⟨rfl, rfl⟩ e_S15 dX9_init_71 (fun H locs hH hS => ?_)
  refine lv_aload_n hx hb dX9_init_74 rfl (lv_at hl 0 rfl) ?_
  refine lv_iload_n hx hb dX9_init_75 rfl (lv_at hl 1 rfl) ?_
  refine lv_iconst (v := (0 : Int32)) hx hb dX9_init_76 (by decide) ?_
  refine va_mmax hx hb (X.1.2.2.1.trans hl.1.symm) X.1.2.2.2.1 (m_w X in_1_193) (m_w X in_1_194) (m_w X in_1_6) (m_w X in_1_195) (Nat.le_of_ble_eq_true rfl) (Nat.le_of_ble_eq_true rfl) (Nat.le_of_ble_eq_true rfl) (Nat.le_of_ble_eq_true rfl) dX9_init_77 ?_
  refine n_topi (y := (900 : Int32)) (by decide) ?_
  obtain ⟨S16, e_S16, hm⟩ := m_let_of hm
  refine n_puwfi X hin hH hS tyX9 (k := 9) (i := 1) (a := (x + 25)) (j := 0) (hg 0 _ rfl) (by decide) (by decide) rfl m_wi9 tyX9_ok nmX9 (by decide) in_2_9 rfl rfl rfl rfl ⟨rfl, rfl⟩ e_S16 dX9_init_80 (fun H locs hH hS => ?_)
  have hbm : m_ri S16 (x + 25) 0 = (900 : Int32) := by rw [← e_S16, m_si_eq]; rfl
  refine lv_aload_n hx hb dX9_init_83 rfl (lv_at hl 0 rfl) ?_
  refine lv_aload_n hx hb dX9_init_84 rfl (lv_at hl 0 rfl) ?_
  refine r_gewi X hH (k := 9) (i := 1) (a := (x + 25)) (j := 0) (hg 0 _ rfl) (by decide) (by decide) rfl m_wi9 (by decide) in_2_9 rfl rfl dX9_init_85 ?_
  refine lv_iconst (v := (1 : Int32)) hx hb dX9_init_88 (by decide) ?_
  refine lv_iadd hx hb dX9_init_89 ?_
  refine n_topi (y := (901 : Int32)) (by rw [hbm]; decide) ?_
  obtain ⟨S17, e_S17, hm⟩ := m_let_of hm
  refine n_newa X hH hS hT (ty := .int) (N := 901) rfl in_1_121 1 rfl (by decide) rfl m_RAi (by decide) (by decide) (by decide) e_S17 (nx' := (x + 28)) rfl (Nat.le_of_ble_eq_true rfl) (Nat.le_of_ble_eq_true rfl) dX9_init_90 (fun H κ18 hq1 hk1 hT hH hS => ?_)
  have hg : m_seg κ18 (x + 25) [7315, 278, 7309] := hg.grow rfl hq1 hk1
  have hq := m_lt_nx hq (by omega) hq1
  have hbm : m_ri S17 (x + 25) 0 = (900 : Int32) := by rw [← e_S17, m_new_ri_ne (by omega)]; exact hbm
  refine n_puwr X hin hH hS hT (k := 9) (i := 1) (a := (x + 25)) (b := (x + 27)) (j := 2) (A := 2) (B := 0) tyX9 (hg 0 _ rfl) (by decide) (by decide) rfl m_wi9 tyX9_ok nmX9 (by decide) in_2_11 rfl rfl rfl rfl rfl (by first | rfl | omega) ⟨rfl, rfl⟩ dX9_init_92 (fun H locs κ19 hq1 hk1 hT hH hS => ?_)
  have hg : m_seg κ19 (x + 25) [7323, 278, 7309] := hg.swap hq1 hk1
  have hq := m_lt_ne hq hq1
  refine lv_aload_n hx hb dX9_init_95 rfl (lv_at hl 0 rfl) ?_
  refine lv_aload_n hx hb dX9_init_96 rfl (lv_at hl 0 rfl) ?_
  refine r_gewi X hH (k := 9) (i := 2) (a := (x + 25)) (j := 0) (hg 0 _ rfl) (by decide) (by decide) rfl m_wi9 (by decide) in_2_9 rfl rfl dX9_init_97 ?_
  refine lv_iconst (v := (1 : Int32)) hx hb dX9_init_100 (by decide) ?_
  refine lv_iadd hx hb dX9_init_101 ?_
  refine n_topi (y := (901 : Int32)) (by rw [hbm]; decide) ?_
  obtain ⟨S20, e_S20, hm⟩ := m_let_of hm
  refine n_newa X hH hS hT (ty := .int) (N := 901) rfl in_1_121 1 rfl (by decide) rfl m_RAi (by decide) (by decide) (by decide) e_S20 (nx' := (x + 29)) rfl (Nat.le_of_ble_eq_true rfl) (Nat.le_of_ble_eq_true rfl) dX9_init_102 (fun H κ21 hq1 hk1 hT hH hS => ?_)
  have hg : m_seg κ21 (x + 25) [7323, 278, 7309, 7309] := hg.grow rfl hq1 hk1
  have hq := m_lt_nx hq (by omega) hq1
  have hbm : m_ri S20 (x + 25) 0 = (900 : Int32) := by rw [← e_S20, m_new_ri_ne (by omega)]; exact hbm
  refine n_puwr X hin hH hS hT (k := 9) (i := 2) (a := (x + 25)) (b := (x + 28)) (j := 3) (A := 3) (B := 0) tyX9 (hg 0 _ rfl) (by decide) (by decide) rfl m_wi9 tyX9_ok nmX9 (by decide) in_2_12 rfl rfl rfl rfl rfl (by first | rfl | omega) ⟨rfl, rfl⟩ dX9_init_104 (fun H locs κ22 hq1 hk1 hT hH hS => ?_)
  have hg : m_seg κ22 (x + 25) [7331, 278, 7309, 7309] := hg.swap hq1 hk1
  have hq := m_lt_ne hq hq1
  refine lv_aload_n hx hb dX9_init_107 rfl (lv_at hl 0 rfl) ?_
  refine lv_aload_n hx hb dX9_init_108 rfl (lv_at hl 0 rfl) ?_
  refine r_gewi X hH (k := 9) (i := 3) (a := (x + 25)) (j := 0) (hg 0 _ rfl) (by decide) (by decide) rfl m_wi9 (by decide) in_2_9 rfl rfl dX9_init_109 ?_
  refine lv_iconst (v := (1 : Int32)) hx hb dX9_init_112 (by decide) ?_
  refine lv_iadd hx hb dX9_init_113 ?_
  refine n_topi (y := (901 : Int32)) (by rw [hbm]; decide) ?_
  obtain ⟨S23, e_S23, hm⟩ := m_let_of hm
  refine n_newa X hH hS hT (ty := .long) (N := 901) rfl in_1_120 2 rfl (by decide) rfl m_RAl (by decide) (by decide) (by decide) e_S23 (nx' := (x + 30)) rfl (Nat.le_of_ble_eq_true rfl) (Nat.le_of_ble_eq_true rfl) dX9_init_114 (fun H κ24 hq1 hk1 hT hH hS => ?_)
  have hg : m_seg κ24 (x + 25) [7331, 278, 7309, 7309, 7310] := hg.grow rfl hq1 hk1
  have hq := m_lt_nx hq (by omega) hq1
  have hbm : m_ri S23 (x + 25) 0 = (900 : Int32) := by rw [← e_S23, m_new_ri_ne (by omega)]; exact hbm
  refine n_puwr X hin hH hS hT (k := 9) (i := 3) (a := (x + 25)) (b := (x + 29)) (j := 4) (A := 4) (B := 0) tyX9 (hg 0 _ rfl) (by decide) (by decide) rfl m_wi9 tyX9_ok nmX9 (by decide) in_2_13 rfl rfl rfl rfl rfl (by first | rfl | omega) ⟨rfl, rfl⟩ dX9_init_116 (fun H locs κ25 hq1 hk1 hT hH hS => ?_)
  have hg : m_seg κ25 (x + 25) [7339, 278, 7309, 7309, 7310] := hg.swap hq1 hk1
  have hq := m_lt_ne hq hq1
  obtain ⟨κ26, hq1, hk_s, hg, hT, hH⟩ := m_sealp (k := 9) (i := 4) (tl := [278]) (t2 := [7309, 7309, 7310]) hH hT hg (by decide) (by decide) rfl rfl (by decide)
  have hq := m_lt_ne hq hq1
  refine lv_iconst (v := (0 : Int32)) hx hb dX9_init_119 (by decide) ?_
  refine lv_istore_n (lv' := [(2, .int (0 : Int32)), (0, .ref (x + 25)), (1, .int (900 : Int32))]) hx hb dX9_init_120 rfl hl (by decide) rfl (fun ls hl => ?_)
  refine lv_lconst (v := (0 : Int64)) hx hb dX9_init_121 (by decide) ?_
  refine lv_lstore_n (lv' := [(3, .long (0 : Int64)), (2, .int (0 : Int32)), (0, .ref (x + 25)), (1, .int (900 : Int32))]) hx hb dX9_init_122 rfl hl (by decide) rfl (fun ls hl => ?_)
  refine lv_iconst (v := (0 : Int32)) hx hb dX9_init_123 (by decide) ?_
  refine lv_istore (lv' := [(5, .int (0 : Int32)), (3, .long (0 : Int64)), (2, .int (0 : Int32)), (0, .ref (x + 25)), (1, .int (900 : Int32))]) hx hb dX9_init_124 hl (by decide) rfl (fun ls hl => ?_)
  exact k_X9_init_126 X hN hXs hZ hr hT hk_s hq hg m_fu _ _ _ _ _ _ _ hH hS (lv_sub hl [3, 2, 1, 0] rfl) hm
def rm_X4_init : Room := { frames := 7, cells := 28, slots := 3670, locals := 245 }
def f_X4_init (x : Nat) (S : m_M) : Option m_M :=
    m_let (m_new S (x + 3)) fun S1 =>
    m_cal0 (f_X3_init (x + 3) S1) fun S3 =>
    m_let (m_new S3 (x + 25)) fun S6 =>
    m_cal0 (f_X9_init x S6) fun S8 =>
    m_let (m_new S8 (x + 30)) fun S11 =>
    m_let (m_si S11 (x + 2) 3 (0 : Int32)) fun S15 =>
    some S15
set_option maxHeartbeats 4000000 in
set_option maxRecDepth 100000 in
theorem c_X4_init {l : Launch} {G : m_G} {κ : Nat → Nat} {x q v : Nat} {S S' : m_M} (hT : m_Str κ) (hk1 : κ (x + 2) = m_ac 7 (100 * 4)) (hm : f_X4_init x S = some S') : m_KT l yX4_init cX4_init 1 rm_X4_init G (x + 2) (m_lay 5) (x + 3) κ q v [.ref (x + 2)] S S' 28 3670 := by
  refine m_KT.of (by decide) rfl (Nat.le_of_ble_eq_true rfl) ?_
  intro p e s m args below meth c ls X hN hXs hZ hin hr hH hl
  have hx := X.1.1
  have hb := X.1.2.1
  have hS : m_S G s s.heap [] := va_S.rf
  have hl : lv_has ls 1 [(0, .ref (x + 2))] := hl
  have hg : m_seg κ (x + 2) [3307] := m_seg.one hk1
  have hq : ∀ q, q < (x + 2) → κ q = κ q := fun _ _ => rfl
  rw [f_X4_init] at hm
  refine lv_aload_n hx hb dX4_init_0 rfl (lv_at hl 0 rfl) ?_
  refine W.objInit hx hb X.1.2.2.2.1 (m_w X in_1_39) (m_w X in_1_32) (m_w X in_1_33) rfl (by rw [X.1.2.2.1]; exact hl.1) rfl dX4_init_1 (Nat.le_of_ble_eq_true rfl) (Nat.le_of_ble_eq_true rfl) ?_
  refine W.eq (g2 := F0 m 4 ls []) rfl ?_
  refine lv_aload_n hx hb dX4_init_4 rfl (lv_at hl 0 rfl) ?_
  obtain ⟨S1, e_S1, hm⟩ := m_let_of hm
  refine n_new X hH hS hT (k := 3) tyX3 (by decide) rfl m_wi3 tyX3_ok in_1_40 in_1_41 in_1_3 m_df3 e_S1 (nx' := (x + 4)) rfl (Nat.le_of_ble_eq_true rfl) (Nat.le_of_ble_eq_true rfl) dX4_init_5 (fun H κ2 hq1 hk1 hT hH hS => ?_)
  have hgk : m_seg κ2 (x + 2) [3307] := hg.kept (fun q h => hq1 q (by simpa using h))
  have hg := hgk
  have hq := m_lt_nx hq (by omega) hq1
  refine lv_dup hx hb dX4_init_8 rfl ?_
  obtain ⟨S3, e_S3, hm⟩ := m_cal0_of hm
  refine n_cIN (host := "RegionRooms") X hN hH hS (c_X3_init (a := (x + 3)) hT hk1 e_S3) mw_X3_init in_1_43 rfl (by decide +kernel) rfl ⟨rfl, rfl⟩ ⟨Nat.le_of_ble_eq_true rfl, Nat.le_of_ble_eq_true rfl⟩ ⟨Nat.le_of_ble_eq_true rfl, Nat.le_of_ble_eq_true rfl⟩ hl.1 (Nat.le_of_ble_eq_true rfl) dX4_init_9 (fun H locs κ4 hq1 hg1 hT hH hS => ?_)
  have hg : m_seg κ4 (x + 2) [3307, 4, 142, 141, 141, 141, 293, 293, 1061, 7, 1181, 1181, 293, 293, 293, 293, 293, 141, 141, 1061, 1061, 293, 293] := hg.growS rfl hq1 hg1
  have hq := m_lt_nx hq (by omega) hq1
  have hH : m_H G (x + 25) κ4 S3 H := hH
  refine n_puwr X hin hH hS hT (k := 4) (i := 0) (a := (x + 2)) (b := (x + 3)) (j := 0) (A := 1) (B := 0) tyX4 (hg 0 _ rfl) (by decide) (by decide) rfl m_wi4 tyX4_ok nmX4 (by decide) in_2_72 rfl rfl rfl rfl rfl (by first | rfl | omega) ⟨rfl, rfl⟩ dX4_init_12 (fun H locs κ5 hq1 hk1 hT hH hS => ?_)
  have hg : m_seg κ5 (x + 2) [3315, 4, 142, 141, 141, 141, 293, 293, 1061, 7, 1181, 1181, 293, 293, 293, 293, 293, 141, 141, 1061, 1061, 293, 293] := hg.swap hq1 hk1
  have hq := m_lt_ne hq hq1
  refine lv_aload_n hx hb dX4_init_15 rfl (lv_at hl 0 rfl) ?_
  obtain ⟨S6, e_S6, hm⟩ := m_let_of hm
  refine n_new X hH hS hT (k := 9) tyX9 (by decide) rfl m_wi9 tyX9_ok in_1_186 in_1_187 in_1_5 m_df9 e_S6 (nx' := (x + 26)) rfl (Nat.le_of_ble_eq_true rfl) (Nat.le_of_ble_eq_true rfl) dX4_init_16 (fun H κ7 hq1 hk1 hT hH hS => ?_)
  have hgk : m_seg κ7 (x + 2) [3315, 4, 142, 141, 141, 141, 293, 293, 1061, 7, 1181, 1181, 293, 293, 293, 293, 293, 141, 141, 1061, 1061, 293, 293] := hg.kept (fun q h => hq1 q (by simpa using h))
  have hg := hgk
  have hq := m_lt_nx hq (by omega) hq1
  refine lv_dup hx hb dX4_init_19 rfl ?_
  refine lv_sipush (v := (900 : Int32)) hx hb dX4_init_20 (by decide) ?_
  obtain ⟨S8, e_S8, hm⟩ := m_cal0_of hm
  refine n_cIT X hN hXs hZ hH hS (c_X9_init (x := x) hT hk1 e_S8) mw_X9_init in_1_189 rfl in_1_188 rfl ⟨rfl, rfl⟩ ⟨Nat.le_of_ble_eq_true rfl, Nat.le_of_ble_eq_true rfl⟩ ⟨Nat.le_of_ble_eq_true rfl, Nat.le_of_ble_eq_true rfl⟩ hl.1 (Nat.le_of_ble_eq_true rfl) dX4_init_23 (fun H locs κ9 hq1 hg1 hT hH hS => ?_)
  have hg : m_seg κ9 (x + 2) [3315, 4, 142, 141, 141, 141, 293, 293, 1061, 7, 1181, 1181, 293, 293, 293, 293, 293, 141, 141, 1061, 1061, 293, 293, 10, 278, 7309, 7309, 7310] := hg.growS rfl hq1 hg1
  have hq := m_lt_nx hq (by omega) hq1
  have hH : m_H G (x + 30) κ9 S8 H := hH
  refine n_puwr X hin hH hS hT (k := 4) (i := 1) (a := (x + 2)) (b := (x + 25)) (j := 1) (A := 23) (B := 0) tyX4 (hg 0 _ rfl) (by decide) (by decide) rfl m_wi4 tyX4_ok nmX4 (by decide) in_2_74 rfl rfl rfl rfl rfl (by first | rfl | omega) ⟨rfl, rfl⟩ dX4_init_26 (fun H locs κ10 hq1 hk1 hT hH hS => ?_)
  have hg : m_seg κ10 (x + 2) [3323, 4, 142, 141, 141, 141, 293, 293, 1061, 7, 1181, 1181, 293, 293, 293, 293, 293, 141, 141, 1061, 1061, 293, 293, 10, 278, 7309, 7309, 7310] := hg.swap hq1 hk1
  have hq := m_lt_ne hq hq1
  refine lv_aload_n hx hb dX4_init_29 rfl (lv_at hl 0 rfl) ?_
  refine lv_bipush (v := (27 : Int32)) hx hb dX4_init_30 (by decide) ?_
  obtain ⟨S11, e_S11, hm⟩ := m_let_of hm
  refine n_newa X hH hS hT (ty := .long) (N := 27) rfl in_1_120 2 rfl (by decide) rfl m_RAl (by decide) (by decide) (by decide) e_S11 (nx' := (x + 31)) rfl (Nat.le_of_ble_eq_true rfl) (Nat.le_of_ble_eq_true rfl) dX4_init_32 (fun H κ12 hq1 hk1 hT hH hS => ?_)
  have hg : m_seg κ12 (x + 2) [3323, 4, 142, 141, 141, 141, 293, 293, 1061, 7, 1181, 1181, 293, 293, 293, 293, 293, 141, 141, 1061, 1061, 293, 293, 10, 278, 7309, 7309, 7310, 318] := hg.grow rfl hq1 hk1
  have hq := m_lt_nx hq (by omega) hq1
  refine n_puwr X hin hH hS hT (k := 4) (i := 2) (a := (x + 2)) (b := (x + 30)) (j := 2) (A := 28) (B := 0) tyX4 (hg 0 _ rfl) (by decide) (by decide) rfl m_wi4 tyX4_ok nmX4 (by decide) in_2_76 rfl rfl rfl rfl rfl (by first | rfl | omega) ⟨rfl, rfl⟩ dX4_init_34 (fun H locs κ13 hq1 hk1 hT hH hS => ?_)
  have hg : m_seg κ13 (x + 2) [3331, 4, 142, 141, 141, 141, 293, 293, 1061, 7, 1181, 1181, 293, 293, 293, 293, 293, 141, 141, 1061, 1061, 293, 293, 10, 278, 7309, 7309, 7310, 318] := hg.swap hq1 hk1
  have hq := m_lt_ne hq hq1
  obtain ⟨κ14, hq1, hk_s, hg, hT, hH⟩ := m_seal (k := 4) (i := 3) hH hT hg (by decide) (by decide) rfl rfl (by decide)
  have hq := m_lt_ne hq hq1
  refine lv_aload_n hx hb dX4_init_37 rfl (lv_at hl 0 rfl) ?_
  refine lv_iconst (v := (0 : Int32)) hx hb dX4_init_38 (by decide) ?_
  obtain ⟨S15, e_S15, hm⟩ := m_let_of hm
  refine n_puti X hH hS tyX4 (k := 4) (a := (x + 2)) (j := 3) hk_s (by decide) rfl m_wi4 tyX4_ok nmX4 (by decide) in_2_77 rfl rfl rfl ⟨rfl, rfl⟩ e_S15 dX4_init_39 (fun H locs hH hS => ?_)
  exact r_kret X hN hr hH hS hm hT hq hg rfl (Nat.le_of_ble_eq_true rfl) (Nat.le_of_ble_eq_true rfl) dX4_init_42
def rm_X9s_init : Room := { frames := 6, cells := 4, slots := 625, locals := 220 }
def b_X9s_init_126 (x : Nat) : Nat → m_M → Int32 → Int64 → Int32 → Option m_M
  | 0, _, _, _, _ => none
  | n + 1, S, l2, l3, l5 =>
    if (113 : Int32) ≤ l5 then some S else
    if (22 : Int32) ≤ l2 then some S else
    if l5 < 0 ∨ 113 ≤ l5.toNatClampNeg then none else
    if m_ch l5.toNatClampNeg = (32 : Int32) then (
      (m_stj S (x + 38) 22 l2 l3).bind fun S1 =>
      m_let (l2 + (1 : Int32)) fun v2 =>
      m_let (l5 + (1 : Int32)) fun v5 =>
      b_X9s_init_126 x n S1 v2 (0 : Int64) v5) else (
      m_call (f_X9_withLetter S l3 (m_ch l5.toNatClampNeg)) fun v3 S1 =>
      m_let (l5 + (1 : Int32)) fun v5 =>
      b_X9s_init_126 x n S1 l2 v3 v5)
set_option maxHeartbeats 4000000 in
set_option maxRecDepth 100000 in
theorem k_X9s_init_126 {p : Program} {l : Launch} {e : Env} {s : State} {m : MethodId} {args : Array Value} {below : List Frame} {meth : Method} {c : Code} {G : m_G} {κ κ0 : Nat → Nat} {S' : m_M} {x q v : Nat} (X : m_Cx p s m args meth c cX9_init 6 RX9 G) (hN : m_N s) (hXs : m_TX G.2.2 q v s) (hZ : vk_R RX9 74 m_kwt q s) (hr : meth.sig.returnType = none) (hT : m_Str κ) (hk_s : κ (x + 37) = 10) (hq : ∀ q, q < (x + 37) → κ q = κ0 q) (hg : m_seg κ (x + 37) [10, 278, 1709, 1709, 1710]) (n : Nat) :
    ∀ (S : m_M) (l2 : Int32) (l3 : Int64) (l5 : Int32) (H : Heap) (locs : List Loc) (ls : Array Slot), m_H G (x + 42) κ S H → m_S G s H locs → lv_has ls 6 [(0, .ref (x + 37)), (2, .int l2), (3, .long l3), (5, .int l5)] → b_X9s_init_126 x n S l2 l3 l5 = some S' → W p l e rm_X9s_init s m args below meth c H locs 4 625 (m_QK below args s G (x + 37) [10, 278, 1709, 1709, 1710] κ0 S' 4 625) (F0 m 126 ls []) := by
  have hx := X.1.1
  have hb := X.1.2.1
  induction n with
  | zero => intro S l2 l3 l5 H locs ls hH hS hl hm; have hm : (none : Option m_M) = some S' := hm; cases hm
  | succ n ih =>
    intro S l2 l3 l5 H locs ls hH hS hl hm
    rw [b_X9s_init_126] at hm
    refine lv_iload hx hb dX9_init_126 (lv_at hl 3 rfl) ?_
    refine va_ldcS hx hb X.1.2.2.2.1 hZ dX9_init_128 ?_
    refine n_cR (As := []) X.1 hXs hS c_length mw_J0_length_8abf5 rfl in_1_197 rfl ⟨rfl, rfl⟩ ⟨Nat.le_of_ble_eq_true rfl, Nat.le_of_ble_eq_true rfl⟩ ⟨Nat.le_of_ble_eq_true rfl, Nat.le_of_ble_eq_true rfl⟩ hl.1 (Nat.le_of_ble_eq_true rfl) dX9_init_130 ?_
    refine lv_icmp_ge (tgt := 187) hx hb dX9_init_133 (by decide) (fun c1 => ?_) (fun c1 => ?_)
    · have hm := m_ite_t hm c1
      exact r_kret X hN hr hH hS hm hT hq hg rfl (Nat.le_refl _) (Nat.le_refl _) dX9_init_187
    have hm := m_ite_f hm c1
    refine lv_iload_n hx hb dX9_init_136 rfl (lv_at hl 1 rfl) ?_
    refine lv_bipush (v := (22 : Int32)) hx hb dX9_init_137 (by decide) ?_
    refine lv_icmp_ge (tgt := 187) hx hb dX9_init_139 (by decide) (fun c2 => ?_) (fun c2 => ?_)
    · have hm := m_ite_t hm c2
      exact r_kret X hN hr hH hS hm hT hq hg rfl (Nat.le_refl _) (Nat.le_refl _) dX9_init_187
    have hm := m_ite_f hm c2
    obtain ⟨hin, hm⟩ := m_ifn_of hm
    refine va_ldcS hx hb X.1.2.2.2.1 hZ dX9_init_142 ?_
    refine lv_iload hx hb dX9_init_144 (lv_at hl 3 rfl) ?_
    refine n_cR (As := [.int l5]) X.1 hXs hS (c_charAt hin) mw_J0_charAt_5068e rfl in_1_207 rfl ⟨rfl, rfl⟩ ⟨Nat.le_of_ble_eq_true rfl, Nat.le_of_ble_eq_true rfl⟩ ⟨Nat.le_of_ble_eq_true rfl, Nat.le_of_ble_eq_true rfl⟩ hl.1 (Nat.le_of_ble_eq_true rfl) dX9_init_146 ?_
    refine lv_bipush (v := (32 : Int32)) hx hb dX9_init_149 (by decide) ?_
    refine lv_icmp_ne (tgt := 169) hx hb dX9_init_151 (by decide) (fun c3 => ?_) (fun c3 => ?_)
    · have hm := m_ite_f hm c3
      refine lv_lload_n hx hb dX9_init_169 rfl (lv_at hl 2 rfl) ?_
      refine va_ldcS hx hb X.1.2.2.2.1 hZ dX9_init_170 ?_
      refine lv_iload hx hb dX9_init_172 (lv_at hl 3 rfl) ?_
      refine n_cR (As := [.int l5]) X.1 hXs hS (c_charAt hin) mw_J0_charAt_5068e rfl in_1_207 rfl ⟨rfl, rfl⟩ ⟨Nat.le_of_ble_eq_true rfl, Nat.le_of_ble_eq_true rfl⟩ ⟨Nat.le_of_ble_eq_true rfl, Nat.le_of_ble_eq_true rfl⟩ hl.1 (Nat.le_of_ble_eq_true rfl) dX9_init_174 ?_
      obtain ⟨v3, S1, e_S1, hm⟩ := m_call_of hm
      refine n_cSl X hH hS (c_X9_withLetter hT e_S1) mw_X9_withLetter in_2_5 rfl ⟨rfl, rfl⟩ ⟨Nat.le_of_ble_eq_true rfl, Nat.le_of_ble_eq_true rfl⟩ ⟨Nat.le_of_ble_eq_true rfl, Nat.le_of_ble_eq_true rfl⟩ hl.1 (Nat.le_of_ble_eq_true rfl) dX9_init_177 (fun H locs hH hS => ?_)
      refine lv_lstore_n (lv' := [(3, .long v3), (0, .ref (x + 37)), (2, .int l2), (5, .int l5)]) hx hb dX9_init_180 rfl hl (by decide) rfl (fun ls hl => ?_)
      obtain ⟨v5, e_v5, hm⟩ := m_let_of hm
      refine lv_iinc (v := v5) (lv' := [(5, .int v5), (3, .long v3), (0, .ref (x + 37)), (2, .int l2)]) hx hb dX9_init_181 hl (k := 3) rfl (by rw [← e_v5]; rfl) (by decide) rfl (fun ls hl => ?_)
      refine lv_goto (tgt := 126) hx hb dX9_init_184 (by decide) ?_
      exact ih S1 l2 v3 v5 _ _ _ hH hS (lv_sub hl [2, 3, 1, 0] rfl) hm
    · have hm := m_ite_t hm c3
      refine lv_aload_n hx hb dX9_init_154 rfl (lv_at hl 0 rfl) ?_
      refine r_getp X hH (k := 9) (a := (x + 37)) (j := 1) (b := (x + 38)) (A := 1) (B := 0) hk_s (by decide) rfl m_wi9 (by decide) in_2_10 rfl rfl (by first | rfl | omega) dX9_init_155 ?_
      refine lv_iload_n hx hb dX9_init_158 rfl (lv_at hl 1 rfl) ?_
      refine lv_lload_n hx hb dX9_init_159 rfl (lv_at hl 2 rfl) ?_
      obtain ⟨S1, h_S1, e_S1, hm⟩ := n_stj hm
      refine n_last X hH hS (n := 22) (hg 1 _ rfl) h_S1 e_S1 dX9_init_160 (fun H locs hH hS => ?_)
      obtain ⟨v2, e_v2, hm⟩ := m_let_of hm
      refine lv_iinc (v := v2) (lv' := [(2, .int v2), (0, .ref (x + 37)), (3, .long l3), (5, .int l5)]) hx hb dX9_init_161 hl (k := 1) rfl (by rw [← e_v2]; rfl) (by decide) rfl (fun ls hl => ?_)
      refine lv_lconst (v := (0 : Int64)) hx hb dX9_init_164 (by decide) ?_
      refine lv_lstore_n (lv' := [(3, .long (0 : Int64)), (2, .int v2), (0, .ref (x + 37)), (5, .int l5)]) hx hb dX9_init_165 rfl hl (by decide) rfl (fun ls hl => ?_)
      refine lv_goto (tgt := 181) hx hb dX9_init_166 (by decide) ?_
      obtain ⟨v5, e_v5, hm⟩ := m_let_of hm
      refine lv_iinc (v := v5) (lv' := [(5, .int v5), (3, .long (0 : Int64)), (2, .int v2), (0, .ref (x + 37))]) hx hb dX9_init_181 hl (k := 3) rfl (by rw [← e_v5]; rfl) (by decide) rfl (fun ls hl => ?_)
      refine lv_goto (tgt := 126) hx hb dX9_init_184 (by decide) ?_
      exact ih S1 v2 (0 : Int64) v5 _ _ _ hH hS (lv_sub hl [3, 2, 1, 0] rfl) hm
def f_X9s_init (x : Nat) (S : m_M) : Option m_M :=
    m_let (m_new S (x + 38)) fun S1 =>
    m_let (m_si S1 (x + 37) 5 (0 : Int32)) fun S4 =>
    m_let (m_si S4 (x + 37) 6 (0 : Int32)) fun S5 =>
    m_let (m_si S5 (x + 37) 7 (0 : Int32)) fun S6 =>
    m_let (m_si S6 (x + 37) 8 (-1 : Int32)) fun S7 =>
    m_let (m_si S7 (x + 37) 9 (0 : Int32)) fun S8 =>
    m_let (m_si S8 (x + 37) 10 (0 : Int32)) fun S9 =>
    m_let (m_si S9 (x + 37) 11 (-1 : Int32)) fun S10 =>
    m_let (m_si S10 (x + 37) 12 (-1 : Int32)) fun S11 =>
    m_let (m_si S11 (x + 37) 13 (-1 : Int32)) fun S12 =>
    m_let (m_sj S12 (x + 37) 14 (-1 : Int64)) fun S13 =>
    m_let (m_si S13 (x + 37) 15 (0 : Int32)) fun S14 =>
    m_let (m_si S14 (x + 37) 16 (0 : Int32)) fun S15 =>
    m_let (m_si S15 (x + 37) 0 (200 : Int32)) fun S16 =>
    m_let (m_new S16 (x + 39)) fun S17 =>
    m_let (m_new S17 (x + 40)) fun S20 =>
    m_let (m_new S20 (x + 41)) fun S23 =>
    b_X9s_init_126 x m_fu S23 (0 : Int32) (0 : Int64) (0 : Int32)
set_option maxHeartbeats 4000000 in
set_option maxRecDepth 100000 in
theorem c_X9s_init {l : Launch} {G : m_G} {κ : Nat → Nat} {x q v : Nat} {S S' : m_M} (hT : m_Str κ) (hk1 : κ (x + 37) = m_ac 7 (100 * 9)) (hm : f_X9s_init x S = some S') : m_KT l yX9_init cX9_init 6 rm_X9s_init G (x + 37) [10, 278, 1709, 1709, 1710] (x + 38) κ q v [.ref (x + 37), .int (200 : Int32)] S S' 4 625 := by
  refine m_KT.of (by decide) rfl (Nat.le_of_ble_eq_true rfl) ?_
  intro p e s m args below meth c ls X hN hXs hZ hin hr hH hl
  have hx := X.1.1
  have hb := X.1.2.1
  have hS : m_S G s s.heap [] := va_S.rf
  have hl : lv_has ls 6 [(0, .ref (x + 37)), (1, .int (200 : Int32))] := hl
  have hg : m_seg κ (x + 37) [7307] := m_seg.one hk1
  have hq : ∀ q, q < (x + 37) → κ q = κ q := fun _ _ => rfl
  rw [f_X9s_init] at hm
  refine lv_aload_n hx hb dX9_init_0 rfl (lv_at hl 0 rfl) ?_
  refine W.objInit hx hb X.1.2.2.2.1 (m_w X in_1_191) (m_w X in_1_32) (m_w X in_1_33) rfl (by rw [X.1.2.2.1]; exact hl.1) rfl dX9_init_1 (Nat.le_of_ble_eq_true rfl) (Nat.le_of_ble_eq_true rfl) ?_
  refine W.eq (g2 := F0 m 4 ls []) rfl ?_
  refine lv_aload_n hx hb dX9_init_4 rfl (lv_at hl 0 rfl) ?_
  refine lv_bipush (v := (22 : Int32)) hx hb dX9_init_5 (by decide) ?_
  obtain ⟨S1, e_S1, hm⟩ := m_let_of hm
  refine n_newa X hH hS hT (ty := .long) (N := 22) rfl in_1_120 2 rfl (by decide) rfl m_RAl (by decide) (by decide) (by decide) e_S1 (nx' := (x + 39)) rfl (Nat.le_of_ble_eq_true rfl) (Nat.le_of_ble_eq_true rfl) dX9_init_7 (fun H κ2 hq1 hk1 hT hH hS => ?_)
  have hg : m_seg κ2 (x + 37) [7307, 278] := hg.grow rfl hq1 hk1
  have hq := m_lt_nx hq (by omega) hq1
  refine n_puwr X hin hH hS hT (k := 9) (i := 0) (a := (x + 37)) (b := (x + 38)) (j := 1) (A := 1) (B := 0) tyX9 (hg 0 _ rfl) (by decide) (by decide) rfl m_wi9 tyX9_ok nmX9 (by decide) in_2_10 rfl rfl rfl rfl rfl (by first | rfl | omega) ⟨rfl, rfl⟩ dX9_init_9 (fun H locs κ3 hq1 hk1 hT hH hS => ?_)
  have hg : m_seg κ3 (x + 37) [7315, 278] := hg.swap hq1 hk1
  have hq := m_lt_ne hq hq1
  refine lv_aload_n hx hb dX9_init_12 rfl (lv_at hl 0 rfl) ?_
  refine lv_iconst (v := (0 : Int32)) hx hb dX9_init_13 (by decide) ?_
  obtain ⟨S4, e_S4, hm⟩ := m_let_of hm
  refine n_puwi X hH hS tyX9 (k := 9) (i := 1) (a := (x + 37)) (j := 5) (hg 0 _ rfl) (by decide) (by decide) rfl m_wi9 tyX9_ok nmX9 (by decide) in_2_14 rfl rfl rfl ⟨rfl, rfl⟩ e_S4 dX9_init_14 (fun H locs hH hS => ?_)
  refine lv_aload_n hx hb dX9_init_17 rfl (lv_at hl 0 rfl) ?_
  refine lv_iconst (v := (0 : Int32)) hx hb dX9_init_18 (by decide) ?_
  obtain ⟨S5, e_S5, hm⟩ := m_let_of hm
  refine n_puwi X hH hS tyX9 (k := 9) (i := 1) (a := (x + 37)) (j := 6) (hg 0 _ rfl) (by decide) (by decide) rfl m_wi9 tyX9_ok nmX9 (by decide) in_2_15 rfl rfl rfl ⟨rfl, rfl⟩ e_S5 dX9_init_19 (fun H locs hH hS => ?_)
  refine lv_aload_n hx hb dX9_init_22 rfl (lv_at hl 0 rfl) ?_
  refine lv_iconst (v := (0 : Int32)) hx hb dX9_init_23 (by decide) ?_
  obtain ⟨S6, e_S6, hm⟩ := m_let_of hm
  refine n_puwi X hH hS tyX9 (k := 9) (i := 1) (a := (x + 37)) (j := 7) (hg 0 _ rfl) (by decide) (by decide) rfl m_wi9 tyX9_ok nmX9 (by decide) in_2_16 rfl rfl rfl ⟨rfl, rfl⟩ e_S6 dX9_init_24 (fun H locs hH hS => ?_)
  refine lv_aload_n hx hb dX9_init_27 rfl (lv_at hl 0 rfl) ?_
  refine lv_iconst (v := (-1 : Int32)) hx hb dX9_init_28 (by decide) ?_
  obtain ⟨S7, e_S7, hm⟩ := m_let_of hm
  refine n_puwi X hH hS tyX9 (k := 9) (i := 1) (a := (x + 37)) (j := 8) (hg 0 _ rfl) (by decide) (by decide) rfl m_wi9 tyX9_ok nmX9 (by decide) in_2_17 rfl rfl rfl ⟨rfl, rfl⟩ e_S7 dX9_init_29 (fun H locs hH hS => ?_)
  refine lv_aload_n hx hb dX9_init_32 rfl (lv_at hl 0 rfl) ?_
  refine lv_iconst (v := (0 : Int32)) hx hb dX9_init_33 (by decide) ?_
  obtain ⟨S8, e_S8, hm⟩ := m_let_of hm
  refine n_puwi X hH hS tyX9 (k := 9) (i := 1) (a := (x + 37)) (j := 9) (hg 0 _ rfl) (by decide) (by decide) rfl m_wi9 tyX9_ok nmX9 (by decide) in_2_18 rfl rfl rfl ⟨rfl, rfl⟩ e_S8 dX9_init_34 (fun H locs hH hS => ?_)
  refine lv_aload_n hx hb dX9_init_37 rfl (lv_at hl 0 rfl) ?_
  refine lv_iconst (v := (0 : Int32)) hx hb dX9_init_38 (by decide) ?_
  obtain ⟨S9, e_S9, hm⟩ := m_let_of hm
  refine n_puwi X hH hS tyX9 (k := 9) (i := 1) (a := (x + 37)) (j := 10) (hg 0 _ rfl) (by decide) (by decide) rfl m_wi9 tyX9_ok nmX9 (by decide) in_2_21 rfl rfl rfl ⟨rfl, rfl⟩ e_S9 dX9_init_39 (fun H locs hH hS => ?_)
  refine lv_aload_n hx hb dX9_init_42 rfl (lv_at hl 0 rfl) ?_
  refine lv_iconst (v := (-1 : Int32)) hx hb dX9_init_43 (by decide) ?_
  obtain ⟨S10, e_S10, hm⟩ := m_let_of hm
  refine n_puwi X hH hS tyX9 (k := 9) (i := 1) (a := (x + 37)) (j := 11) (hg 0 _ rfl) (by decide) (by decide) rfl m_wi9 tyX9_ok nmX9 (by decide) in_2_22 rfl rfl rfl ⟨rfl, rfl⟩ e_S10 dX9_init_44 (fun H locs hH hS => ?_)
  refine lv_aload_n hx hb dX9_init_47 rfl (lv_at hl 0 rfl) ?_
  refine lv_iconst (v := (-1 : Int32)) hx hb dX9_init_48 (by decide) ?_
  obtain ⟨S11, e_S11, hm⟩ := m_let_of hm
  refine n_puwi X hH hS tyX9 (k := 9) (i := 1) (a := (x + 37)) (j := 12) (hg 0 _ rfl) (by decide) (by decide) rfl m_wi9 tyX9_ok nmX9 (by decide) in_2_25 rfl rfl rfl ⟨rfl, rfl⟩ e_S11 dX9_init_49 (fun H locs hH hS => ?_)
  refine lv_aload_n hx hb dX9_init_52 rfl (lv_at hl 0 rfl) ?_
  refine lv_iconst (v := (-1 : Int32)) hx hb dX9_init_53 (by decide) ?_
  obtain ⟨S12, e_S12, hm⟩ := m_let_of hm
  refine n_puwi X hH hS tyX9 (k := 9) (i := 1) (a := (x + 37)) (j := 13) (hg 0 _ rfl) (by decide) (by decide) rfl m_wi9 tyX9_ok nmX9 (by decide) in_2_28 rfl rfl rfl ⟨rfl, rfl⟩ e_S12 dX9_init_54 (fun H locs hH hS => ?_)
  refine lv_aload_n hx hb dX9_init_57 rfl (lv_at hl 0 rfl) ?_
  refine lv_ldc2 hx hb X.1.2.2.2.1 (m_w X in_1_192) dX9_init_58 ?_
  obtain ⟨S13, e_S13, hm⟩ := m_let_of hm
  refine n_puwj X hH hS tyX9 (k := 9) (i := 1) (a := (x + 37)) (j := 14) (hg 0 _ rfl) (by decide) (by decide) rfl m_wi9 tyX9_ok nmX9 (by decide) in_2_30 rfl rfl rfl ⟨rfl, rfl⟩ e_S13 dX9_init_61 (fun H locs hH hS => ?_)
  refine lv_aload_n hx hb dX9_init_64 rfl (lv_at hl 0 rfl) ?_
  refine lv_iconst (v := (0 : Int32)) hx hb dX9_init_65 (by decide) ?_
  obtain ⟨S14, e_S14, hm⟩ := m_let_of hm
  refine n_puwi X hH hS tyX9 (k := 9) (i := 1) (a := (x + 37)) (j := 15) (hg 0 _ rfl) (by decide) (by decide) rfl m_wi9 tyX9_ok nmX9 (by decide) in_2_33 rfl rfl rfl ⟨rfl, rfl⟩ e_S14 dX9_init_66 (fun H locs hH hS => ?_)
  refine lv_aload_n hx hb dX9_init_69 rfl (lv_at hl 0 rfl) ?_
  refine lv_iconst (v := (0 : Int32)) hx hb dX9_init_70 (by decide) ?_
  obtain ⟨S15, e_S15, hm⟩ := m_let_of hm
  refine n_puwi X hH hS tyX9 (k := 9) (i := 1) (a := (x + 37)) (j := 16) (hg 0 _ rfl) (by decide) (by decide) rfl m_wi9 tyX9_ok nmX9 (by decide) in_2_35 rfl rfl rfl ⟨rfl, rfl⟩ e_S15 dX9_init_71 (fun H locs hH hS => ?_)
  refine lv_aload_n hx hb dX9_init_74 rfl (lv_at hl 0 rfl) ?_
  refine lv_iload_n hx hb dX9_init_75 rfl (lv_at hl 1 rfl) ?_
  refine lv_iconst (v := (0 : Int32)) hx hb dX9_init_76 (by decide) ?_
  refine va_mmax hx hb (X.1.2.2.1.trans hl.1.symm) X.1.2.2.2.1 (m_w X in_1_193) (m_w X in_1_194) (m_w X in_1_6) (m_w X in_1_195) (Nat.le_of_ble_eq_true rfl) (Nat.le_of_ble_eq_true rfl) (Nat.le_of_ble_eq_true rfl) (Nat.le_of_ble_eq_true rfl) dX9_init_77 ?_
  refine n_topi (y := (200 : Int32)) (by decide) ?_
  obtain ⟨S16, e_S16, hm⟩ := m_let_of hm
  refine n_puwfi X hin hH hS tyX9 (k := 9) (i := 1) (a := (x + 37)) (j := 0) (hg 0 _ rfl) (by decide) (by decide) rfl m_wi9 tyX9_ok nmX9 (by decide) in_2_9 rfl rfl rfl rfl ⟨rfl, rfl⟩ e_S16 dX9_init_80 (fun H locs hH hS => ?_)
  have hbm : m_ri S16 (x + 37) 0 = (200 : Int32) := by rw [← e_S16, m_si_eq]; rfl
  refine lv_aload_n hx hb dX9_init_83 rfl (lv_at hl 0 rfl) ?_
  refine lv_aload_n hx hb dX9_init_84 rfl (lv_at hl 0 rfl) ?_
  refine r_gewi X hH (k := 9) (i := 1) (a := (x + 37)) (j := 0) (hg 0 _ rfl) (by decide) (by decide) rfl m_wi9 (by decide) in_2_9 rfl rfl dX9_init_85 ?_
  refine lv_iconst (v := (1 : Int32)) hx hb dX9_init_88 (by decide) ?_
  refine lv_iadd hx hb dX9_init_89 ?_
  refine n_topi (y := (201 : Int32)) (by rw [hbm]; decide) ?_
  obtain ⟨S17, e_S17, hm⟩ := m_let_of hm
  refine n_newa X hH hS hT (ty := .int) (N := 201) rfl in_1_121 1 rfl (by decide) rfl m_RAi (by decide) (by decide) (by decide) e_S17 (nx' := (x + 40)) rfl (Nat.le_of_ble_eq_true rfl) (Nat.le_of_ble_eq_true rfl) dX9_init_90 (fun H κ18 hq1 hk1 hT hH hS => ?_)
  have hg : m_seg κ18 (x + 37) [7315, 278, 1709] := hg.grow rfl hq1 hk1
  have hq := m_lt_nx hq (by omega) hq1
  have hbm : m_ri S17 (x + 37) 0 = (200 : Int32) := by rw [← e_S17, m_new_ri_ne (by omega)]; exact hbm
  refine n_puwr X hin hH hS hT (k := 9) (i := 1) (a := (x + 37)) (b := (x + 39)) (j := 2) (A := 2) (B := 0) tyX9 (hg 0 _ rfl) (by decide) (by decide) rfl m_wi9 tyX9_ok nmX9 (by decide) in_2_11 rfl rfl rfl rfl rfl (by first | rfl | omega) ⟨rfl, rfl⟩ dX9_init_92 (fun H locs κ19 hq1 hk1 hT hH hS => ?_)
  have hg : m_seg κ19 (x + 37) [7323, 278, 1709] := hg.swap hq1 hk1
  have hq := m_lt_ne hq hq1
  refine lv_aload_n hx hb dX9_init_95 rfl (lv_at hl 0 rfl) ?_
  refine lv_aload_n hx hb dX9_init_96 rfl (lv_at hl 0 rfl) ?_
  refine r_gewi X hH (k := 9) (i := 2) (a := (x + 37)) (j := 0) (hg 0 _ rfl) (by decide) (by decide) rfl m_wi9 (by decide) in_2_9 rfl rfl dX9_init_97 ?_
  refine lv_iconst (v := (1 : Int32)) hx hb dX9_init_100 (by decide) ?_
  refine lv_iadd hx hb dX9_init_101 ?_
  refine n_topi (y := (201 : Int32)) (by rw [hbm]; decide) ?_
  obtain ⟨S20, e_S20, hm⟩ := m_let_of hm
  refine n_newa X hH hS hT (ty := .int) (N := 201) rfl in_1_121 1 rfl (by decide) rfl m_RAi (by decide) (by decide) (by decide) e_S20 (nx' := (x + 41)) rfl (Nat.le_of_ble_eq_true rfl) (Nat.le_of_ble_eq_true rfl) dX9_init_102 (fun H κ21 hq1 hk1 hT hH hS => ?_)
  have hg : m_seg κ21 (x + 37) [7323, 278, 1709, 1709] := hg.grow rfl hq1 hk1
  have hq := m_lt_nx hq (by omega) hq1
  have hbm : m_ri S20 (x + 37) 0 = (200 : Int32) := by rw [← e_S20, m_new_ri_ne (by omega)]; exact hbm
  refine n_puwr X hin hH hS hT (k := 9) (i := 2) (a := (x + 37)) (b := (x + 40)) (j := 3) (A := 3) (B := 0) tyX9 (hg 0 _ rfl) (by decide) (by decide) rfl m_wi9 tyX9_ok nmX9 (by decide) in_2_12 rfl rfl rfl rfl rfl (by first | rfl | omega) ⟨rfl, rfl⟩ dX9_init_104 (fun H locs κ22 hq1 hk1 hT hH hS => ?_)
  have hg : m_seg κ22 (x + 37) [7331, 278, 1709, 1709] := hg.swap hq1 hk1
  have hq := m_lt_ne hq hq1
  refine lv_aload_n hx hb dX9_init_107 rfl (lv_at hl 0 rfl) ?_
  refine lv_aload_n hx hb dX9_init_108 rfl (lv_at hl 0 rfl) ?_
  refine r_gewi X hH (k := 9) (i := 3) (a := (x + 37)) (j := 0) (hg 0 _ rfl) (by decide) (by decide) rfl m_wi9 (by decide) in_2_9 rfl rfl dX9_init_109 ?_
  refine lv_iconst (v := (1 : Int32)) hx hb dX9_init_112 (by decide) ?_
  refine lv_iadd hx hb dX9_init_113 ?_
  refine n_topi (y := (201 : Int32)) (by rw [hbm]; decide) ?_
  obtain ⟨S23, e_S23, hm⟩ := m_let_of hm
  refine n_newa X hH hS hT (ty := .long) (N := 201) rfl in_1_120 2 rfl (by decide) rfl m_RAl (by decide) (by decide) (by decide) e_S23 (nx' := (x + 42)) rfl (Nat.le_of_ble_eq_true rfl) (Nat.le_of_ble_eq_true rfl) dX9_init_114 (fun H κ24 hq1 hk1 hT hH hS => ?_)
  have hg : m_seg κ24 (x + 37) [7331, 278, 1709, 1709, 1710] := hg.grow rfl hq1 hk1
  have hq := m_lt_nx hq (by omega) hq1
  have hbm : m_ri S23 (x + 37) 0 = (200 : Int32) := by rw [← e_S23, m_new_ri_ne (by omega)]; exact hbm
  refine n_puwr X hin hH hS hT (k := 9) (i := 3) (a := (x + 37)) (b := (x + 41)) (j := 4) (A := 4) (B := 0) tyX9 (hg 0 _ rfl) (by decide) (by decide) rfl m_wi9 tyX9_ok nmX9 (by decide) in_2_13 rfl rfl rfl rfl rfl (by first | rfl | omega) ⟨rfl, rfl⟩ dX9_init_116 (fun H locs κ25 hq1 hk1 hT hH hS => ?_)
  have hg : m_seg κ25 (x + 37) [7339, 278, 1709, 1709, 1710] := hg.swap hq1 hk1
  have hq := m_lt_ne hq hq1
  obtain ⟨κ26, hq1, hk_s, hg, hT, hH⟩ := m_sealp (k := 9) (i := 4) (tl := [278]) (t2 := [1709, 1709, 1710]) hH hT hg (by decide) (by decide) rfl rfl (by decide)
  have hq := m_lt_ne hq hq1
  refine lv_iconst (v := (0 : Int32)) hx hb dX9_init_119 (by decide) ?_
  refine lv_istore_n (lv' := [(2, .int (0 : Int32)), (0, .ref (x + 37)), (1, .int (200 : Int32))]) hx hb dX9_init_120 rfl hl (by decide) rfl (fun ls hl => ?_)
  refine lv_lconst (v := (0 : Int64)) hx hb dX9_init_121 (by decide) ?_
  refine lv_lstore_n (lv' := [(3, .long (0 : Int64)), (2, .int (0 : Int32)), (0, .ref (x + 37)), (1, .int (200 : Int32))]) hx hb dX9_init_122 rfl hl (by decide) rfl (fun ls hl => ?_)
  refine lv_iconst (v := (0 : Int32)) hx hb dX9_init_123 (by decide) ?_
  refine lv_istore (lv' := [(5, .int (0 : Int32)), (3, .long (0 : Int64)), (2, .int (0 : Int32)), (0, .ref (x + 37)), (1, .int (200 : Int32))]) hx hb dX9_init_124 hl (by decide) rfl (fun ls hl => ?_)
  exact k_X9s_init_126 X hN hXs hZ hr hT hk_s hq hg m_fu _ _ _ _ _ _ _ hH hS (lv_sub hl [3, 2, 1, 0] rfl) hm
def rm_X8_init : Room := { frames := 7, cells := 10, slots := 809, locals := 245 }
def f_X8_init (x : Nat) (S : m_M) : Option m_M :=
    m_let (m_new S (x + 32)) fun S1 =>
    m_cal0 (f_X7_init (x + 32) S1) fun S3 =>
    m_let (m_new S3 (x + 37)) fun S6 =>
    m_cal0 (f_X9s_init x S6) fun S8 =>
    some S8
set_option maxHeartbeats 4000000 in
set_option maxRecDepth 100000 in
theorem c_X8_init {l : Launch} {G : m_G} {κ : Nat → Nat} {x q v : Nat} {S S' : m_M} (hT : m_Str κ) (hk1 : κ (x + 31) = m_ac 7 (100 * 8)) (hm : f_X8_init x S = some S') : m_KT l yX8_init cX8_init 1 rm_X8_init G (x + 31) (m_lay 9) (x + 32) κ q v [.ref (x + 31)] S S' 10 809 := by
  refine m_KT.of (by decide) rfl (Nat.le_of_ble_eq_true rfl) ?_
  intro p e s m args below meth c ls X hN hXs hZ hin hr hH hl
  have hx := X.1.1
  have hb := X.1.2.1
  have hS : m_S G s s.heap [] := va_S.rf
  have hl : lv_has ls 1 [(0, .ref (x + 31))] := hl
  have hg : m_seg κ (x + 31) [6507] := m_seg.one hk1
  have hq : ∀ q, q < (x + 31) → κ q = κ q := fun _ _ => rfl
  rw [f_X8_init] at hm
  refine lv_aload_n hx hb dX8_init_0 rfl (lv_at hl 0 rfl) ?_
  refine W.objInit hx hb X.1.2.2.2.1 (m_w X in_2_92) (m_w X in_1_32) (m_w X in_1_33) rfl (by rw [X.1.2.2.1]; exact hl.1) rfl dX8_init_1 (Nat.le_of_ble_eq_true rfl) (Nat.le_of_ble_eq_true rfl) ?_
  refine W.eq (g2 := F0 m 4 ls []) rfl ?_
  refine lv_aload_n hx hb dX8_init_4 rfl (lv_at hl 0 rfl) ?_
  obtain ⟨S1, e_S1, hm⟩ := m_let_of hm
  refine n_new X hH hS hT (k := 7) tyX7 (by decide) rfl m_wi7 tyX7_ok in_2_93 in_2_94 in_1_12 m_df7 e_S1 (nx' := (x + 33)) rfl (Nat.le_of_ble_eq_true rfl) (Nat.le_of_ble_eq_true rfl) dX8_init_5 (fun H κ2 hq1 hk1 hT hH hS => ?_)
  have hgk : m_seg κ2 (x + 31) [6507] := hg.kept (fun q h => hq1 q (by simpa using h))
  have hg := hgk
  have hq := m_lt_nx hq (by omega) hq1
  refine lv_dup hx hb dX8_init_8 rfl ?_
  obtain ⟨S3, e_S3, hm⟩ := m_cal0_of hm
  refine n_cIN (host := "RegionRooms") X hN hH hS (c_X7_init (a := (x + 32)) hT hk1 e_S3) mw_X7_init in_2_96 rfl (by decide +kernel) rfl ⟨rfl, rfl⟩ ⟨Nat.le_of_ble_eq_true rfl, Nat.le_of_ble_eq_true rfl⟩ ⟨Nat.le_of_ble_eq_true rfl, Nat.le_of_ble_eq_true rfl⟩ hl.1 (Nat.le_of_ble_eq_true rfl) dX8_init_9 (fun H locs κ4 hq1 hg1 hT hH hS => ?_)
  have hg : m_seg κ4 (x + 31) [6507, 8, 421, 421, 421, 423] := hg.growS rfl hq1 hg1
  have hq := m_lt_nx hq (by omega) hq1
  have hH : m_H G (x + 37) κ4 S3 H := hH
  refine n_puwr X hin hH hS hT (k := 8) (i := 0) (a := (x + 31)) (b := (x + 32)) (j := 0) (A := 1) (B := 0) tyX8 (hg 0 _ rfl) (by decide) (by decide) rfl m_wi8 tyX8_ok nmX8 (by decide) in_2_128 rfl rfl rfl rfl rfl (by first | rfl | omega) ⟨rfl, rfl⟩ dX8_init_12 (fun H locs κ5 hq1 hk1 hT hH hS => ?_)
  have hg : m_seg κ5 (x + 31) [6515, 8, 421, 421, 421, 423] := hg.swap hq1 hk1
  have hq := m_lt_ne hq hq1
  refine lv_aload_n hx hb dX8_init_15 rfl (lv_at hl 0 rfl) ?_
  obtain ⟨S6, e_S6, hm⟩ := m_let_of hm
  refine n_new X hH hS hT (k := 9) tyX9 (by decide) rfl m_wi9 tyX9_ok in_2_126 in_1_187 in_1_5 m_df9 e_S6 (nx' := (x + 38)) rfl (Nat.le_of_ble_eq_true rfl) (Nat.le_of_ble_eq_true rfl) dX8_init_16 (fun H κ7 hq1 hk1 hT hH hS => ?_)
  have hgk : m_seg κ7 (x + 31) [6515, 8, 421, 421, 421, 423] := hg.kept (fun q h => hq1 q (by simpa using h))
  have hg := hgk
  have hq := m_lt_nx hq (by omega) hq1
  refine lv_dup hx hb dX8_init_19 rfl ?_
  refine lv_sipush (v := (200 : Int32)) hx hb dX8_init_20 (by decide) ?_
  obtain ⟨S8, e_S8, hm⟩ := m_cal0_of hm
  refine n_cIT X hN hXs hZ hH hS (c_X9s_init (x := x) hT hk1 e_S8) mw_X9_init in_1_189 rfl in_2_127 rfl ⟨rfl, rfl⟩ ⟨Nat.le_of_ble_eq_true rfl, Nat.le_of_ble_eq_true rfl⟩ ⟨Nat.le_of_ble_eq_true rfl, Nat.le_of_ble_eq_true rfl⟩ hl.1 (Nat.le_of_ble_eq_true rfl) dX8_init_23 (fun H locs κ9 hq1 hg1 hT hH hS => ?_)
  have hg : m_seg κ9 (x + 31) [6515, 8, 421, 421, 421, 423, 10, 278, 1709, 1709, 1710] := hg.growS rfl hq1 hg1
  have hq := m_lt_nx hq (by omega) hq1
  have hH : m_H G (x + 42) κ9 S8 H := hH
  refine n_puwr X hin hH hS hT (k := 8) (i := 1) (a := (x + 31)) (b := (x + 37)) (j := 1) (A := 6) (B := 0) tyX8 (hg 0 _ rfl) (by decide) (by decide) rfl m_wi8 tyX8_ok nmX8 (by decide) in_2_130 rfl rfl rfl rfl rfl (by first | rfl | omega) ⟨rfl, rfl⟩ dX8_init_26 (fun H locs κ10 hq1 hk1 hT hH hS => ?_)
  have hg : m_seg κ10 (x + 31) [6523, 8, 421, 421, 421, 423, 10, 278, 1709, 1709, 1710] := hg.swap hq1 hk1
  have hq := m_lt_ne hq hq1
  obtain ⟨κ11, hq1, hk_s, hg, hT, hH⟩ := m_seal (k := 8) (i := 2) hH hT hg (by decide) (by decide) rfl rfl (by decide)
  have hq := m_lt_ne hq hq1
  exact r_kret X hN hr hH hS hm hT hq hg rfl (Nat.le_of_ble_eq_true rfl) (Nat.le_of_ble_eq_true rfl) dX8_init_29
def rm_X11_init : Room := { frames := 8, cells := 99, slots := 11777, locals := 265 }
def f_X11_init (a : Nat) (S : m_M) : Option m_M :=
    m_let (m_new S (a + 1)) fun S1 =>
    m_let (m_si S1 a 1 (0 : Int32)) fun S4 =>
    m_let (m_new S4 (a + 2)) fun S5 =>
    m_cal0 (f_X4_init a S5) fun S7 =>
    m_let (m_new S7 (a + 31)) fun S10 =>
    m_cal0 (f_X8_init a S10) fun S12 =>
    m_let (m_new S12 (a + 42)) fun S15 =>
    m_cal0 (f_X5_init (a + 42) S15) fun S17 =>
    m_let (m_si S17 a 5 (0 : Int32)) fun S20 =>
    m_let (m_new S20 (a + 47)) fun S21 =>
    m_cal0 (f_X10_init (a + 47) S21) fun S23 =>
    m_let (m_new S23 (a + 84)) fun S26 =>
    m_cal0 (f_X2_init (a + 84) S26) fun S28 =>
    m_let (m_new S28 (a + 93)) fun S31 =>
    m_cal0 (f_X1_init (a + 93) S31) fun S33 =>
    m_let (m_new S33 (a + 96)) fun S36 =>
    m_cal0 (f_X0_init (a + 96) S36) fun S38 =>
    m_let (m_new S38 (a + 98)) fun S41 =>
    m_let (m_new S41 (a + 99)) fun S44 =>
    m_let (m_si S44 a 12 (0 : Int32)) fun S48 =>
    some S48
set_option maxHeartbeats 4000000 in
set_option maxRecDepth 100000 in
theorem c_X11_init {l : Launch} {G : m_G} {κ : Nat → Nat} {a q v : Nat} {S S' : m_M} (hT : m_Str κ) (hk1 : κ a = m_ac 7 (100 * 11)) (hm : f_X11_init a S = some S') : m_KT l yX11_init cX11_init 1 rm_X11_init G a (m_lay 12) (a + 1) κ q v [.ref a] S S' 99 11777 := by
  refine m_KT.of (by decide) rfl (Nat.le_of_ble_eq_true rfl) ?_
  intro p e s m args below meth c ls X hN hXs hZ hin hr hH hl
  have hx := X.1.1
  have hb := X.1.2.1
  have hS : m_S G s s.heap [] := va_S.rf
  have hl : lv_has ls 1 [(0, .ref a)] := hl
  have hg : m_seg κ a [8907] := m_seg.one hk1
  have hq : ∀ q, q < a → κ q = κ q := fun _ _ => rfl
  rw [f_X11_init] at hm
  refine lv_aload_n hx hb dX11_init_0 rfl (lv_at hl 0 rfl) ?_
  refine W.objInit hx hb X.1.2.2.2.1 (m_w X in_1_31) (m_w X in_1_32) (m_w X in_1_33) rfl (by rw [X.1.2.2.1]; exact hl.1) rfl dX11_init_1 (Nat.le_of_ble_eq_true rfl) (Nat.le_of_ble_eq_true rfl) ?_
  refine W.eq (g2 := F0 m 4 ls []) rfl ?_
  refine lv_aload_n hx hb dX11_init_4 rfl (lv_at hl 0 rfl) ?_
  refine lv_sipush (v := (940 : Int32)) hx hb dX11_init_5 (by decide) ?_
  obtain ⟨S1, e_S1, hm⟩ := m_let_of hm
  refine n_newa X hH hS hT (ty := .byte) (N := 940) rfl in_1_119 0 rfl (by decide) rfl m_RAb (by decide) (by decide) (by decide) e_S1 (nx' := (a + 2)) rfl (Nat.le_of_ble_eq_true rfl) (Nat.le_of_ble_eq_true rfl) dX11_init_8 (fun H κ2 hq1 hk1 hT hH hS => ?_)
  have hg : m_seg κ2 a [8907, 7620] := hg.grow rfl hq1 hk1
  have hq := m_lt_nx hq (by omega) hq1
  refine n_puwr X hin hH hS hT (k := 11) (i := 0) (a := a) (b := (a + 1)) (j := 0) (A := 1) (B := 0) tyX11 (hg 0 _ rfl) (by decide) (by decide) rfl m_wi11 tyX11_ok nmX11 (by decide) in_3_73 rfl rfl rfl rfl rfl (by first | rfl | omega) ⟨rfl, rfl⟩ dX11_init_10 (fun H locs κ3 hq1 hk1 hT hH hS => ?_)
  have hg : m_seg κ3 a [8915, 7620] := hg.swap hq1 hk1
  have hq := m_lt_ne hq hq1
  refine lv_aload_n hx hb dX11_init_13 rfl (lv_at hl 0 rfl) ?_
  refine lv_iconst (v := (0 : Int32)) hx hb dX11_init_14 (by decide) ?_
  obtain ⟨S4, e_S4, hm⟩ := m_let_of hm
  refine n_puwi X hH hS tyX11 (k := 11) (i := 1) (a := a) (j := 1) (hg 0 _ rfl) (by decide) (by decide) rfl m_wi11 tyX11_ok nmX11 (by decide) in_3_74 rfl rfl rfl ⟨rfl, rfl⟩ e_S4 dX11_init_15 (fun H locs hH hS => ?_)
  refine lv_aload_n hx hb dX11_init_18 rfl (lv_at hl 0 rfl) ?_
  obtain ⟨S5, e_S5, hm⟩ := m_let_of hm
  refine n_new X hH hS hT (k := 4) tyX4 (by decide) rfl m_wi4 tyX4_ok in_1_34 in_1_35 in_1_2 m_df4 e_S5 (nx' := (a + 3)) rfl (Nat.le_of_ble_eq_true rfl) (Nat.le_of_ble_eq_true rfl) dX11_init_19 (fun H κ6 hq1 hk1 hT hH hS => ?_)
  have hgk : m_seg κ6 a [8915, 7620] := hg.kept (fun q h => hq1 q (by simpa using h))
  have hg := hgk
  have hq := m_lt_nx hq (by omega) hq1
  refine lv_dup hx hb dX11_init_22 rfl ?_
  obtain ⟨S7, e_S7, hm⟩ := m_cal0_of hm
  refine n_cITN (host := "RegionRooms") X hN hXs hZ hH hS (c_X4_init (x := a) hT hk1 e_S7) mw_X4_init in_1_37 rfl (by decide +kernel) rfl ⟨rfl, rfl⟩ ⟨Nat.le_of_ble_eq_true rfl, Nat.le_of_ble_eq_true rfl⟩ ⟨Nat.le_of_ble_eq_true rfl, Nat.le_of_ble_eq_true rfl⟩ hl.1 (Nat.le_of_ble_eq_true rfl) dX11_init_23 (fun H locs κ8 hq1 hg1 hT hH hS => ?_)
  have hg : m_seg κ8 a [8915, 7620, 5, 4, 142, 141, 141, 141, 293, 293, 1061, 7, 1181, 1181, 293, 293, 293, 293, 293, 141, 141, 1061, 1061, 293, 293, 10, 278, 7309, 7309, 7310, 318] := hg.growS rfl hq1 hg1
  have hq := m_lt_nx hq (by omega) hq1
  have hH : m_H G (a + 31) κ8 S7 H := hH
  refine n_puwr X hin hH hS hT (k := 11) (i := 1) (a := a) (b := (a + 2)) (j := 2) (A := 2) (B := 0) tyX11 (hg 0 _ rfl) (by decide) (by decide) rfl m_wi11 tyX11_ok nmX11 (by decide) in_3_75 rfl rfl rfl rfl rfl (by first | rfl | omega) ⟨rfl, rfl⟩ dX11_init_26 (fun H locs κ9 hq1 hk1 hT hH hS => ?_)
  have hg : m_seg κ9 a [8923, 7620, 5, 4, 142, 141, 141, 141, 293, 293, 1061, 7, 1181, 1181, 293, 293, 293, 293, 293, 141, 141, 1061, 1061, 293, 293, 10, 278, 7309, 7309, 7310, 318] := hg.swap hq1 hk1
  have hq := m_lt_ne hq hq1
  refine lv_aload_n hx hb dX11_init_29 rfl (lv_at hl 0 rfl) ?_
  obtain ⟨S10, e_S10, hm⟩ := m_let_of hm
  refine n_new X hH hS hT (k := 8) tyX8 (by decide) rfl m_wi8 tyX8_ok in_2_87 in_2_88 in_1_11 m_df8 e_S10 (nx' := (a + 32)) rfl (Nat.le_of_ble_eq_true rfl) (Nat.le_of_ble_eq_true rfl) dX11_init_30 (fun H κ11 hq1 hk1 hT hH hS => ?_)
  have hgk : m_seg κ11 a [8923, 7620, 5, 4, 142, 141, 141, 141, 293, 293, 1061, 7, 1181, 1181, 293, 293, 293, 293, 293, 141, 141, 1061, 1061, 293, 293, 10, 278, 7309, 7309, 7310, 318] := hg.kept (fun q h => hq1 q (by simpa using h))
  have hg := hgk
  have hq := m_lt_nx hq (by omega) hq1
  refine lv_dup hx hb dX11_init_33 rfl ?_
  obtain ⟨S12, e_S12, hm⟩ := m_cal0_of hm
  refine n_cITN (host := "RegionRooms") X hN hXs hZ hH hS (c_X8_init (x := a) hT hk1 e_S12) mw_X8_init in_2_90 rfl (by decide +kernel) rfl ⟨rfl, rfl⟩ ⟨Nat.le_of_ble_eq_true rfl, Nat.le_of_ble_eq_true rfl⟩ ⟨Nat.le_of_ble_eq_true rfl, Nat.le_of_ble_eq_true rfl⟩ hl.1 (Nat.le_of_ble_eq_true rfl) dX11_init_34 (fun H locs κ13 hq1 hg1 hT hH hS => ?_)
  have hg : m_seg κ13 a [8923, 7620, 5, 4, 142, 141, 141, 141, 293, 293, 1061, 7, 1181, 1181, 293, 293, 293, 293, 293, 141, 141, 1061, 1061, 293, 293, 10, 278, 7309, 7309, 7310, 318, 9, 8, 421, 421, 421, 423, 10, 278, 1709, 1709, 1710] := hg.growS rfl hq1 hg1
  have hq := m_lt_nx hq (by omega) hq1
  have hH : m_H G (a + 42) κ13 S12 H := hH
  refine n_puwr X hin hH hS hT (k := 11) (i := 2) (a := a) (b := (a + 31)) (j := 3) (A := 31) (B := 0) tyX11 (hg 0 _ rfl) (by decide) (by decide) rfl m_wi11 tyX11_ok nmX11 (by decide) in_3_76 rfl rfl rfl rfl rfl (by first | rfl | omega) ⟨rfl, rfl⟩ dX11_init_37 (fun H locs κ14 hq1 hk1 hT hH hS => ?_)
  have hg : m_seg κ14 a [8931, 7620, 5, 4, 142, 141, 141, 141, 293, 293, 1061, 7, 1181, 1181, 293, 293, 293, 293, 293, 141, 141, 1061, 1061, 293, 293, 10, 278, 7309, 7309, 7310, 318, 9, 8, 421, 421, 421, 423, 10, 278, 1709, 1709, 1710] := hg.swap hq1 hk1
  have hq := m_lt_ne hq hq1
  refine lv_aload_n hx hb dX11_init_40 rfl (lv_at hl 0 rfl) ?_
  obtain ⟨S15, e_S15, hm⟩ := m_let_of hm
  refine n_new X hH hS hT (k := 5) tyX5 (by decide) rfl m_wi5 tyX5_ok in_2_137 in_2_138 in_1_13 m_df5 e_S15 (nx' := (a + 43)) rfl (Nat.le_of_ble_eq_true rfl) (Nat.le_of_ble_eq_true rfl) dX11_init_41 (fun H κ16 hq1 hk1 hT hH hS => ?_)
  have hgk : m_seg κ16 a [8931, 7620, 5, 4, 142, 141, 141, 141, 293, 293, 1061, 7, 1181, 1181, 293, 293, 293, 293, 293, 141, 141, 1061, 1061, 293, 293, 10, 278, 7309, 7309, 7310, 318, 9, 8, 421, 421, 421, 423, 10, 278, 1709, 1709, 1710] := hg.kept (fun q h => hq1 q (by simpa using h))
  have hg := hgk
  have hq := m_lt_nx hq (by omega) hq1
  refine lv_dup hx hb dX11_init_44 rfl ?_
  obtain ⟨S17, e_S17, hm⟩ := m_cal0_of hm
  refine n_cIN (host := "RegionRooms") X hN hH hS (c_X5_init (a := (a + 42)) hT hk1 e_S17) mw_X5_init in_2_140 rfl (by decide +kernel) rfl ⟨rfl, rfl⟩ ⟨Nat.le_of_ble_eq_true rfl, Nat.le_of_ble_eq_true rfl⟩ ⟨Nat.le_of_ble_eq_true rfl, Nat.le_of_ble_eq_true rfl⟩ hl.1 (Nat.le_of_ble_eq_true rfl) dX11_init_45 (fun H locs κ18 hq1 hg1 hT hH hS => ?_)
  have hg : m_seg κ18 a [8931, 7620, 5, 4, 142, 141, 141, 141, 293, 293, 1061, 7, 1181, 1181, 293, 293, 293, 293, 293, 141, 141, 1061, 1061, 293, 293, 10, 278, 7309, 7309, 7310, 318, 9, 8, 421, 421, 421, 423, 10, 278, 1709, 1709, 1710, 6, 1565, 1565, 1565, 1565] := hg.growS rfl hq1 hg1
  have hq := m_lt_nx hq (by omega) hq1
  have hH : m_H G (a + 47) κ18 S17 H := hH
  refine n_puwr X hin hH hS hT (k := 11) (i := 3) (a := a) (b := (a + 42)) (j := 4) (A := 42) (B := 0) tyX11 (hg 0 _ rfl) (by decide) (by decide) rfl m_wi11 tyX11_ok nmX11 (by decide) in_3_77 rfl rfl rfl rfl rfl (by first | rfl | omega) ⟨rfl, rfl⟩ dX11_init_48 (fun H locs κ19 hq1 hk1 hT hH hS => ?_)
  have hg : m_seg κ19 a [8939, 7620, 5, 4, 142, 141, 141, 141, 293, 293, 1061, 7, 1181, 1181, 293, 293, 293, 293, 293, 141, 141, 1061, 1061, 293, 293, 10, 278, 7309, 7309, 7310, 318, 9, 8, 421, 421, 421, 423, 10, 278, 1709, 1709, 1710, 6, 1565, 1565, 1565, 1565] := hg.swap hq1 hk1
  have hq := m_lt_ne hq hq1
  refine lv_aload_n hx hb dX11_init_51 rfl (lv_at hl 0 rfl) ?_
  refine lv_iconst (v := (0 : Int32)) hx hb dX11_init_52 (by decide) ?_
  obtain ⟨S20, e_S20, hm⟩ := m_let_of hm
  refine n_puwi X hH hS tyX11 (k := 11) (i := 4) (a := a) (j := 5) (hg 0 _ rfl) (by decide) (by decide) rfl m_wi11 tyX11_ok nmX11 (by decide) in_3_78 rfl rfl rfl ⟨rfl, rfl⟩ e_S20 dX11_init_53 (fun H locs hH hS => ?_)
  refine lv_aload_n hx hb dX11_init_56 rfl (lv_at hl 0 rfl) ?_
  obtain ⟨S21, e_S21, hm⟩ := m_let_of hm
  refine n_new X hH hS hT (k := 10) tyX10 (by decide) rfl m_wi10 tyX10_ok in_2_159 in_2_160 in_1_14 m_df10 e_S21 (nx' := (a + 48)) rfl (Nat.le_of_ble_eq_true rfl) (Nat.le_of_ble_eq_true rfl) dX11_init_57 (fun H κ22 hq1 hk1 hT hH hS => ?_)
  have hgk : m_seg κ22 a [8939, 7620, 5, 4, 142, 141, 141, 141, 293, 293, 1061, 7, 1181, 1181, 293, 293, 293, 293, 293, 141, 141, 1061, 1061, 293, 293, 10, 278, 7309, 7309, 7310, 318, 9, 8, 421, 421, 421, 423, 10, 278, 1709, 1709, 1710, 6, 1565, 1565, 1565, 1565] := hg.kept (fun q h => hq1 q (by simpa using h))
  have hg := hgk
  have hq := m_lt_nx hq (by omega) hq1
  refine lv_dup hx hb dX11_init_60 rfl ?_
  obtain ⟨S23, e_S23, hm⟩ := m_cal0_of hm
  refine n_cIN (host := "RegionRooms") X hN hH hS (c_X10_init (a := (a + 47)) hT hk1 e_S23) mw_X10_init in_2_162 rfl (by decide +kernel) rfl ⟨rfl, rfl⟩ ⟨Nat.le_of_ble_eq_true rfl, Nat.le_of_ble_eq_true rfl⟩ ⟨Nat.le_of_ble_eq_true rfl, Nat.le_of_ble_eq_true rfl⟩ hl.1 (Nat.le_of_ble_eq_true rfl) dX11_init_61 (fun H locs κ24 hq1 hg1 hT hH hS => ?_)
  have hg : m_seg κ24 a [8939, 7620, 5, 4, 142, 141, 141, 141, 293, 293, 1061, 7, 1181, 1181, 293, 293, 293, 293, 293, 141, 141, 1061, 1061, 293, 293, 10, 278, 7309, 7309, 7310, 318, 9, 8, 421, 421, 421, 423, 10, 278, 1709, 1709, 1710, 6, 1565, 1565, 1565, 1565, 11, 4, 142, 141, 141, 141, 293, 293, 1061, 7, 1181, 1181, 293, 293, 293, 293, 293, 141, 141, 1061, 1061, 293, 293, 3, 205, 205, 2909, 2909, 2597, 1701, 3301, 3301, 8, 421, 421, 421, 423] := hg.growS rfl hq1 hg1
  have hq := m_lt_nx hq (by omega) hq1
  have hH : m_H G (a + 84) κ24 S23 H := hH
  refine n_puwr X hin hH hS hT (k := 11) (i := 4) (a := a) (b := (a + 47)) (j := 6) (A := 47) (B := 0) tyX11 (hg 0 _ rfl) (by decide) (by decide) rfl m_wi11 tyX11_ok nmX11 (by decide) in_3_79 rfl rfl rfl rfl rfl (by first | rfl | omega) ⟨rfl, rfl⟩ dX11_init_64 (fun H locs κ25 hq1 hk1 hT hH hS => ?_)
  have hg : m_seg κ25 a [8947, 7620, 5, 4, 142, 141, 141, 141, 293, 293, 1061, 7, 1181, 1181, 293, 293, 293, 293, 293, 141, 141, 1061, 1061, 293, 293, 10, 278, 7309, 7309, 7310, 318, 9, 8, 421, 421, 421, 423, 10, 278, 1709, 1709, 1710, 6, 1565, 1565, 1565, 1565, 11, 4, 142, 141, 141, 141, 293, 293, 1061, 7, 1181, 1181, 293, 293, 293, 293, 293, 141, 141, 1061, 1061, 293, 293, 3, 205, 205, 2909, 2909, 2597, 1701, 3301, 3301, 8, 421, 421, 421, 423] := hg.swap hq1 hk1
  have hq := m_lt_ne hq hq1
  refine lv_aload_n hx hb dX11_init_67 rfl (lv_at hl 0 rfl) ?_
  obtain ⟨S26, e_S26, hm⟩ := m_let_of hm
  refine n_new X hH hS hT (k := 2) tyX2 (by decide) rfl m_wi2 tyX2_ok in_3_35 in_2_168 in_1_15 m_df2 e_S26 (nx' := (a + 85)) rfl (Nat.le_of_ble_eq_true rfl) (Nat.le_of_ble_eq_true rfl) dX11_init_68 (fun H κ27 hq1 hk1 hT hH hS => ?_)
  have hgk : m_seg κ27 a [8947, 7620, 5, 4, 142, 141, 141, 141, 293, 293, 1061, 7, 1181, 1181, 293, 293, 293, 293, 293, 141, 141, 1061, 1061, 293, 293, 10, 278, 7309, 7309, 7310, 318, 9, 8, 421, 421, 421, 423, 10, 278, 1709, 1709, 1710, 6, 1565, 1565, 1565, 1565, 11, 4, 142, 141, 141, 141, 293, 293, 1061, 7, 1181, 1181, 293, 293, 293, 293, 293, 141, 141, 1061, 1061, 293, 293, 3, 205, 205, 2909, 2909, 2597, 1701, 3301, 3301, 8, 421, 421, 421, 423] := hg.kept (fun q h => hq1 q (by simpa using h))
  have hg := hgk
  have hq := m_lt_nx hq (by omega) hq1
  refine lv_dup hx hb dX11_init_71 rfl ?_
  obtain ⟨S28, e_S28, hm⟩ := m_cal0_of hm
  refine n_cI X hN hH hS (c_X2_init (a := (a + 84)) hT hk1 e_S28) mw_X2_init in_2_170 rfl in_3_36 rfl ⟨rfl, rfl⟩ ⟨Nat.le_of_ble_eq_true rfl, Nat.le_of_ble_eq_true rfl⟩ ⟨Nat.le_of_ble_eq_true rfl, Nat.le_of_ble_eq_true rfl⟩ hl.1 (Nat.le_of_ble_eq_true rfl) dX11_init_72 (fun H locs κ29 hq1 hg1 hT hH hS => ?_)
  have hg : m_seg κ29 a [8947, 7620, 5, 4, 142, 141, 141, 141, 293, 293, 1061, 7, 1181, 1181, 293, 293, 293, 293, 293, 141, 141, 1061, 1061, 293, 293, 10, 278, 7309, 7309, 7310, 318, 9, 8, 421, 421, 421, 423, 10, 278, 1709, 1709, 1710, 6, 1565, 1565, 1565, 1565, 11, 4, 142, 141, 141, 141, 293, 293, 1061, 7, 1181, 1181, 293, 293, 293, 293, 293, 141, 141, 1061, 1061, 293, 293, 3, 205, 205, 2909, 2909, 2597, 1701, 3301, 3301, 8, 421, 421, 421, 423, 3, 205, 205, 2909, 2909, 2597, 1701, 3301, 3301] := hg.growS rfl hq1 hg1
  have hq := m_lt_nx hq (by omega) hq1
  have hH : m_H G (a + 93) κ29 S28 H := hH
  refine n_puwr X hin hH hS hT (k := 11) (i := 5) (a := a) (b := (a + 84)) (j := 7) (A := 84) (B := 0) tyX11 (hg 0 _ rfl) (by decide) (by decide) rfl m_wi11 tyX11_ok nmX11 (by decide) in_3_80 rfl rfl rfl rfl rfl (by first | rfl | omega) ⟨rfl, rfl⟩ dX11_init_75 (fun H locs κ30 hq1 hk1 hT hH hS => ?_)
  have hg : m_seg κ30 a [8955, 7620, 5, 4, 142, 141, 141, 141, 293, 293, 1061, 7, 1181, 1181, 293, 293, 293, 293, 293, 141, 141, 1061, 1061, 293, 293, 10, 278, 7309, 7309, 7310, 318, 9, 8, 421, 421, 421, 423, 10, 278, 1709, 1709, 1710, 6, 1565, 1565, 1565, 1565, 11, 4, 142, 141, 141, 141, 293, 293, 1061, 7, 1181, 1181, 293, 293, 293, 293, 293, 141, 141, 1061, 1061, 293, 293, 3, 205, 205, 2909, 2909, 2597, 1701, 3301, 3301, 8, 421, 421, 421, 423, 3, 205, 205, 2909, 2909, 2597, 1701, 3301, 3301] := hg.swap hq1 hk1
  have hq := m_lt_ne hq hq1
  refine lv_aload_n hx hb dX11_init_78 rfl (lv_at hl 0 rfl) ?_
  obtain ⟨S31, e_S31, hm⟩ := m_let_of hm
  refine n_new X hH hS hT (k := 1) tyX1 (by decide) rfl m_wi1 tyX1_ok in_3_37 in_3_38 in_1_17 m_df1 e_S31 (nx' := (a + 94)) rfl (Nat.le_of_ble_eq_true rfl) (Nat.le_of_ble_eq_true rfl) dX11_init_79 (fun H κ32 hq1 hk1 hT hH hS => ?_)
  have hgk : m_seg κ32 a [8955, 7620, 5, 4, 142, 141, 141, 141, 293, 293, 1061, 7, 1181, 1181, 293, 293, 293, 293, 293, 141, 141, 1061, 1061, 293, 293, 10, 278, 7309, 7309, 7310, 318, 9, 8, 421, 421, 421, 423, 10, 278, 1709, 1709, 1710, 6, 1565, 1565, 1565, 1565, 11, 4, 142, 141, 141, 141, 293, 293, 1061, 7, 1181, 1181, 293, 293, 293, 293, 293, 141, 141, 1061, 1061, 293, 293, 3, 205, 205, 2909, 2909, 2597, 1701, 3301, 3301, 8, 421, 421, 421, 423, 3, 205, 205, 2909, 2909, 2597, 1701, 3301, 3301] := hg.kept (fun q h => hq1 q (by simpa using h))
  have hg := hgk
  have hq := m_lt_nx hq (by omega) hq1
  refine lv_dup hx hb dX11_init_82 rfl ?_
  obtain ⟨S33, e_S33, hm⟩ := m_cal0_of hm
  refine n_cIN (host := "RegionRooms") X hN hH hS (c_X1_init (a := (a + 93)) hT hk1 e_S33) mw_X1_init in_3_40 rfl (by decide +kernel) rfl ⟨rfl, rfl⟩ ⟨Nat.le_of_ble_eq_true rfl, Nat.le_of_ble_eq_true rfl⟩ ⟨Nat.le_of_ble_eq_true rfl, Nat.le_of_ble_eq_true rfl⟩ hl.1 (Nat.le_of_ble_eq_true rfl) dX11_init_83 (fun H locs κ34 hq1 hg1 hT hH hS => ?_)
  have hg : m_seg κ34 a [8955, 7620, 5, 4, 142, 141, 141, 141, 293, 293, 1061, 7, 1181, 1181, 293, 293, 293, 293, 293, 141, 141, 1061, 1061, 293, 293, 10, 278, 7309, 7309, 7310, 318, 9, 8, 421, 421, 421, 423, 10, 278, 1709, 1709, 1710, 6, 1565, 1565, 1565, 1565, 11, 4, 142, 141, 141, 141, 293, 293, 1061, 7, 1181, 1181, 293, 293, 293, 293, 293, 141, 141, 1061, 1061, 293, 293, 3, 205, 205, 2909, 2909, 2597, 1701, 3301, 3301, 8, 421, 421, 421, 423, 3, 205, 205, 2909, 2909, 2597, 1701, 3301, 3301, 2, 1703, 1701] := hg.growS rfl hq1 hg1
  have hq := m_lt_nx hq (by omega) hq1
  have hH : m_H G (a + 96) κ34 S33 H := hH
  refine n_puwr X hin hH hS hT (k := 11) (i := 6) (a := a) (b := (a + 93)) (j := 8) (A := 93) (B := 0) tyX11 (hg 0 _ rfl) (by decide) (by decide) rfl m_wi11 tyX11_ok nmX11 (by decide) in_3_81 rfl rfl rfl rfl rfl (by first | rfl | omega) ⟨rfl, rfl⟩ dX11_init_86 (fun H locs κ35 hq1 hk1 hT hH hS => ?_)
  have hg : m_seg κ35 a [8963, 7620, 5, 4, 142, 141, 141, 141, 293, 293, 1061, 7, 1181, 1181, 293, 293, 293, 293, 293, 141, 141, 1061, 1061, 293, 293, 10, 278, 7309, 7309, 7310, 318, 9, 8, 421, 421, 421, 423, 10, 278, 1709, 1709, 1710, 6, 1565, 1565, 1565, 1565, 11, 4, 142, 141, 141, 141, 293, 293, 1061, 7, 1181, 1181, 293, 293, 293, 293, 293, 141, 141, 1061, 1061, 293, 293, 3, 205, 205, 2909, 2909, 2597, 1701, 3301, 3301, 8, 421, 421, 421, 423, 3, 205, 205, 2909, 2909, 2597, 1701, 3301, 3301, 2, 1703, 1701] := hg.swap hq1 hk1
  have hq := m_lt_ne hq hq1
  refine lv_aload_n hx hb dX11_init_89 rfl (lv_at hl 0 rfl) ?_
  obtain ⟨S36, e_S36, hm⟩ := m_let_of hm
  refine n_new X hH hS hT (k := 0) tyX0 (by decide) rfl m_wi0 tyX0_ok in_3_54 in_3_55 in_1_18 m_df0 e_S36 (nx' := (a + 97)) rfl (Nat.le_of_ble_eq_true rfl) (Nat.le_of_ble_eq_true rfl) dX11_init_90 (fun H κ37 hq1 hk1 hT hH hS => ?_)
  have hgk : m_seg κ37 a [8963, 7620, 5, 4, 142, 141, 141, 141, 293, 293, 1061, 7, 1181, 1181, 293, 293, 293, 293, 293, 141, 141, 1061, 1061, 293, 293, 10, 278, 7309, 7309, 7310, 318, 9, 8, 421, 421, 421, 423, 10, 278, 1709, 1709, 1710, 6, 1565, 1565, 1565, 1565, 11, 4, 142, 141, 141, 141, 293, 293, 1061, 7, 1181, 1181, 293, 293, 293, 293, 293, 141, 141, 1061, 1061, 293, 293, 3, 205, 205, 2909, 2909, 2597, 1701, 3301, 3301, 8, 421, 421, 421, 423, 3, 205, 205, 2909, 2909, 2597, 1701, 3301, 3301, 2, 1703, 1701] := hg.kept (fun q h => hq1 q (by simpa using h))
  have hg := hgk
  have hq := m_lt_nx hq (by omega) hq1
  refine lv_dup hx hb dX11_init_93 rfl ?_
  obtain ⟨S38, e_S38, hm⟩ := m_cal0_of hm
  refine n_cIN (host := "RegionRooms") X hN hH hS (c_X0_init (a := (a + 96)) hT hk1 e_S38) mw_X0_init in_3_57 rfl (by decide +kernel) rfl ⟨rfl, rfl⟩ ⟨Nat.le_of_ble_eq_true rfl, Nat.le_of_ble_eq_true rfl⟩ ⟨Nat.le_of_ble_eq_true rfl, Nat.le_of_ble_eq_true rfl⟩ hl.1 (Nat.le_of_ble_eq_true rfl) dX11_init_94 (fun H locs κ39 hq1 hg1 hT hH hS => ?_)
  have hg : m_seg κ39 a [8963, 7620, 5, 4, 142, 141, 141, 141, 293, 293, 1061, 7, 1181, 1181, 293, 293, 293, 293, 293, 141, 141, 1061, 1061, 293, 293, 10, 278, 7309, 7309, 7310, 318, 9, 8, 421, 421, 421, 423, 10, 278, 1709, 1709, 1710, 6, 1565, 1565, 1565, 1565, 11, 4, 142, 141, 141, 141, 293, 293, 1061, 7, 1181, 1181, 293, 293, 293, 293, 293, 141, 141, 1061, 1061, 293, 293, 3, 205, 205, 2909, 2909, 2597, 1701, 3301, 3301, 8, 421, 421, 421, 423, 3, 205, 205, 2909, 2909, 2597, 1701, 3301, 3301, 2, 1703, 1701, 1, 168] := hg.growS rfl hq1 hg1
  have hq := m_lt_nx hq (by omega) hq1
  have hH : m_H G (a + 98) κ39 S38 H := hH
  refine n_puwr X hin hH hS hT (k := 11) (i := 7) (a := a) (b := (a + 96)) (j := 9) (A := 96) (B := 0) tyX11 (hg 0 _ rfl) (by decide) (by decide) rfl m_wi11 tyX11_ok nmX11 (by decide) in_3_82 rfl rfl rfl rfl rfl (by first | rfl | omega) ⟨rfl, rfl⟩ dX11_init_97 (fun H locs κ40 hq1 hk1 hT hH hS => ?_)
  have hg : m_seg κ40 a [8971, 7620, 5, 4, 142, 141, 141, 141, 293, 293, 1061, 7, 1181, 1181, 293, 293, 293, 293, 293, 141, 141, 1061, 1061, 293, 293, 10, 278, 7309, 7309, 7310, 318, 9, 8, 421, 421, 421, 423, 10, 278, 1709, 1709, 1710, 6, 1565, 1565, 1565, 1565, 11, 4, 142, 141, 141, 141, 293, 293, 1061, 7, 1181, 1181, 293, 293, 293, 293, 293, 141, 141, 1061, 1061, 293, 293, 3, 205, 205, 2909, 2909, 2597, 1701, 3301, 3301, 8, 421, 421, 421, 423, 3, 205, 205, 2909, 2909, 2597, 1701, 3301, 3301, 2, 1703, 1701, 1, 168] := hg.swap hq1 hk1
  have hq := m_lt_ne hq hq1
  refine lv_aload_n hx hb dX11_init_100 rfl (lv_at hl 0 rfl) ?_
  refine lv_iconst (v := (2 : Int32)) hx hb dX11_init_101 (by decide) ?_
  obtain ⟨S41, e_S41, hm⟩ := m_let_of hm
  refine n_newq X hH hS hT (N := 2) (C := "RegionRooms$Whole") in_2_159 hN.2.2 5 rfl (by decide) (by decide) (by decide) (by decide) e_S41 (nx' := (a + 99)) rfl (Nat.le_of_ble_eq_true rfl) (Nat.le_of_ble_eq_true rfl) dX11_init_102 (fun H κ42 hq1 hk1 hT hH hS => ?_)
  have hg : m_seg κ42 a [8971, 7620, 5, 4, 142, 141, 141, 141, 293, 293, 1061, 7, 1181, 1181, 293, 293, 293, 293, 293, 141, 141, 1061, 1061, 293, 293, 10, 278, 7309, 7309, 7310, 318, 9, 8, 421, 421, 421, 423, 10, 278, 1709, 1709, 1710, 6, 1565, 1565, 1565, 1565, 11, 4, 142, 141, 141, 141, 293, 293, 1061, 7, 1181, 1181, 293, 293, 293, 293, 293, 141, 141, 1061, 1061, 293, 293, 3, 205, 205, 2909, 2909, 2597, 1701, 3301, 3301, 8, 421, 421, 421, 423, 3, 205, 205, 2909, 2909, 2597, 1701, 3301, 3301, 2, 1703, 1701, 1, 168, 121] := hg.grow rfl hq1 hk1
  have hq := m_lt_nx hq (by omega) hq1
  refine n_puwr X hin hH hS hT (k := 11) (i := 8) (a := a) (b := (a + 98)) (j := 10) (A := 98) (B := 0) tyX11 (hg 0 _ rfl) (by decide) (by decide) rfl m_wi11 tyX11_ok nmX11 (by decide) in_3_83 rfl rfl rfl rfl rfl (by first | rfl | omega) ⟨rfl, rfl⟩ dX11_init_105 (fun H locs κ43 hq1 hk1 hT hH hS => ?_)
  have hg : m_seg κ43 a [8979, 7620, 5, 4, 142, 141, 141, 141, 293, 293, 1061, 7, 1181, 1181, 293, 293, 293, 293, 293, 141, 141, 1061, 1061, 293, 293, 10, 278, 7309, 7309, 7310, 318, 9, 8, 421, 421, 421, 423, 10, 278, 1709, 1709, 1710, 6, 1565, 1565, 1565, 1565, 11, 4, 142, 141, 141, 141, 293, 293, 1061, 7, 1181, 1181, 293, 293, 293, 293, 293, 141, 141, 1061, 1061, 293, 293, 3, 205, 205, 2909, 2909, 2597, 1701, 3301, 3301, 8, 421, 421, 421, 423, 3, 205, 205, 2909, 2909, 2597, 1701, 3301, 3301, 2, 1703, 1701, 1, 168, 121] := hg.swap hq1 hk1
  have hq := m_lt_ne hq hq1
  refine lv_aload_n hx hb dX11_init_108 rfl (lv_at hl 0 rfl) ?_
  refine lv_bipush (v := (8 : Int32)) hx hb dX11_init_109 (by decide) ?_
  obtain ⟨S44, e_S44, hm⟩ := m_let_of hm
  refine n_newa X hH hS hT (ty := .int) (N := 8) rfl in_1_121 1 rfl (by decide) rfl m_RAi (by decide) (by decide) (by decide) e_S44 (nx' := (a + 100)) rfl (Nat.le_of_ble_eq_true rfl) (Nat.le_of_ble_eq_true rfl) dX11_init_111 (fun H κ45 hq1 hk1 hT hH hS => ?_)
  have hg : m_seg κ45 a [8979, 7620, 5, 4, 142, 141, 141, 141, 293, 293, 1061, 7, 1181, 1181, 293, 293, 293, 293, 293, 141, 141, 1061, 1061, 293, 293, 10, 278, 7309, 7309, 7310, 318, 9, 8, 421, 421, 421, 423, 10, 278, 1709, 1709, 1710, 6, 1565, 1565, 1565, 1565, 11, 4, 142, 141, 141, 141, 293, 293, 1061, 7, 1181, 1181, 293, 293, 293, 293, 293, 141, 141, 1061, 1061, 293, 293, 3, 205, 205, 2909, 2909, 2597, 1701, 3301, 3301, 8, 421, 421, 421, 423, 3, 205, 205, 2909, 2909, 2597, 1701, 3301, 3301, 2, 1703, 1701, 1, 168, 121, 165] := hg.grow rfl hq1 hk1
  have hq := m_lt_nx hq (by omega) hq1
  refine n_puwr X hin hH hS hT (k := 11) (i := 9) (a := a) (b := (a + 99)) (j := 11) (A := 99) (B := 0) tyX11 (hg 0 _ rfl) (by decide) (by decide) rfl m_wi11 tyX11_ok nmX11 (by decide) in_3_84 rfl rfl rfl rfl rfl (by first | rfl | omega) ⟨rfl, rfl⟩ dX11_init_113 (fun H locs κ46 hq1 hk1 hT hH hS => ?_)
  have hg : m_seg κ46 a [8987, 7620, 5, 4, 142, 141, 141, 141, 293, 293, 1061, 7, 1181, 1181, 293, 293, 293, 293, 293, 141, 141, 1061, 1061, 293, 293, 10, 278, 7309, 7309, 7310, 318, 9, 8, 421, 421, 421, 423, 10, 278, 1709, 1709, 1710, 6, 1565, 1565, 1565, 1565, 11, 4, 142, 141, 141, 141, 293, 293, 1061, 7, 1181, 1181, 293, 293, 293, 293, 293, 141, 141, 1061, 1061, 293, 293, 3, 205, 205, 2909, 2909, 2597, 1701, 3301, 3301, 8, 421, 421, 421, 423, 3, 205, 205, 2909, 2909, 2597, 1701, 3301, 3301, 2, 1703, 1701, 1, 168, 121, 165] := hg.swap hq1 hk1
  have hq := m_lt_ne hq hq1
  obtain ⟨κ47, hq1, hk_s, hg, hT, hH⟩ := m_seal (k := 11) (i := 10) hH hT hg (by decide) (by decide) rfl rfl (by decide)
  have hq := m_lt_ne hq hq1
  refine lv_aload_n hx hb dX11_init_116 rfl (lv_at hl 0 rfl) ?_
  refine lv_iconst (v := (0 : Int32)) hx hb dX11_init_117 (by decide) ?_
  obtain ⟨S48, e_S48, hm⟩ := m_let_of hm
  refine n_puti X hH hS tyX11 (k := 11) (a := a) (j := 12) hk_s (by decide) rfl m_wi11 tyX11_ok nmX11 (by decide) in_3_85 rfl rfl rfl (m_nz (by decide)) e_S48 dX11_init_118 (fun H locs hH hS => ?_)
  exact r_kret X hN hr hH hS hm hT hq hg rfl (Nat.le_of_ble_eq_true rfl) (Nat.le_of_ble_eq_true rfl) dX11_init_121
