/-! THE LAW -/
abbrev l_lv (b x n : Nat) : List (Nat × Value) := [(0, .ref b), (1, .ref x), (2, .ref (x + 100)), (3, .ref (x + 130)), (4, .int (nI n))]
def l_X (s : State) (G : m_G) (b L : Nat) (xs : Nat → Int32) : Prop := va_X b L xs s s.heap ∧ b < s.heap.size ∧ ¬ m_ge G.2.2 b ∧ L ≤ 3072
/-- where every case ends -/
def l_Q (p : Program) (l : Launch) (e : Env) (s : State) (m : MethodId) (args : Array Value) (below : List Frame) (meth : Method) (c : Code) (Q : State → Prop) (G : m_G) (x b n cells slots : Nat) : Prop :=
  ∀ (H : Heap) (locs : List Loc) (ls : Array Slot) (nx : Nat) (κ : Nat → Nat) (S : m_M), lv_has ls 7 (l_lv b x n) → m_H G nx κ S H → m_S G s H locs → l_K x nx κ → l_S x S → W p l e room_1 s m args below meth c H locs cells slots Q (F0 m 1127 ls [])
section LW
variable {p : Program} {l : Launch} {e : Env} {s : State} {m : MethodId} {args : Array Value} {below : List Frame} {meth : Method} {c : Code} {H : Heap} {locs : List Loc} {cells slots : Nat} {Q : State → Prop} {ls : Array Slot} {rest : List Value} {pc : Nat} {R : Room}
variable {G : m_G} {nx : Nat} {κ : Nat → Nat} {S : m_M} {x b L n : Nat} {xs : Nat → Int32}
theorem ly_ld (X : m_Cx p s m args meth c cL_law 7 RL G) (hX : l_X s G b L xs) (hS : m_S G s H locs) {i : Int32} {k : Nat} (hk : k < L) (hi : i = nI k) (hdg : decode cL_law pc = .ok (.iaload, 1)) (kk : W p l e R s m args below meth c H locs cells slots Q (F0 m (pc + 1) ls (.int (xs k) :: rest))) : W p l e R s m args below meth c H locs cells slots Q (F0 m pc ls (.int i :: .ref b :: rest)) := by
  subst hi
  have hL := hX.2.2.2
  refine va_sld X.1.1 X.1.2.1 hX.1 hX.2.1 hX.2.2.1 hS (vp_in_nI hk (by omega)) hdg ?_
  rw [nI_clamp (by omega)]; exact kk
theorem ly_cmp (v : Int64) : lg_cmp v v = 0 := by unfold lg_cmp; simp
theorem ldd_fun : yL_fun.cls ≠ "java/lang/invoke/MethodHandle" ∧ yL_fun.cls ≠ "java/lang/invoke/VarHandle" ∧ (parseMethodDescriptor yL_fun.desc).map (fun d => d.parameters.length) = some 4 := by decide +kernel
theorem ldd_value : yL_value.cls ≠ "java/lang/invoke/MethodHandle" ∧ yL_value.cls ≠ "java/lang/invoke/VarHandle" ∧ (parseMethodDescriptor yL_value.desc).map (fun d => d.parameters.length) = some 4 := by decide +kernel
theorem ldd_in : yL_in.cls ≠ "java/lang/invoke/MethodHandle" ∧ yL_in.cls ≠ "java/lang/invoke/VarHandle" ∧ (parseMethodDescriptor yL_in.desc).map (fun d => d.parameters.length) = some 4 := by decide +kernel
theorem ldd_result : yL_result.cls ≠ "java/lang/invoke/MethodHandle" ∧ yL_result.cls ≠ "java/lang/invoke/VarHandle" ∧ (parseMethodDescriptor yL_result.desc).map (fun d => d.parameters.length) = some 2 := by decide +kernel
theorem lcw_fun : Cond.codeWith yL_fun cL_fun 5 (some .int) [(0, 10, 13, 13)] ∈ m_gW := m_in (by decide +kernel) rfl
theorem lcw_value : Cond.codeWith yL_value cL_value 5 (some .int) [(0, 10, 13, 13)] ∈ m_gW := m_in (by decide +kernel) rfl
theorem lcw_in : Cond.codeWith yL_in cL_in 5 (some .int) [(0, 10, 13, 13)] ∈ m_gW := m_in (by decide +kernel) rfl
theorem lcw_result : Cond.codeWith yL_result cL_result 3 (some .int) [(0, 8, 11, 13)] ∈ m_gW := m_in (by decide +kernel) rfl
set_option maxHeartbeats 4000000 in
set_option maxRecDepth 100000 in
theorem lc_0 (X : m_Cx p s m args meth c cL_law 7 RL G) (hN : m_N s) (hZ : x_Z G s s.heap) (hlt : l.stackTraces = false) (hX : l_X s G b L xs) (hH : m_H G nx κ S H) (hS : m_S G s H locs) (hl : lv_has ls 7 (l_lv b x n)) (hK : l_K x nx κ) (hs : l_S x S) (hn : n + 6 ≤ L) (hcs : cells + 37 ≤ 601024 ∧ slots + 3131 ≤ 7293034) (kk : l_Q p l e s m args below meth c Q G x b n (cells + 37) (slots + 3131)) : W p l e room_1 s m args below meth c H locs cells slots Q (F0 m 180 ls []) := by
  have hx := X.1.1
  have hb := X.1.2.1
  obtain ⟨st, v, cC, cR⟩ := hs
  obtain ⟨hT, k0, k1, k2, hnx⟩ := id hK
  obtain ⟨av, S1, S2, e1, e2, hs2⟩ := l_two (cl := f_X11_feed x S (xs (n + 1)) (xs (n + 2)) (xs (n + 3)) (xs (n + 4)) (xs (n + 5))) (re := fun T => f_X12_feed (x + 100) T (xs (n + 1)) (xs (n + 2)) (xs (n + 3)) (xs (n + 4)) (xs (n + 5))) cR (fun T hT => s_feed v cC hT)
  refine lv_aload_n hx hb dL_law_180 rfl (lv_at hl 1 rfl) ?_
  refine lv_aload_n hx hb dL_law_181 rfl (lv_at hl 0 rfl) ?_
  refine lv_iload hx hb dL_law_182 (lv_at hl 4 rfl) ?_
  refine lv_iconst (v := (1 : Int32)) hx hb dL_law_184 (by decide) ?_
  refine lv_iadd hx hb dL_law_185 ?_
  refine ly_ld X hX hS (k := n + 1) (by omega) (nI_add n 1) dL_law_186 ?_
  refine lv_aload_n hx hb dL_law_187 rfl (lv_at hl 0 rfl) ?_
  refine lv_iload hx hb dL_law_188 (lv_at hl 4 rfl) ?_
  refine lv_iconst (v := (2 : Int32)) hx hb dL_law_190 (by decide) ?_
  refine lv_iadd hx hb dL_law_191 ?_
  refine ly_ld X hX hS (k := n + 2) (by omega) (nI_add n 2) dL_law_192 ?_
  refine lv_aload_n hx hb dL_law_193 rfl (lv_at hl 0 rfl) ?_
  refine lv_iload hx hb dL_law_194 (lv_at hl 4 rfl) ?_
  refine lv_iconst (v := (3 : Int32)) hx hb dL_law_196 (by decide) ?_
  refine lv_iadd hx hb dL_law_197 ?_
  refine ly_ld X hX hS (k := n + 3) (by omega) (nI_add n 3) dL_law_198 ?_
  refine lv_aload_n hx hb dL_law_199 rfl (lv_at hl 0 rfl) ?_
  refine lv_iload hx hb dL_law_200 (lv_at hl 4 rfl) ?_
  refine lv_iconst (v := (4 : Int32)) hx hb dL_law_202 (by decide) ?_
  refine lv_iadd hx hb dL_law_203 ?_
  refine ly_ld X hX hS (k := n + 4) (by omega) (nI_add n 4) dL_law_204 ?_
  refine lv_aload_n hx hb dL_law_205 rfl (lv_at hl 0 rfl) ?_
  refine lv_iload hx hb dL_law_206 (lv_at hl 4 rfl) ?_
  refine lv_iconst (v := (5 : Int32)) hx hb dL_law_208 (by decide) ?_
  refine lv_iadd hx hb dL_law_209 ?_
  refine ly_ld X hX hS (k := n + 5) (by omega) (nI_add n 5) dL_law_210 ?_
  refine n_cVi X hH hS (k := 11) (c_X11_feed (a := x) hT k0 e1) mw_X11_feed in_3_113 k0 (by decide) rfl rfl rfl ⟨rfl, rfl⟩ ⟨Nat.le_of_ble_eq_true rfl, Nat.le_of_ble_eq_true rfl⟩ ⟨Nat.le_trans (by omega) hcs.1, Nat.le_trans (by omega) hcs.2⟩ hl.1 (Nat.le_of_ble_eq_true rfl) dL_law_211 (fun H locs hH hS => ?_)
  refine lv_aload_n hx hb dL_law_214 rfl (lv_at hl 2 rfl) ?_
  refine lv_aload_n hx hb dL_law_215 rfl (lv_at hl 0 rfl) ?_
  refine lv_iload hx hb dL_law_216 (lv_at hl 4 rfl) ?_
  refine lv_iconst (v := (1 : Int32)) hx hb dL_law_218 (by decide) ?_
  refine lv_iadd hx hb dL_law_219 ?_
  refine ly_ld X hX hS (k := n + 1) (by omega) (nI_add n 1) dL_law_220 ?_
  refine lv_aload_n hx hb dL_law_221 rfl (lv_at hl 0 rfl) ?_
  refine lv_iload hx hb dL_law_222 (lv_at hl 4 rfl) ?_
  refine lv_iconst (v := (2 : Int32)) hx hb dL_law_224 (by decide) ?_
  refine lv_iadd hx hb dL_law_225 ?_
  refine ly_ld X hX hS (k := n + 2) (by omega) (nI_add n 2) dL_law_226 ?_
  refine lv_aload_n hx hb dL_law_227 rfl (lv_at hl 0 rfl) ?_
  refine lv_iload hx hb dL_law_228 (lv_at hl 4 rfl) ?_
  refine lv_iconst (v := (3 : Int32)) hx hb dL_law_230 (by decide) ?_
  refine lv_iadd hx hb dL_law_231 ?_
  refine ly_ld X hX hS (k := n + 3) (by omega) (nI_add n 3) dL_law_232 ?_
  refine lv_aload_n hx hb dL_law_233 rfl (lv_at hl 0 rfl) ?_
  refine lv_iload hx hb dL_law_234 (lv_at hl 4 rfl) ?_
  refine lv_iconst (v := (4 : Int32)) hx hb dL_law_236 (by decide) ?_
  refine lv_iadd hx hb dL_law_237 ?_
  refine ly_ld X hX hS (k := n + 4) (by omega) (nI_add n 4) dL_law_238 ?_
  refine lv_aload_n hx hb dL_law_239 rfl (lv_at hl 0 rfl) ?_
  refine lv_iload hx hb dL_law_240 (lv_at hl 4 rfl) ?_
  refine lv_iconst (v := (5 : Int32)) hx hb dL_law_242 (by decide) ?_
  refine lv_iadd hx hb dL_law_243 ?_
  refine ly_ld X hX hS (k := n + 5) (by omega) (nI_add n 5) dL_law_244 ?_
  refine n_cVi X hH hS (k := 12) (c_X12_feed (a := x + 100) hT k1 e2) mw_X12_feed in_6_166 k1 (by decide) rfl rfl rfl ⟨rfl, rfl⟩ ⟨Nat.le_of_ble_eq_true rfl, Nat.le_of_ble_eq_true rfl⟩ ⟨Nat.le_trans (by omega) hcs.1, Nat.le_trans (by omega) hcs.2⟩ hl.1 (Nat.le_of_ble_eq_true rfl) dL_law_245 (fun H locs hH hS => ?_)
  refine lv_icmp_eq (tgt := 1127) hx hb dL_law_248 (by decide) (fun _ => ?_) (fun q => absurd rfl q)
  refine W.widen (k := cells + 37) (n := slots + 3131) (by omega) (by omega) ?_
  exact kk _ _ _ _ _ _ hl hH hS hK hs2
set_option maxHeartbeats 4000000 in
set_option maxRecDepth 100000 in
theorem lc_1 (X : m_Cx p s m args meth c cL_law 7 RL G) (hN : m_N s) (hZ : x_Z G s s.heap) (hlt : l.stackTraces = false) (hX : l_X s G b L xs) (hH : m_H G nx κ S H) (hS : m_S G s H locs) (hl : lv_has ls 7 (l_lv b x n)) (hK : l_K x nx κ) (hs : l_S x S) (hn : n + 6 ≤ L) (hcs : cells + 37 ≤ 601024 ∧ slots + 3131 ≤ 7293034) (kk : l_Q p l e s m args below meth c Q G x b n (cells + 37) (slots + 3131)) : W p l e room_1 s m args below meth c H locs cells slots Q (F0 m 253 ls []) := by
  have hx := X.1.1
  have hb := X.1.2.1
  obtain ⟨st, v, cC, cR⟩ := hs
  obtain ⟨hT, k0, k1, k2, hnx⟩ := id hK
  obtain ⟨av, S1, S2, e1, e2, hs2⟩ := l_two (cl := f_X11_end x S (xs (n + 1))) (re := fun T => f_X12_end (x + 100) T (xs (n + 1))) cR (fun T hT => s_end v cC hT)
  refine lv_aload_n hx hb dL_law_253 rfl (lv_at hl 1 rfl) ?_
  refine lv_aload_n hx hb dL_law_254 rfl (lv_at hl 0 rfl) ?_
  refine lv_iload hx hb dL_law_255 (lv_at hl 4 rfl) ?_
  refine lv_iconst (v := (1 : Int32)) hx hb dL_law_257 (by decide) ?_
  refine lv_iadd hx hb dL_law_258 ?_
  refine ly_ld X hX hS (k := n + 1) (by omega) (nI_add n 1) dL_law_259 ?_
  refine n_cVi X hH hS (k := 11) (c_X11_end (a := x) hT k0 e1) mw_X11_end in_3_121 k0 (by decide) rfl rfl rfl ⟨rfl, rfl⟩ ⟨Nat.le_of_ble_eq_true rfl, Nat.le_of_ble_eq_true rfl⟩ ⟨Nat.le_trans (by omega) hcs.1, Nat.le_trans (by omega) hcs.2⟩ hl.1 (Nat.le_of_ble_eq_true rfl) dL_law_260 (fun H locs hH hS => ?_)
  refine lv_aload_n hx hb dL_law_263 rfl (lv_at hl 2 rfl) ?_
  refine lv_aload_n hx hb dL_law_264 rfl (lv_at hl 0 rfl) ?_
  refine lv_iload hx hb dL_law_265 (lv_at hl 4 rfl) ?_
  refine lv_iconst (v := (1 : Int32)) hx hb dL_law_267 (by decide) ?_
  refine lv_iadd hx hb dL_law_268 ?_
  refine ly_ld X hX hS (k := n + 1) (by omega) (nI_add n 1) dL_law_269 ?_
  refine n_cVi X hH hS (k := 12) (c_X12_end (a := x + 100) hT k1 e2) mw_X12_end in_6_175 k1 (by decide) rfl rfl rfl ⟨rfl, rfl⟩ ⟨Nat.le_of_ble_eq_true rfl, Nat.le_of_ble_eq_true rfl⟩ ⟨Nat.le_trans (by omega) hcs.1, Nat.le_trans (by omega) hcs.2⟩ hl.1 (Nat.le_of_ble_eq_true rfl) dL_law_270 (fun H locs hH hS => ?_)
  refine lv_icmp_eq (tgt := 1127) hx hb dL_law_273 (by decide) (fun _ => ?_) (fun q => absurd rfl q)
  refine W.widen (k := cells + 37) (n := slots + 3131) (by omega) (by omega) ?_
  exact kk _ _ _ _ _ _ hl hH hS hK hs2
set_option maxHeartbeats 4000000 in
set_option maxRecDepth 100000 in
theorem lc_2 (X : m_Cx p s m args meth c cL_law 7 RL G) (hN : m_N s) (hZ : x_Z G s s.heap) (hlt : l.stackTraces = false) (hX : l_X s G b L xs) (hH : m_H G nx κ S H) (hS : m_S G s H locs) (hl : lv_has ls 7 (l_lv b x n)) (hK : l_K x nx κ) (hs : l_S x S) (hn : n + 6 ≤ L) (hcs : cells + 37 ≤ 601024 ∧ slots + 3131 ≤ 7293034) (kk : l_Q p l e s m args below meth c Q G x b n (cells + 37) (slots + 3131)) : W p l e room_1 s m args below meth c H locs cells slots Q (F0 m 278 ls []) := by
  have hx := X.1.1
  have hb := X.1.2.1
  obtain ⟨st, v, cC, cR⟩ := hs
  obtain ⟨hT, k0, k1, k2, hnx⟩ := id hK
  obtain ⟨av, S1, S2, e1, e2, hs2⟩ := l_two (cl := f_X11_program x S ) (re := fun T => f_X12_program (x + 100) T ) cR (fun T hT => s_program v cC hT)
  refine lv_aload_n hx hb dL_law_278 rfl (lv_at hl 1 rfl) ?_
  refine n_cVi X hH hS (k := 11) (c_X11_program (a := x) hT k0 e1) mw_X11_program in_3_125 k0 (by decide) rfl rfl rfl ⟨rfl, rfl⟩ ⟨Nat.le_of_ble_eq_true rfl, Nat.le_of_ble_eq_true rfl⟩ ⟨Nat.le_trans (by omega) hcs.1, Nat.le_trans (by omega) hcs.2⟩ hl.1 (Nat.le_of_ble_eq_true rfl) dL_law_279 (fun H locs hH hS => ?_)
  refine lv_aload_n hx hb dL_law_282 rfl (lv_at hl 2 rfl) ?_
  refine n_cVi X hH hS (k := 12) (c_X12_program (a := x + 100) hT k1 e2) mw_X12_program in_7_169 k1 (by decide) rfl rfl rfl ⟨rfl, rfl⟩ ⟨Nat.le_of_ble_eq_true rfl, Nat.le_of_ble_eq_true rfl⟩ ⟨Nat.le_trans (by omega) hcs.1, Nat.le_trans (by omega) hcs.2⟩ hl.1 (Nat.le_of_ble_eq_true rfl) dL_law_283 (fun H locs hH hS => ?_)
  refine lv_icmp_eq (tgt := 1127) hx hb dL_law_286 (by decide) (fun _ => ?_) (fun q => absurd rfl q)
  refine W.widen (k := cells + 37) (n := slots + 3131) (by omega) (by omega) ?_
  exact kk _ _ _ _ _ _ hl hH hS hK hs2
set_option maxHeartbeats 4000000 in
set_option maxRecDepth 100000 in
theorem lc_3 (X : m_Cx p s m args meth c cL_law 7 RL G) (hN : m_N s) (hZ : x_Z G s s.heap) (hlt : l.stackTraces = false) (hX : l_X s G b L xs) (hH : m_H G nx κ S H) (hS : m_S G s H locs) (hl : lv_has ls 7 (l_lv b x n)) (hK : l_K x nx κ) (hs : l_S x S) (hn : n + 6 ≤ L) (hcs : cells + 37 ≤ 601024 ∧ slots + 3131 ≤ 7293034) (kk : l_Q p l e s m args below meth c Q G x b n (cells + 37) (slots + 3131)) : W p l e room_1 s m args below meth c H locs cells slots Q (F0 m 291 ls []) := by
  have hx := X.1.1
  have hb := X.1.2.1
  obtain ⟨st, v, cC, cR⟩ := hs
  obtain ⟨hT, k0, k1, k2, hnx⟩ := id hK
  obtain ⟨av, S1, S2, e1, e2, hs2⟩ := l_two (cl := f_X11_fault x S ) (re := fun T => f_X12_fault (x + 100) T ) cR (fun T hT => s_fault v cC hT)
  refine lv_aload_n hx hb dL_law_291 rfl (lv_at hl 1 rfl) ?_
  refine n_cVi X hH hS (k := 11) (c_X11_fault (a := x) hT k0 e1) mw_X11_fault in_4_168 k0 (by decide) rfl rfl rfl ⟨rfl, rfl⟩ ⟨Nat.le_of_ble_eq_true rfl, Nat.le_of_ble_eq_true rfl⟩ ⟨Nat.le_trans (by omega) hcs.1, Nat.le_trans (by omega) hcs.2⟩ hl.1 (Nat.le_of_ble_eq_true rfl) dL_law_292 (fun H locs hH hS => ?_)
  refine lv_aload_n hx hb dL_law_295 rfl (lv_at hl 2 rfl) ?_
  refine n_cVi X hH hS (k := 12) (c_X12_fault (a := x + 100) hT k1 e2) mw_X12_fault in_8_30 k1 (by decide) rfl rfl rfl ⟨rfl, rfl⟩ ⟨Nat.le_of_ble_eq_true rfl, Nat.le_of_ble_eq_true rfl⟩ ⟨Nat.le_trans (by omega) hcs.1, Nat.le_trans (by omega) hcs.2⟩ hl.1 (Nat.le_of_ble_eq_true rfl) dL_law_296 (fun H locs hH hS => ?_)
  refine lv_icmp_eq (tgt := 1127) hx hb dL_law_299 (by decide) (fun _ => ?_) (fun q => absurd rfl q)
  refine W.widen (k := cells + 37) (n := slots + 3131) (by omega) (by omega) ?_
  exact kk _ _ _ _ _ _ hl hH hS hK hs2
set_option maxHeartbeats 4000000 in
set_option maxRecDepth 100000 in
theorem lc_4 (X : m_Cx p s m args meth c cL_law 7 RL G) (hN : m_N s) (hZ : x_Z G s s.heap) (hlt : l.stackTraces = false) (hX : l_X s G b L xs) (hH : m_H G nx κ S H) (hS : m_S G s H locs) (hl : lv_has ls 7 (l_lv b x n)) (hK : l_K x nx κ) (hs : l_S x S) (hn : n + 6 ≤ L) (hcs : cells + 37 ≤ 601024 ∧ slots + 3131 ≤ 7293034) (kk : l_Q p l e s m args below meth c Q G x b n (cells + 37) (slots + 3131)) : W p l e room_1 s m args below meth c H locs cells slots Q (F0 m 304 ls []) := by
  have hx := X.1.1
  have hb := X.1.2.1
  obtain ⟨st, v, cC, cR⟩ := hs
  obtain ⟨hT, k0, k1, k2, hnx⟩ := id hK
  obtain ⟨r, kv, S1, bv, S2, e1, e1x, e2, h0, hb0, hs2⟩ := l_twoX (cl := f_X11_fun x S (xs (n + 1)) (xs (n + 2))) (re := fun T => f_X12_fun (x + 100) T (xs (n + 1)) (xs (n + 2))) v cC cR (fun T hT => sx_fun v cC hT)
  refine lv_aload_n hx hb dL_law_304 rfl (lv_at hl 1 rfl) ?_
  refine lv_aload_n hx hb dL_law_305 rfl (lv_at hl 0 rfl) ?_
  refine lv_iload hx hb dL_law_306 (lv_at hl 4 rfl) ?_
  refine lv_iconst (v := (1 : Int32)) hx hb dL_law_308 (by decide) ?_
  refine lv_iadd hx hb dL_law_309 ?_
  refine ly_ld X hX hS (k := n + 1) (by omega) (nI_add n 1) dL_law_310 ?_
  refine lv_aload_n hx hb dL_law_311 rfl (lv_at hl 0 rfl) ?_
  refine lv_iload hx hb dL_law_312 (lv_at hl 4 rfl) ?_
  refine lv_iconst (v := (2 : Int32)) hx hb dL_law_314 (by decide) ?_
  refine lv_iadd hx hb dL_law_315 ?_
  refine ly_ld X hX hS (k := n + 2) (by omega) (nI_add n 2) dL_law_316 ?_
  refine lv_aload_n hx hb dL_law_317 rfl (lv_at hl 3 rfl) ?_
  refine n_cL (As := [.ref x, .int (xs (n + 1)), .int (xs (n + 2)), .ref (x + 130)]) (hh := [(0, 10, 13, 13)]) X hN hZ hH hS (show x_L l yL_fun cL_fun _ _ rm_L_fun G nx κ [.ref x, .int (xs (n + 1)), .int (xs (n + 2)), .ref (x + 130)] S (kv, S1) by rw [← e1x]; exact c_L_fun hlt hT k0 k2 e1) lcw_fun in_1_0 in_6_60 ldd_fun in_6_59 rfl ⟨rfl, rfl⟩ ⟨Nat.le_of_ble_eq_true rfl, Nat.le_of_ble_eq_true rfl⟩ ⟨Nat.le_trans (by omega) hcs.1, Nat.le_trans (by omega) hcs.2⟩ hl.1 (Nat.le_of_ble_eq_true rfl) dL_law_318 (fun H locs nx1 κ1 hle hq hT1 hH hS => ?_)
  have hK1 := hK.up hT1 hle hq
  obtain ⟨-, k01, k11, k21, hnx1⟩ := id hK1
  refine lv_istore (lv' := [(5, .int kv), (0, .ref b), (1, .ref x), (2, .ref (x + 100)), (3, .ref (x + 130)), (4, .int (nI n))]) hx hb dL_law_321 hl (by decide) rfl (fun ls hl => ?_)
  refine lv_aload_n hx hb dL_law_323 rfl (lv_at hl 3 rfl) ?_
  refine lv_aload_n hx hb dL_law_324 rfl (lv_at hl 1 rfl) ?_
  refine lv_iload hx hb dL_law_325 (lv_at hl 5 rfl) ?_
  refine lv_iconst (v := (1 : Int32)) hx hb dL_law_327 (by decide) ?_
  refine lv_iadd hx hb dL_law_328 ?_
  refine ly_ld X hX hS (k := n + 1) (by omega) (nI_add n 1) dL_law_329 ?_
  refine lv_aload_n hx hb dL_law_330 rfl (lv_at hl 1 rfl) ?_
  refine lv_iload hx hb dL_law_331 (lv_at hl 5 rfl) ?_
  refine lv_iconst (v := (2 : Int32)) hx hb dL_law_333 (by decide) ?_
  refine lv_iadd hx hb dL_law_334 ?_
  refine ly_ld X hX hS (k := n + 2) (by omega) (nI_add n 2) dL_law_335 ?_
  refine n_cVi X hH hS (k := 12) (c_X12_fun (a := x + 100) hT1 k11 e2) mw_X12_fun in_8_34 k11 (by decide) rfl rfl rfl ⟨rfl, rfl⟩ ⟨Nat.le_of_ble_eq_true rfl, Nat.le_of_ble_eq_true rfl⟩ ⟨Nat.le_trans (by omega) hcs.1, Nat.le_trans (by omega) hcs.2⟩ hl.1 (Nat.le_of_ble_eq_true rfl) dL_law_336 (fun H locs hH hS => ?_)
  refine lv_istore (lv' := [(6, .int bv), (5, .int kv), (0, .ref b), (1, .ref x), (2, .ref (x + 100)), (3, .ref (x + 130)), (4, .int (nI n))]) hx hb dL_law_339 hl (by decide) rfl (fun ls hl => ?_)
  refine lv_aload_n hx hb dL_law_341 rfl (lv_at hl 4 rfl) ?_
  refine n_cVi X hH hS (k := 12) (c_X12_thrown (a := x + 100) (res := (m_ri S2 (x + 100) 0, S2)) hT1 k11 rfl) mw_X12_thrown in_6_162 k11 (by decide) rfl rfl rfl ⟨rfl, rfl⟩ ⟨Nat.le_of_ble_eq_true rfl, Nat.le_of_ble_eq_true rfl⟩ ⟨Nat.le_trans (by omega) hcs.1, Nat.le_trans (by omega) hcs.2⟩ hl.1 (Nat.le_of_ble_eq_true rfl) dL_law_342 (fun H locs hH hS => ?_)
  refine lv_iload hx hb dL_law_345 (lv_at hl 1 rfl) ?_
  refine lv_icmp_eq (tgt := 352) hx hb dL_law_347 (by decide) (fun _ => ?_) (fun q => absurd h0 q)
  refine lv_iload hx hb dL_law_352 (lv_at hl 1 rfl) ?_
  refine lv_if_ne (tgt := 369) hx hb dL_law_354 (by decide) (fun q => ?_) (fun q => ?_)
  · refine lv_goto (tgt := 1127) hx hb dL_law_369 (by decide) ?_
    refine W.widen (k := cells + 37) (n := slots + 3131) (by omega) (by omega) ?_
    exact kk _ _ _ _ _ _ (lv_sub hl [2, 3, 4, 5, 6] rfl) hH hS hK1 hs2
  · refine lv_aload_n hx hb dL_law_357 rfl (lv_at hl 5 rfl) ?_
    refine lv_iconst (v := (0 : Int32)) hx hb dL_law_358 (by decide) ?_
    refine n_lald (n := 1) (v := bv.toInt64) X hH k21 (show ¬ ((0 : Int32) < 0 ∨ 1 ≤ (0 : Int32).toNatClampNeg) by decide) (hb0 q) dL_law_359 ?_
    refine lv_iload hx hb dL_law_360 (lv_at hl 0 rfl) ?_
    refine lv_i2l hx hb dL_law_362 rfl ?_
    refine W.lcmp hx hb dL_law_363 ?_
    refine lv_if_eq (tgt := 369) hx hb dL_law_364 (by decide) (fun _ => ?_) (fun q9 => absurd (ly_cmp bv.toInt64) q9)
    refine lv_goto (tgt := 1127) hx hb dL_law_369 (by decide) ?_
    refine W.widen (k := cells + 37) (n := slots + 3131) (by omega) (by omega) ?_
    exact kk _ _ _ _ _ _ (lv_sub hl [2, 3, 4, 5, 6] rfl) hH hS hK1 hs2
set_option maxHeartbeats 4000000 in
set_option maxRecDepth 100000 in
theorem lc_5 (X : m_Cx p s m args meth c cL_law 7 RL G) (hN : m_N s) (hZ : x_Z G s s.heap) (hlt : l.stackTraces = false) (hX : l_X s G b L xs) (hH : m_H G nx κ S H) (hS : m_S G s H locs) (hl : lv_has ls 7 (l_lv b x n)) (hK : l_K x nx κ) (hs : l_S x S) (hn : n + 6 ≤ L) (hcs : cells + 37 ≤ 601024 ∧ slots + 3131 ≤ 7293034) (kk : l_Q p l e s m args below meth c Q G x b n (cells + 37) (slots + 3131)) : W p l e room_1 s m args below meth c H locs cells slots Q (F0 m 372 ls []) := by
  have hx := X.1.1
  have hb := X.1.2.1
  obtain ⟨st, v, cC, cR⟩ := hs
  obtain ⟨hT, k0, k1, k2, hnx⟩ := id hK
  obtain ⟨av, S1, S2, e1, e2, hs2⟩ := l_two (cl := f_X11_points x S (xs (n + 1)) (xs (n + 2))) (re := fun T => f_X12_points (x + 100) T (xs (n + 1)) (xs (n + 2))) cR (fun T hT => s_points v cC hT)
  refine lv_aload_n hx hb dL_law_372 rfl (lv_at hl 1 rfl) ?_
  refine lv_aload_n hx hb dL_law_373 rfl (lv_at hl 0 rfl) ?_
  refine lv_iload hx hb dL_law_374 (lv_at hl 4 rfl) ?_
  refine lv_iconst (v := (1 : Int32)) hx hb dL_law_376 (by decide) ?_
  refine lv_iadd hx hb dL_law_377 ?_
  refine ly_ld X hX hS (k := n + 1) (by omega) (nI_add n 1) dL_law_378 ?_
  refine lv_aload_n hx hb dL_law_379 rfl (lv_at hl 0 rfl) ?_
  refine lv_iload hx hb dL_law_380 (lv_at hl 4 rfl) ?_
  refine lv_iconst (v := (2 : Int32)) hx hb dL_law_382 (by decide) ?_
  refine lv_iadd hx hb dL_law_383 ?_
  refine ly_ld X hX hS (k := n + 2) (by omega) (nI_add n 2) dL_law_384 ?_
  refine n_cVi X hH hS (k := 11) (c_X11_points (a := x) hT k0 e1) mw_X11_points in_4_172 k0 (by decide) rfl rfl rfl ⟨rfl, rfl⟩ ⟨Nat.le_of_ble_eq_true rfl, Nat.le_of_ble_eq_true rfl⟩ ⟨Nat.le_trans (by omega) hcs.1, Nat.le_trans (by omega) hcs.2⟩ hl.1 (Nat.le_of_ble_eq_true rfl) dL_law_385 (fun H locs hH hS => ?_)
  refine lv_aload_n hx hb dL_law_388 rfl (lv_at hl 2 rfl) ?_
  refine lv_aload_n hx hb dL_law_389 rfl (lv_at hl 0 rfl) ?_
  refine lv_iload hx hb dL_law_390 (lv_at hl 4 rfl) ?_
  refine lv_iconst (v := (1 : Int32)) hx hb dL_law_392 (by decide) ?_
  refine lv_iadd hx hb dL_law_393 ?_
  refine ly_ld X hX hS (k := n + 1) (by omega) (nI_add n 1) dL_law_394 ?_
  refine lv_aload_n hx hb dL_law_395 rfl (lv_at hl 0 rfl) ?_
  refine lv_iload hx hb dL_law_396 (lv_at hl 4 rfl) ?_
  refine lv_iconst (v := (2 : Int32)) hx hb dL_law_398 (by decide) ?_
  refine lv_iadd hx hb dL_law_399 ?_
  refine ly_ld X hX hS (k := n + 2) (by omega) (nI_add n 2) dL_law_400 ?_
  refine n_cVi X hH hS (k := 12) (c_X12_points (a := x + 100) hT k1 e2) mw_X12_points in_8_57 k1 (by decide) rfl rfl rfl ⟨rfl, rfl⟩ ⟨Nat.le_of_ble_eq_true rfl, Nat.le_of_ble_eq_true rfl⟩ ⟨Nat.le_trans (by omega) hcs.1, Nat.le_trans (by omega) hcs.2⟩ hl.1 (Nat.le_of_ble_eq_true rfl) dL_law_401 (fun H locs hH hS => ?_)
  refine lv_icmp_eq (tgt := 1127) hx hb dL_law_404 (by decide) (fun _ => ?_) (fun q => absurd rfl q)
  refine W.widen (k := cells + 37) (n := slots + 3131) (by omega) (by omega) ?_
  exact kk _ _ _ _ _ _ hl hH hS hK hs2
set_option maxHeartbeats 4000000 in
set_option maxRecDepth 100000 in
theorem lc_6 (X : m_Cx p s m args meth c cL_law 7 RL G) (hN : m_N s) (hZ : x_Z G s s.heap) (hlt : l.stackTraces = false) (hX : l_X s G b L xs) (hH : m_H G nx κ S H) (hS : m_S G s H locs) (hl : lv_has ls 7 (l_lv b x n)) (hK : l_K x nx κ) (hs : l_S x S) (hn : n + 6 ≤ L) (hcs : cells + 37 ≤ 601024 ∧ slots + 3131 ≤ 7293034) (kk : l_Q p l e s m args below meth c Q G x b n (cells + 37) (slots + 3131)) : W p l e room_1 s m args below meth c H locs cells slots Q (F0 m 409 ls []) := by
  have hx := X.1.1
  have hb := X.1.2.1
  obtain ⟨st, v, cC, cR⟩ := hs
  obtain ⟨hT, k0, k1, k2, hnx⟩ := id hK
  obtain ⟨av, S1, S2, e1, e2, hs2⟩ := l_two (cl := f_X11_region x S (xs (n + 1)) (xs (n + 2))) (re := fun T => f_X12_region (x + 100) T (xs (n + 1)) (xs (n + 2))) cR (fun T hT => s_region v cC hT)
  refine lv_aload_n hx hb dL_law_409 rfl (lv_at hl 1 rfl) ?_
  refine lv_aload_n hx hb dL_law_410 rfl (lv_at hl 0 rfl) ?_
  refine lv_iload hx hb dL_law_411 (lv_at hl 4 rfl) ?_
  refine lv_iconst (v := (1 : Int32)) hx hb dL_law_413 (by decide) ?_
  refine lv_iadd hx hb dL_law_414 ?_
  refine ly_ld X hX hS (k := n + 1) (by omega) (nI_add n 1) dL_law_415 ?_
  refine lv_aload_n hx hb dL_law_416 rfl (lv_at hl 0 rfl) ?_
  refine lv_iload hx hb dL_law_417 (lv_at hl 4 rfl) ?_
  refine lv_iconst (v := (2 : Int32)) hx hb dL_law_419 (by decide) ?_
  refine lv_iadd hx hb dL_law_420 ?_
  refine ly_ld X hX hS (k := n + 2) (by omega) (nI_add n 2) dL_law_421 ?_
  refine n_cVi X hH hS (k := 11) (c_X11_region (a := x) hT k0 e1) mw_X11_region in_4_185 k0 (by decide) rfl rfl rfl ⟨rfl, rfl⟩ ⟨Nat.le_of_ble_eq_true rfl, Nat.le_of_ble_eq_true rfl⟩ ⟨Nat.le_trans (by omega) hcs.1, Nat.le_trans (by omega) hcs.2⟩ hl.1 (Nat.le_of_ble_eq_true rfl) dL_law_422 (fun H locs hH hS => ?_)
  refine lv_aload_n hx hb dL_law_425 rfl (lv_at hl 2 rfl) ?_
  refine lv_aload_n hx hb dL_law_426 rfl (lv_at hl 0 rfl) ?_
  refine lv_iload hx hb dL_law_427 (lv_at hl 4 rfl) ?_
  refine lv_iconst (v := (1 : Int32)) hx hb dL_law_429 (by decide) ?_
  refine lv_iadd hx hb dL_law_430 ?_
  refine ly_ld X hX hS (k := n + 1) (by omega) (nI_add n 1) dL_law_431 ?_
  refine lv_aload_n hx hb dL_law_432 rfl (lv_at hl 0 rfl) ?_
  refine lv_iload hx hb dL_law_433 (lv_at hl 4 rfl) ?_
  refine lv_iconst (v := (2 : Int32)) hx hb dL_law_435 (by decide) ?_
  refine lv_iadd hx hb dL_law_436 ?_
  refine ly_ld X hX hS (k := n + 2) (by omega) (nI_add n 2) dL_law_437 ?_
  refine n_cVi X hH hS (k := 12) (c_X12_region (a := x + 100) hT k1 e2) mw_X12_region in_8_61 k1 (by decide) rfl rfl rfl ⟨rfl, rfl⟩ ⟨Nat.le_of_ble_eq_true rfl, Nat.le_of_ble_eq_true rfl⟩ ⟨Nat.le_trans (by omega) hcs.1, Nat.le_trans (by omega) hcs.2⟩ hl.1 (Nat.le_of_ble_eq_true rfl) dL_law_438 (fun H locs hH hS => ?_)
  refine lv_icmp_eq (tgt := 1127) hx hb dL_law_441 (by decide) (fun _ => ?_) (fun q => absurd rfl q)
  refine W.widen (k := cells + 37) (n := slots + 3131) (by omega) (by omega) ?_
  exact kk _ _ _ _ _ _ hl hH hS hK hs2
set_option maxHeartbeats 4000000 in
set_option maxRecDepth 100000 in
theorem lc_7 (X : m_Cx p s m args meth c cL_law 7 RL G) (hN : m_N s) (hZ : x_Z G s s.heap) (hlt : l.stackTraces = false) (hX : l_X s G b L xs) (hH : m_H G nx κ S H) (hS : m_S G s H locs) (hl : lv_has ls 7 (l_lv b x n)) (hK : l_K x nx κ) (hs : l_S x S) (hn : n + 6 ≤ L) (hcs : cells + 37 ≤ 601024 ∧ slots + 3131 ≤ 7293034) (kk : l_Q p l e s m args below meth c Q G x b n (cells + 37) (slots + 3131)) : W p l e room_1 s m args below meth c H locs cells slots Q (F0 m 446 ls []) := by
  have hx := X.1.1
  have hb := X.1.2.1
  obtain ⟨st, v, cC, cR⟩ := hs
  obtain ⟨hT, k0, k1, k2, hnx⟩ := id hK
  obtain ⟨av, S1, S2, e1, e2, hs2⟩ := l_two (cl := f_X11_span x S (xs (n + 1)) (xs (n + 2)) (xs (n + 3))) (re := fun T => f_X12_span (x + 100) T (xs (n + 1)) (xs (n + 2)) (xs (n + 3))) cR (fun T hT => s_span v cC hT)
  refine lv_aload_n hx hb dL_law_446 rfl (lv_at hl 1 rfl) ?_
  refine lv_aload_n hx hb dL_law_447 rfl (lv_at hl 0 rfl) ?_
  refine lv_iload hx hb dL_law_448 (lv_at hl 4 rfl) ?_
  refine lv_iconst (v := (1 : Int32)) hx hb dL_law_450 (by decide) ?_
  refine lv_iadd hx hb dL_law_451 ?_
  refine ly_ld X hX hS (k := n + 1) (by omega) (nI_add n 1) dL_law_452 ?_
  refine lv_aload_n hx hb dL_law_453 rfl (lv_at hl 0 rfl) ?_
  refine lv_iload hx hb dL_law_454 (lv_at hl 4 rfl) ?_
  refine lv_iconst (v := (2 : Int32)) hx hb dL_law_456 (by decide) ?_
  refine lv_iadd hx hb dL_law_457 ?_
  refine ly_ld X hX hS (k := n + 2) (by omega) (nI_add n 2) dL_law_458 ?_
  refine lv_aload_n hx hb dL_law_459 rfl (lv_at hl 0 rfl) ?_
  refine lv_iload hx hb dL_law_460 (lv_at hl 4 rfl) ?_
  refine lv_iconst (v := (3 : Int32)) hx hb dL_law_462 (by decide) ?_
  refine lv_iadd hx hb dL_law_463 ?_
  refine ly_ld X hX hS (k := n + 3) (by omega) (nI_add n 3) dL_law_464 ?_
  refine n_cVi X hH hS (k := 11) (c_X11_span (a := x) hT k0 e1) mw_X11_span in_4_214 k0 (by decide) rfl rfl rfl ⟨rfl, rfl⟩ ⟨Nat.le_of_ble_eq_true rfl, Nat.le_of_ble_eq_true rfl⟩ ⟨Nat.le_trans (by omega) hcs.1, Nat.le_trans (by omega) hcs.2⟩ hl.1 (Nat.le_of_ble_eq_true rfl) dL_law_465 (fun H locs hH hS => ?_)
  refine lv_aload_n hx hb dL_law_468 rfl (lv_at hl 2 rfl) ?_
  refine lv_aload_n hx hb dL_law_469 rfl (lv_at hl 0 rfl) ?_
  refine lv_iload hx hb dL_law_470 (lv_at hl 4 rfl) ?_
  refine lv_iconst (v := (1 : Int32)) hx hb dL_law_472 (by decide) ?_
  refine lv_iadd hx hb dL_law_473 ?_
  refine ly_ld X hX hS (k := n + 1) (by omega) (nI_add n 1) dL_law_474 ?_
  refine lv_aload_n hx hb dL_law_475 rfl (lv_at hl 0 rfl) ?_
  refine lv_iload hx hb dL_law_476 (lv_at hl 4 rfl) ?_
  refine lv_iconst (v := (2 : Int32)) hx hb dL_law_478 (by decide) ?_
  refine lv_iadd hx hb dL_law_479 ?_
  refine ly_ld X hX hS (k := n + 2) (by omega) (nI_add n 2) dL_law_480 ?_
  refine lv_aload_n hx hb dL_law_481 rfl (lv_at hl 0 rfl) ?_
  refine lv_iload hx hb dL_law_482 (lv_at hl 4 rfl) ?_
  refine lv_iconst (v := (3 : Int32)) hx hb dL_law_484 (by decide) ?_
  refine lv_iadd hx hb dL_law_485 ?_
  refine ly_ld X hX hS (k := n + 3) (by omega) (nI_add n 3) dL_law_486 ?_
  refine n_cVi X hH hS (k := 12) (c_X12_span (a := x + 100) hT k1 e2) mw_X12_span in_8_96 k1 (by decide) rfl rfl rfl ⟨rfl, rfl⟩ ⟨Nat.le_of_ble_eq_true rfl, Nat.le_of_ble_eq_true rfl⟩ ⟨Nat.le_trans (by omega) hcs.1, Nat.le_trans (by omega) hcs.2⟩ hl.1 (Nat.le_of_ble_eq_true rfl) dL_law_487 (fun H locs hH hS => ?_)
  refine lv_icmp_eq (tgt := 1127) hx hb dL_law_490 (by decide) (fun _ => ?_) (fun q => absurd rfl q)
  refine W.widen (k := cells + 37) (n := slots + 3131) (by omega) (by omega) ?_
  exact kk _ _ _ _ _ _ hl hH hS hK hs2
set_option maxHeartbeats 4000000 in
set_option maxRecDepth 100000 in
theorem lc_8 (X : m_Cx p s m args meth c cL_law 7 RL G) (hN : m_N s) (hZ : x_Z G s s.heap) (hlt : l.stackTraces = false) (hX : l_X s G b L xs) (hH : m_H G nx κ S H) (hS : m_S G s H locs) (hl : lv_has ls 7 (l_lv b x n)) (hK : l_K x nx κ) (hs : l_S x S) (hn : n + 6 ≤ L) (hcs : cells + 37 ≤ 601024 ∧ slots + 3131 ≤ 7293034) (kk : l_Q p l e s m args below meth c Q G x b n (cells + 37) (slots + 3131)) : W p l e room_1 s m args below meth c H locs cells slots Q (F0 m 495 ls []) := by
  have hx := X.1.1
  have hb := X.1.2.1
  obtain ⟨st, v, cC, cR⟩ := hs
  obtain ⟨hT, k0, k1, k2, hnx⟩ := id hK
  obtain ⟨av, S1, S2, e1, e2, hs2⟩ := l_two (cl := f_X11_load nx x S ) (re := fun T => f_X12_load (x + 100) T ) cR (fun T hT => s_load v cC hT (l_hB hK hH))
  refine lv_aload_n hx hb dL_law_495 rfl (lv_at hl 1 rfl) ?_
  refine n_cAi X hN hH hS (k := 11) (c_X11_load (a := x) hT k0 e1) mw_X11_load in_4_220 k0 (by decide) rfl rfl rfl ⟨rfl, rfl⟩ ⟨Nat.le_of_ble_eq_true rfl, Nat.le_of_ble_eq_true rfl⟩ ⟨Nat.le_trans (by omega) hcs.1, Nat.le_trans (by omega) hcs.2⟩ hl.1 (Nat.le_of_ble_eq_true rfl) dL_law_496 (fun H locs nx1 κ1 hle hq hT1 hH hS => ?_)
  have hK1 := hK.up hT1 hle hq
  obtain ⟨-, k01, k11, k21, hnx1⟩ := id hK1
  refine lv_aload_n hx hb dL_law_499 rfl (lv_at hl 2 rfl) ?_
  refine n_cVi X hH hS (k := 12) (c_X12_load (a := x + 100) hT1 k11 e2) mw_X12_load in_8_108 k11 (by decide) rfl rfl rfl ⟨rfl, rfl⟩ ⟨Nat.le_of_ble_eq_true rfl, Nat.le_of_ble_eq_true rfl⟩ ⟨Nat.le_trans (by omega) hcs.1, Nat.le_trans (by omega) hcs.2⟩ hl.1 (Nat.le_of_ble_eq_true rfl) dL_law_500 (fun H locs hH hS => ?_)
  refine lv_icmp_eq (tgt := 1127) hx hb dL_law_503 (by decide) (fun _ => ?_) (fun q => absurd rfl q)
  refine W.widen (k := cells + 37) (n := slots + 3131) (by omega) (by omega) ?_
  exact kk _ _ _ _ _ _ hl hH hS hK1 hs2
set_option maxHeartbeats 4000000 in
set_option maxRecDepth 100000 in
theorem lc_9 (X : m_Cx p s m args meth c cL_law 7 RL G) (hN : m_N s) (hZ : x_Z G s s.heap) (hlt : l.stackTraces = false) (hX : l_X s G b L xs) (hH : m_H G nx κ S H) (hS : m_S G s H locs) (hl : lv_has ls 7 (l_lv b x n)) (hK : l_K x nx κ) (hs : l_S x S) (hn : n + 6 ≤ L) (hcs : cells + 37 ≤ 601024 ∧ slots + 3131 ≤ 7293034) (kk : l_Q p l e s m args below meth c Q G x b n (cells + 37) (slots + 3131)) : W p l e room_1 s m args below meth c H locs cells slots Q (F0 m 508 ls []) := by
  have hx := X.1.1
  have hb := X.1.2.1
  obtain ⟨st, v, cC, cR⟩ := hs
  obtain ⟨hT, k0, k1, k2, hnx⟩ := id hK
  obtain ⟨av, S1, S2, e1, e2, hs2⟩ := l_two (cl := f_X11_steps nx x S (xs (n + 1))) (re := fun T => f_X12_steps (x + 100) T (xs (n + 1))) cR (fun T hT => s_steps v cC hT (l_hB hK hH))
  refine lv_aload_n hx hb dL_law_508 rfl (lv_at hl 1 rfl) ?_
  refine lv_aload_n hx hb dL_law_509 rfl (lv_at hl 0 rfl) ?_
  refine lv_iload hx hb dL_law_510 (lv_at hl 4 rfl) ?_
  refine lv_iconst (v := (1 : Int32)) hx hb dL_law_512 (by decide) ?_
  refine lv_iadd hx hb dL_law_513 ?_
  refine ly_ld X hX hS (k := n + 1) (by omega) (nI_add n 1) dL_law_514 ?_
  refine n_cAi X hN hH hS (k := 11) (c_X11_steps (a := x) hT k0 e1) mw_X11_steps in_5_24 k0 (by decide) rfl rfl rfl ⟨rfl, rfl⟩ ⟨Nat.le_of_ble_eq_true rfl, Nat.le_of_ble_eq_true rfl⟩ ⟨Nat.le_trans (by omega) hcs.1, Nat.le_trans (by omega) hcs.2⟩ hl.1 (Nat.le_of_ble_eq_true rfl) dL_law_515 (fun H locs nx1 κ1 hle hq hT1 hH hS => ?_)
  have hK1 := hK.up hT1 hle hq
  obtain ⟨-, k01, k11, k21, hnx1⟩ := id hK1
  refine lv_aload_n hx hb dL_law_518 rfl (lv_at hl 2 rfl) ?_
  refine lv_aload_n hx hb dL_law_519 rfl (lv_at hl 0 rfl) ?_
  refine lv_iload hx hb dL_law_520 (lv_at hl 4 rfl) ?_
  refine lv_iconst (v := (1 : Int32)) hx hb dL_law_522 (by decide) ?_
  refine lv_iadd hx hb dL_law_523 ?_
  refine ly_ld X hX hS (k := n + 1) (by omega) (nI_add n 1) dL_law_524 ?_
  refine n_cVi X hH hS (k := 12) (c_X12_steps (a := x + 100) hT1 k11 e2) mw_X12_steps in_8_144 k11 (by decide) rfl rfl rfl ⟨rfl, rfl⟩ ⟨Nat.le_of_ble_eq_true rfl, Nat.le_of_ble_eq_true rfl⟩ ⟨Nat.le_trans (by omega) hcs.1, Nat.le_trans (by omega) hcs.2⟩ hl.1 (Nat.le_of_ble_eq_true rfl) dL_law_525 (fun H locs hH hS => ?_)
  refine lv_icmp_eq (tgt := 1127) hx hb dL_law_528 (by decide) (fun _ => ?_) (fun q => absurd rfl q)
  refine W.widen (k := cells + 37) (n := slots + 3131) (by omega) (by omega) ?_
  exact kk _ _ _ _ _ _ hl hH hS hK1 hs2
set_option maxHeartbeats 4000000 in
set_option maxRecDepth 100000 in
theorem lc_10 (X : m_Cx p s m args meth c cL_law 7 RL G) (hN : m_N s) (hZ : x_Z G s s.heap) (hlt : l.stackTraces = false) (hX : l_X s G b L xs) (hH : m_H G nx κ S H) (hS : m_S G s H locs) (hl : lv_has ls 7 (l_lv b x n)) (hK : l_K x nx κ) (hs : l_S x S) (hn : n + 6 ≤ L) (hcs : cells + 37 ≤ 601024 ∧ slots + 3131 ≤ 7293034) (kk : l_Q p l e s m args below meth c Q G x b n (cells + 37) (slots + 3131)) : W p l e room_1 s m args below meth c H locs cells slots Q (F0 m 533 ls []) := by
  have hx := X.1.1
  have hb := X.1.2.1
  obtain ⟨st, v, cC, cR⟩ := hs
  obtain ⟨hT, k0, k1, k2, hnx⟩ := id hK
  obtain ⟨av, S1, S2, e1, e2, hs2⟩ := l_two (cl := f_X11_now x S (xs (n + 1))) (re := fun T => f_X12_now (x + 100) T (xs (n + 1))) cR (fun T hT => s_now v cC hT)
  refine lv_aload_n hx hb dL_law_533 rfl (lv_at hl 1 rfl) ?_
  refine lv_aload_n hx hb dL_law_534 rfl (lv_at hl 0 rfl) ?_
  refine lv_iload hx hb dL_law_535 (lv_at hl 4 rfl) ?_
  refine lv_iconst (v := (1 : Int32)) hx hb dL_law_537 (by decide) ?_
  refine lv_iadd hx hb dL_law_538 ?_
  refine ly_ld X hX hS (k := n + 1) (by omega) (nI_add n 1) dL_law_539 ?_
  refine n_cVi X hH hS (k := 11) (c_X11_now (a := x) hT k0 e1) mw_X11_now in_5_116 k0 (by decide) rfl rfl rfl ⟨rfl, rfl⟩ ⟨Nat.le_of_ble_eq_true rfl, Nat.le_of_ble_eq_true rfl⟩ ⟨Nat.le_trans (by omega) hcs.1, Nat.le_trans (by omega) hcs.2⟩ hl.1 (Nat.le_of_ble_eq_true rfl) dL_law_540 (fun H locs hH hS => ?_)
  refine lv_aload_n hx hb dL_law_543 rfl (lv_at hl 2 rfl) ?_
  refine lv_aload_n hx hb dL_law_544 rfl (lv_at hl 0 rfl) ?_
  refine lv_iload hx hb dL_law_545 (lv_at hl 4 rfl) ?_
  refine lv_iconst (v := (1 : Int32)) hx hb dL_law_547 (by decide) ?_
  refine lv_iadd hx hb dL_law_548 ?_
  refine ly_ld X hX hS (k := n + 1) (by omega) (nI_add n 1) dL_law_549 ?_
  refine n_cVi X hH hS (k := 12) (c_X12_now (a := x + 100) hT k1 e2) mw_X12_now in_8_212 k1 (by decide) rfl rfl rfl ⟨rfl, rfl⟩ ⟨Nat.le_of_ble_eq_true rfl, Nat.le_of_ble_eq_true rfl⟩ ⟨Nat.le_trans (by omega) hcs.1, Nat.le_trans (by omega) hcs.2⟩ hl.1 (Nat.le_of_ble_eq_true rfl) dL_law_550 (fun H locs hH hS => ?_)
  refine lv_icmp_eq (tgt := 1127) hx hb dL_law_553 (by decide) (fun _ => ?_) (fun q => absurd rfl q)
  refine W.widen (k := cells + 37) (n := slots + 3131) (by omega) (by omega) ?_
  exact kk _ _ _ _ _ _ hl hH hS hK hs2
set_option maxHeartbeats 4000000 in
set_option maxRecDepth 100000 in
theorem lc_11 (X : m_Cx p s m args meth c cL_law 7 RL G) (hN : m_N s) (hZ : x_Z G s s.heap) (hlt : l.stackTraces = false) (hX : l_X s G b L xs) (hH : m_H G nx κ S H) (hS : m_S G s H locs) (hl : lv_has ls 7 (l_lv b x n)) (hK : l_K x nx κ) (hs : l_S x S) (hn : n + 6 ≤ L) (hcs : cells + 37 ≤ 601024 ∧ slots + 3131 ≤ 7293034) (kk : l_Q p l e s m args below meth c Q G x b n (cells + 37) (slots + 3131)) : W p l e room_1 s m args below meth c H locs cells slots Q (F0 m 558 ls []) := by
  have hx := X.1.1
  have hb := X.1.2.1
  obtain ⟨st, v, cC, cR⟩ := hs
  obtain ⟨hT, k0, k1, k2, hnx⟩ := id hK
  obtain ⟨av, S1, S2, e1, e2, hs2⟩ := l_two (cl := f_X11_kind x S (xs (n + 1)) (xs (n + 2))) (re := fun T => f_X12_kind (x + 100) T (xs (n + 1)) (xs (n + 2))) cR (fun T hT => s_kind v cC hT)
  refine lv_aload_n hx hb dL_law_558 rfl (lv_at hl 1 rfl) ?_
  refine lv_aload_n hx hb dL_law_559 rfl (lv_at hl 0 rfl) ?_
  refine lv_iload hx hb dL_law_560 (lv_at hl 4 rfl) ?_
  refine lv_iconst (v := (1 : Int32)) hx hb dL_law_562 (by decide) ?_
  refine lv_iadd hx hb dL_law_563 ?_
  refine ly_ld X hX hS (k := n + 1) (by omega) (nI_add n 1) dL_law_564 ?_
  refine lv_aload_n hx hb dL_law_565 rfl (lv_at hl 0 rfl) ?_
  refine lv_iload hx hb dL_law_566 (lv_at hl 4 rfl) ?_
  refine lv_iconst (v := (2 : Int32)) hx hb dL_law_568 (by decide) ?_
  refine lv_iadd hx hb dL_law_569 ?_
  refine ly_ld X hX hS (k := n + 2) (by omega) (nI_add n 2) dL_law_570 ?_
  refine n_cVi X hH hS (k := 11) (c_X11_kind (a := x) hT k0 e1) mw_X11_kind in_5_128 k0 (by decide) rfl rfl rfl ⟨rfl, rfl⟩ ⟨Nat.le_of_ble_eq_true rfl, Nat.le_of_ble_eq_true rfl⟩ ⟨Nat.le_trans (by omega) hcs.1, Nat.le_trans (by omega) hcs.2⟩ hl.1 (Nat.le_of_ble_eq_true rfl) dL_law_571 (fun H locs hH hS => ?_)
  refine lv_aload_n hx hb dL_law_574 rfl (lv_at hl 2 rfl) ?_
  refine lv_aload_n hx hb dL_law_575 rfl (lv_at hl 0 rfl) ?_
  refine lv_iload hx hb dL_law_576 (lv_at hl 4 rfl) ?_
  refine lv_iconst (v := (1 : Int32)) hx hb dL_law_578 (by decide) ?_
  refine lv_iadd hx hb dL_law_579 ?_
  refine ly_ld X hX hS (k := n + 1) (by omega) (nI_add n 1) dL_law_580 ?_
  refine lv_aload_n hx hb dL_law_581 rfl (lv_at hl 0 rfl) ?_
  refine lv_iload hx hb dL_law_582 (lv_at hl 4 rfl) ?_
  refine lv_iconst (v := (2 : Int32)) hx hb dL_law_584 (by decide) ?_
  refine lv_iadd hx hb dL_law_585 ?_
  refine ly_ld X hX hS (k := n + 2) (by omega) (nI_add n 2) dL_law_586 ?_
  refine n_cVi X hH hS (k := 12) (c_X12_kind (a := x + 100) hT k1 e2) mw_X12_kind in_8_216 k1 (by decide) rfl rfl rfl ⟨rfl, rfl⟩ ⟨Nat.le_of_ble_eq_true rfl, Nat.le_of_ble_eq_true rfl⟩ ⟨Nat.le_trans (by omega) hcs.1, Nat.le_trans (by omega) hcs.2⟩ hl.1 (Nat.le_of_ble_eq_true rfl) dL_law_587 (fun H locs hH hS => ?_)
  refine lv_icmp_eq (tgt := 1127) hx hb dL_law_590 (by decide) (fun _ => ?_) (fun q => absurd rfl q)
  refine W.widen (k := cells + 37) (n := slots + 3131) (by omega) (by omega) ?_
  exact kk _ _ _ _ _ _ hl hH hS hK hs2
set_option maxHeartbeats 4000000 in
set_option maxRecDepth 100000 in
theorem lc_12 (X : m_Cx p s m args meth c cL_law 7 RL G) (hN : m_N s) (hZ : x_Z G s s.heap) (hlt : l.stackTraces = false) (hX : l_X s G b L xs) (hH : m_H G nx κ S H) (hS : m_S G s H locs) (hl : lv_has ls 7 (l_lv b x n)) (hK : l_K x nx κ) (hs : l_S x S) (hn : n + 6 ≤ L) (hcs : cells + 37 ≤ 601024 ∧ slots + 3131 ≤ 7293034) (kk : l_Q p l e s m args below meth c Q G x b n (cells + 37) (slots + 3131)) : W p l e room_1 s m args below meth c H locs cells slots Q (F0 m 595 ls []) := by
  have hx := X.1.1
  have hb := X.1.2.1
  obtain ⟨st, v, cC, cR⟩ := hs
  obtain ⟨hT, k0, k1, k2, hnx⟩ := id hK
  obtain ⟨r, kv, S1, bv, S2, e1, e1x, e2, h0, hb0, hs2⟩ := l_twoX (cl := f_X11_value x S (xs (n + 1)) (xs (n + 2))) (re := fun T => f_X12_value (x + 100) T (xs (n + 1)) (xs (n + 2))) v cC cR (fun T hT => sx_value v cC hT)
  refine lv_aload_n hx hb dL_law_595 rfl (lv_at hl 1 rfl) ?_
  refine lv_aload_n hx hb dL_law_596 rfl (lv_at hl 0 rfl) ?_
  refine lv_iload hx hb dL_law_597 (lv_at hl 4 rfl) ?_
  refine lv_iconst (v := (1 : Int32)) hx hb dL_law_599 (by decide) ?_
  refine lv_iadd hx hb dL_law_600 ?_
  refine ly_ld X hX hS (k := n + 1) (by omega) (nI_add n 1) dL_law_601 ?_
  refine lv_aload_n hx hb dL_law_602 rfl (lv_at hl 0 rfl) ?_
  refine lv_iload hx hb dL_law_603 (lv_at hl 4 rfl) ?_
  refine lv_iconst (v := (2 : Int32)) hx hb dL_law_605 (by decide) ?_
  refine lv_iadd hx hb dL_law_606 ?_
  refine ly_ld X hX hS (k := n + 2) (by omega) (nI_add n 2) dL_law_607 ?_
  refine lv_aload_n hx hb dL_law_608 rfl (lv_at hl 3 rfl) ?_
  refine n_cL (As := [.ref x, .int (xs (n + 1)), .int (xs (n + 2)), .ref (x + 130)]) (hh := [(0, 10, 13, 13)]) X hN hZ hH hS (show x_L l yL_value cL_value _ _ rm_L_value G nx κ [.ref x, .int (xs (n + 1)), .int (xs (n + 2)), .ref (x + 130)] S (kv, S1) by rw [← e1x]; exact c_L_value hlt hT k0 k2 e1) lcw_value in_1_0 in_6_142 ldd_value in_6_141 rfl ⟨rfl, rfl⟩ ⟨Nat.le_of_ble_eq_true rfl, Nat.le_of_ble_eq_true rfl⟩ ⟨Nat.le_trans (by omega) hcs.1, Nat.le_trans (by omega) hcs.2⟩ hl.1 (Nat.le_of_ble_eq_true rfl) dL_law_609 (fun H locs nx1 κ1 hle hq hT1 hH hS => ?_)
  have hK1 := hK.up hT1 hle hq
  obtain ⟨-, k01, k11, k21, hnx1⟩ := id hK1
  refine lv_istore (lv' := [(5, .int kv), (0, .ref b), (1, .ref x), (2, .ref (x + 100)), (3, .ref (x + 130)), (4, .int (nI n))]) hx hb dL_law_612 hl (by decide) rfl (fun ls hl => ?_)
  refine lv_aload_n hx hb dL_law_614 rfl (lv_at hl 3 rfl) ?_
  refine lv_aload_n hx hb dL_law_615 rfl (lv_at hl 1 rfl) ?_
  refine lv_iload hx hb dL_law_616 (lv_at hl 5 rfl) ?_
  refine lv_iconst (v := (1 : Int32)) hx hb dL_law_618 (by decide) ?_
  refine lv_iadd hx hb dL_law_619 ?_
  refine ly_ld X hX hS (k := n + 1) (by omega) (nI_add n 1) dL_law_620 ?_
  refine lv_aload_n hx hb dL_law_621 rfl (lv_at hl 1 rfl) ?_
  refine lv_iload hx hb dL_law_622 (lv_at hl 5 rfl) ?_
  refine lv_iconst (v := (2 : Int32)) hx hb dL_law_624 (by decide) ?_
  refine lv_iadd hx hb dL_law_625 ?_
  refine ly_ld X hX hS (k := n + 2) (by omega) (nI_add n 2) dL_law_626 ?_
  refine n_cVi X hH hS (k := 12) (c_X12_value (a := x + 100) hT1 k11 e2) mw_X12_value in_8_224 k11 (by decide) rfl rfl rfl ⟨rfl, rfl⟩ ⟨Nat.le_of_ble_eq_true rfl, Nat.le_of_ble_eq_true rfl⟩ ⟨Nat.le_trans (by omega) hcs.1, Nat.le_trans (by omega) hcs.2⟩ hl.1 (Nat.le_of_ble_eq_true rfl) dL_law_627 (fun H locs hH hS => ?_)
  refine lv_istore (lv' := [(6, .int bv), (5, .int kv), (0, .ref b), (1, .ref x), (2, .ref (x + 100)), (3, .ref (x + 130)), (4, .int (nI n))]) hx hb dL_law_630 hl (by decide) rfl (fun ls hl => ?_)
  refine lv_aload_n hx hb dL_law_632 rfl (lv_at hl 4 rfl) ?_
  refine n_cVi X hH hS (k := 12) (c_X12_thrown (a := x + 100) (res := (m_ri S2 (x + 100) 0, S2)) hT1 k11 rfl) mw_X12_thrown in_6_162 k11 (by decide) rfl rfl rfl ⟨rfl, rfl⟩ ⟨Nat.le_of_ble_eq_true rfl, Nat.le_of_ble_eq_true rfl⟩ ⟨Nat.le_trans (by omega) hcs.1, Nat.le_trans (by omega) hcs.2⟩ hl.1 (Nat.le_of_ble_eq_true rfl) dL_law_633 (fun H locs hH hS => ?_)
  refine lv_iload hx hb dL_law_636 (lv_at hl 1 rfl) ?_
  refine lv_icmp_eq (tgt := 643) hx hb dL_law_638 (by decide) (fun _ => ?_) (fun q => absurd h0 q)
  refine lv_iload hx hb dL_law_643 (lv_at hl 1 rfl) ?_
  refine lv_if_ne (tgt := 660) hx hb dL_law_645 (by decide) (fun q => ?_) (fun q => ?_)
  · refine lv_goto (tgt := 1127) hx hb dL_law_660 (by decide) ?_
    refine W.widen (k := cells + 37) (n := slots + 3131) (by omega) (by omega) ?_
    exact kk _ _ _ _ _ _ (lv_sub hl [2, 3, 4, 5, 6] rfl) hH hS hK1 hs2
  · refine lv_aload_n hx hb dL_law_648 rfl (lv_at hl 5 rfl) ?_
    refine lv_iconst (v := (0 : Int32)) hx hb dL_law_649 (by decide) ?_
    refine n_lald (n := 1) (v := bv.toInt64) X hH k21 (show ¬ ((0 : Int32) < 0 ∨ 1 ≤ (0 : Int32).toNatClampNeg) by decide) (hb0 q) dL_law_650 ?_
    refine lv_iload hx hb dL_law_651 (lv_at hl 0 rfl) ?_
    refine lv_i2l hx hb dL_law_653 rfl ?_
    refine W.lcmp hx hb dL_law_654 ?_
    refine lv_if_eq (tgt := 660) hx hb dL_law_655 (by decide) (fun _ => ?_) (fun q9 => absurd (ly_cmp bv.toInt64) q9)
    refine lv_goto (tgt := 1127) hx hb dL_law_660 (by decide) ?_
    refine W.widen (k := cells + 37) (n := slots + 3131) (by omega) (by omega) ?_
    exact kk _ _ _ _ _ _ (lv_sub hl [2, 3, 4, 5, 6] rfl) hH hS hK1 hs2
set_option maxHeartbeats 4000000 in
set_option maxRecDepth 100000 in
theorem lc_13 (X : m_Cx p s m args meth c cL_law 7 RL G) (hN : m_N s) (hZ : x_Z G s s.heap) (hlt : l.stackTraces = false) (hX : l_X s G b L xs) (hH : m_H G nx κ S H) (hS : m_S G s H locs) (hl : lv_has ls 7 (l_lv b x n)) (hK : l_K x nx κ) (hs : l_S x S) (hn : n + 6 ≤ L) (hcs : cells + 37 ≤ 601024 ∧ slots + 3131 ≤ 7293034) (kk : l_Q p l e s m args below meth c Q G x b n (cells + 37) (slots + 3131)) : W p l e room_1 s m args below meth c H locs cells slots Q (F0 m 663 ls []) := by
  have hx := X.1.1
  have hb := X.1.2.1
  obtain ⟨st, v, cC, cR⟩ := hs
  obtain ⟨hT, k0, k1, k2, hnx⟩ := id hK
  obtain ⟨av, S1, S2, e1, e2, hs2⟩ := l_two (cl := f_X11_cell x S (xs (n + 1)) (xs (n + 2))) (re := fun T => f_X12_cell (x + 100) T (xs (n + 1)) (xs (n + 2))) cR (fun T hT => s_cell v cC hT)
  refine lv_aload_n hx hb dL_law_663 rfl (lv_at hl 1 rfl) ?_
  refine lv_aload_n hx hb dL_law_664 rfl (lv_at hl 0 rfl) ?_
  refine lv_iload hx hb dL_law_665 (lv_at hl 4 rfl) ?_
  refine lv_iconst (v := (1 : Int32)) hx hb dL_law_667 (by decide) ?_
  refine lv_iadd hx hb dL_law_668 ?_
  refine ly_ld X hX hS (k := n + 1) (by omega) (nI_add n 1) dL_law_669 ?_
  refine lv_aload_n hx hb dL_law_670 rfl (lv_at hl 0 rfl) ?_
  refine lv_iload hx hb dL_law_671 (lv_at hl 4 rfl) ?_
  refine lv_iconst (v := (2 : Int32)) hx hb dL_law_673 (by decide) ?_
  refine lv_iadd hx hb dL_law_674 ?_
  refine ly_ld X hX hS (k := n + 2) (by omega) (nI_add n 2) dL_law_675 ?_
  refine n_cVi X hH hS (k := 11) (c_X11_cell (a := x) hT k0 e1) mw_X11_cell in_5_137 k0 (by decide) rfl rfl rfl ⟨rfl, rfl⟩ ⟨Nat.le_of_ble_eq_true rfl, Nat.le_of_ble_eq_true rfl⟩ ⟨Nat.le_trans (by omega) hcs.1, Nat.le_trans (by omega) hcs.2⟩ hl.1 (Nat.le_of_ble_eq_true rfl) dL_law_676 (fun H locs hH hS => ?_)
  refine lv_aload_n hx hb dL_law_679 rfl (lv_at hl 2 rfl) ?_
  refine lv_aload_n hx hb dL_law_680 rfl (lv_at hl 0 rfl) ?_
  refine lv_iload hx hb dL_law_681 (lv_at hl 4 rfl) ?_
  refine lv_iconst (v := (1 : Int32)) hx hb dL_law_683 (by decide) ?_
  refine lv_iadd hx hb dL_law_684 ?_
  refine ly_ld X hX hS (k := n + 1) (by omega) (nI_add n 1) dL_law_685 ?_
  refine lv_aload_n hx hb dL_law_686 rfl (lv_at hl 0 rfl) ?_
  refine lv_iload hx hb dL_law_687 (lv_at hl 4 rfl) ?_
  refine lv_iconst (v := (2 : Int32)) hx hb dL_law_689 (by decide) ?_
  refine lv_iadd hx hb dL_law_690 ?_
  refine ly_ld X hX hS (k := n + 2) (by omega) (nI_add n 2) dL_law_691 ?_
  refine n_cVi X hH hS (k := 12) (c_X12_cell (a := x + 100) hT k1 e2) mw_X12_cell in_8_228 k1 (by decide) rfl rfl rfl ⟨rfl, rfl⟩ ⟨Nat.le_of_ble_eq_true rfl, Nat.le_of_ble_eq_true rfl⟩ ⟨Nat.le_trans (by omega) hcs.1, Nat.le_trans (by omega) hcs.2⟩ hl.1 (Nat.le_of_ble_eq_true rfl) dL_law_692 (fun H locs hH hS => ?_)
  refine lv_icmp_eq (tgt := 1127) hx hb dL_law_695 (by decide) (fun _ => ?_) (fun q => absurd rfl q)
  refine W.widen (k := cells + 37) (n := slots + 3131) (by omega) (by omega) ?_
  exact kk _ _ _ _ _ _ hl hH hS hK hs2
set_option maxHeartbeats 4000000 in
set_option maxRecDepth 100000 in
theorem lc_14 (X : m_Cx p s m args meth c cL_law 7 RL G) (hN : m_N s) (hZ : x_Z G s s.heap) (hlt : l.stackTraces = false) (hX : l_X s G b L xs) (hH : m_H G nx κ S H) (hS : m_S G s H locs) (hl : lv_has ls 7 (l_lv b x n)) (hK : l_K x nx κ) (hs : l_S x S) (hn : n + 6 ≤ L) (hcs : cells + 37 ≤ 601024 ∧ slots + 3131 ≤ 7293034) (kk : l_Q p l e s m args below meth c Q G x b n (cells + 37) (slots + 3131)) : W p l e room_1 s m args below meth c H locs cells slots Q (F0 m 700 ls []) := by
  have hx := X.1.1
  have hb := X.1.2.1
  obtain ⟨st, v, cC, cR⟩ := hs
  obtain ⟨hT, k0, k1, k2, hnx⟩ := id hK
  obtain ⟨r, kv, S1, bv, S2, e1, e1x, e2, h0, hb0, hs2⟩ := l_twoX (cl := f_X11_in x S (xs (n + 1)) (xs (n + 2))) (re := fun T => f_X12_in (x + 100) T (xs (n + 1)) (xs (n + 2))) v cC cR (fun T hT => sx_in v cC hT)
  refine lv_aload_n hx hb dL_law_700 rfl (lv_at hl 1 rfl) ?_
  refine lv_aload_n hx hb dL_law_701 rfl (lv_at hl 0 rfl) ?_
  refine lv_iload hx hb dL_law_702 (lv_at hl 4 rfl) ?_
  refine lv_iconst (v := (1 : Int32)) hx hb dL_law_704 (by decide) ?_
  refine lv_iadd hx hb dL_law_705 ?_
  refine ly_ld X hX hS (k := n + 1) (by omega) (nI_add n 1) dL_law_706 ?_
  refine lv_aload_n hx hb dL_law_707 rfl (lv_at hl 0 rfl) ?_
  refine lv_iload hx hb dL_law_708 (lv_at hl 4 rfl) ?_
  refine lv_iconst (v := (2 : Int32)) hx hb dL_law_710 (by decide) ?_
  refine lv_iadd hx hb dL_law_711 ?_
  refine ly_ld X hX hS (k := n + 2) (by omega) (nI_add n 2) dL_law_712 ?_
  refine lv_aload_n hx hb dL_law_713 rfl (lv_at hl 3 rfl) ?_
  refine n_cL (As := [.ref x, .int (xs (n + 1)), .int (xs (n + 2)), .ref (x + 130)]) (hh := [(0, 10, 13, 13)]) X hN hZ hH hS (show x_L l yL_in cL_in _ _ rm_L_in G nx κ [.ref x, .int (xs (n + 1)), .int (xs (n + 2)), .ref (x + 130)] S (kv, S1) by rw [← e1x]; exact c_L_in hlt hT k0 k2 e1) lcw_in in_1_0 in_6_149 ldd_in in_6_148 rfl ⟨rfl, rfl⟩ ⟨Nat.le_of_ble_eq_true rfl, Nat.le_of_ble_eq_true rfl⟩ ⟨Nat.le_trans (by omega) hcs.1, Nat.le_trans (by omega) hcs.2⟩ hl.1 (Nat.le_of_ble_eq_true rfl) dL_law_714 (fun H locs nx1 κ1 hle hq hT1 hH hS => ?_)
  have hK1 := hK.up hT1 hle hq
  obtain ⟨-, k01, k11, k21, hnx1⟩ := id hK1
  refine lv_istore (lv' := [(5, .int kv), (0, .ref b), (1, .ref x), (2, .ref (x + 100)), (3, .ref (x + 130)), (4, .int (nI n))]) hx hb dL_law_717 hl (by decide) rfl (fun ls hl => ?_)
  refine lv_aload_n hx hb dL_law_719 rfl (lv_at hl 3 rfl) ?_
  refine lv_aload_n hx hb dL_law_720 rfl (lv_at hl 1 rfl) ?_
  refine lv_iload hx hb dL_law_721 (lv_at hl 5 rfl) ?_
  refine lv_iconst (v := (1 : Int32)) hx hb dL_law_723 (by decide) ?_
  refine lv_iadd hx hb dL_law_724 ?_
  refine ly_ld X hX hS (k := n + 1) (by omega) (nI_add n 1) dL_law_725 ?_
  refine lv_aload_n hx hb dL_law_726 rfl (lv_at hl 1 rfl) ?_
  refine lv_iload hx hb dL_law_727 (lv_at hl 5 rfl) ?_
  refine lv_iconst (v := (2 : Int32)) hx hb dL_law_729 (by decide) ?_
  refine lv_iadd hx hb dL_law_730 ?_
  refine ly_ld X hX hS (k := n + 2) (by omega) (nI_add n 2) dL_law_731 ?_
  refine n_cVi X hH hS (k := 12) (c_X12_in (a := x + 100) hT1 k11 e2) mw_X12_in in_8_236 k11 (by decide) rfl rfl rfl ⟨rfl, rfl⟩ ⟨Nat.le_of_ble_eq_true rfl, Nat.le_of_ble_eq_true rfl⟩ ⟨Nat.le_trans (by omega) hcs.1, Nat.le_trans (by omega) hcs.2⟩ hl.1 (Nat.le_of_ble_eq_true rfl) dL_law_732 (fun H locs hH hS => ?_)
  refine lv_istore (lv' := [(6, .int bv), (5, .int kv), (0, .ref b), (1, .ref x), (2, .ref (x + 100)), (3, .ref (x + 130)), (4, .int (nI n))]) hx hb dL_law_735 hl (by decide) rfl (fun ls hl => ?_)
  refine lv_aload_n hx hb dL_law_737 rfl (lv_at hl 4 rfl) ?_
  refine n_cVi X hH hS (k := 12) (c_X12_thrown (a := x + 100) (res := (m_ri S2 (x + 100) 0, S2)) hT1 k11 rfl) mw_X12_thrown in_6_162 k11 (by decide) rfl rfl rfl ⟨rfl, rfl⟩ ⟨Nat.le_of_ble_eq_true rfl, Nat.le_of_ble_eq_true rfl⟩ ⟨Nat.le_trans (by omega) hcs.1, Nat.le_trans (by omega) hcs.2⟩ hl.1 (Nat.le_of_ble_eq_true rfl) dL_law_738 (fun H locs hH hS => ?_)
  refine lv_iload hx hb dL_law_741 (lv_at hl 1 rfl) ?_
  refine lv_icmp_eq (tgt := 748) hx hb dL_law_743 (by decide) (fun _ => ?_) (fun q => absurd h0 q)
  refine lv_iload hx hb dL_law_748 (lv_at hl 1 rfl) ?_
  refine lv_if_ne (tgt := 765) hx hb dL_law_750 (by decide) (fun q => ?_) (fun q => ?_)
  · refine lv_goto (tgt := 1127) hx hb dL_law_765 (by decide) ?_
    refine W.widen (k := cells + 37) (n := slots + 3131) (by omega) (by omega) ?_
    exact kk _ _ _ _ _ _ (lv_sub hl [2, 3, 4, 5, 6] rfl) hH hS hK1 hs2
  · refine lv_aload_n hx hb dL_law_753 rfl (lv_at hl 5 rfl) ?_
    refine lv_iconst (v := (0 : Int32)) hx hb dL_law_754 (by decide) ?_
    refine n_lald (n := 1) (v := bv.toInt64) X hH k21 (show ¬ ((0 : Int32) < 0 ∨ 1 ≤ (0 : Int32).toNatClampNeg) by decide) (hb0 q) dL_law_755 ?_
    refine lv_iload hx hb dL_law_756 (lv_at hl 0 rfl) ?_
    refine lv_i2l hx hb dL_law_758 rfl ?_
    refine W.lcmp hx hb dL_law_759 ?_
    refine lv_if_eq (tgt := 765) hx hb dL_law_760 (by decide) (fun _ => ?_) (fun q9 => absurd (ly_cmp bv.toInt64) q9)
    refine lv_goto (tgt := 1127) hx hb dL_law_765 (by decide) ?_
    refine W.widen (k := cells + 37) (n := slots + 3131) (by omega) (by omega) ?_
    exact kk _ _ _ _ _ _ (lv_sub hl [2, 3, 4, 5, 6] rfl) hH hS hK1 hs2
set_option maxHeartbeats 4000000 in
set_option maxRecDepth 100000 in
theorem lc_15 (X : m_Cx p s m args meth c cL_law 7 RL G) (hN : m_N s) (hZ : x_Z G s s.heap) (hlt : l.stackTraces = false) (hX : l_X s G b L xs) (hH : m_H G nx κ S H) (hS : m_S G s H locs) (hl : lv_has ls 7 (l_lv b x n)) (hK : l_K x nx κ) (hs : l_S x S) (hn : n + 6 ≤ L) (hcs : cells + 37 ≤ 601024 ∧ slots + 3131 ≤ 7293034) (kk : l_Q p l e s m args below meth c Q G x b n (cells + 37) (slots + 3131)) : W p l e room_1 s m args below meth c H locs cells slots Q (F0 m 768 ls []) := by
  have hx := X.1.1
  have hb := X.1.2.1
  obtain ⟨st, v, cC, cR⟩ := hs
  obtain ⟨hT, k0, k1, k2, hnx⟩ := id hK
  obtain ⟨av, S1, S2, e1, e2, hs2⟩ := l_two (cl := f_X11_gave x S ) (re := fun T => f_X12_gave (x + 100) T ) cR (fun T hT => s_gave v cC hT)
  refine lv_aload_n hx hb dL_law_768 rfl (lv_at hl 1 rfl) ?_
  refine n_cVi X hH hS (k := 11) (c_X11_gave (a := x) hT k0 e1) mw_X11_gave in_5_143 k0 (by decide) rfl rfl rfl ⟨rfl, rfl⟩ ⟨Nat.le_of_ble_eq_true rfl, Nat.le_of_ble_eq_true rfl⟩ ⟨Nat.le_trans (by omega) hcs.1, Nat.le_trans (by omega) hcs.2⟩ hl.1 (Nat.le_of_ble_eq_true rfl) dL_law_769 (fun H locs hH hS => ?_)
  refine lv_aload_n hx hb dL_law_772 rfl (lv_at hl 2 rfl) ?_
  refine n_cVi X hH hS (k := 12) (c_X12_gave (a := x + 100) hT k1 e2) mw_X12_gave in_9_0 k1 (by decide) rfl rfl rfl ⟨rfl, rfl⟩ ⟨Nat.le_of_ble_eq_true rfl, Nat.le_of_ble_eq_true rfl⟩ ⟨Nat.le_trans (by omega) hcs.1, Nat.le_trans (by omega) hcs.2⟩ hl.1 (Nat.le_of_ble_eq_true rfl) dL_law_773 (fun H locs hH hS => ?_)
  refine lv_icmp_eq (tgt := 1127) hx hb dL_law_776 (by decide) (fun _ => ?_) (fun q => absurd rfl q)
  refine W.widen (k := cells + 37) (n := slots + 3131) (by omega) (by omega) ?_
  exact kk _ _ _ _ _ _ hl hH hS hK hs2
set_option maxHeartbeats 4000000 in
set_option maxRecDepth 100000 in
theorem lc_16 (X : m_Cx p s m args meth c cL_law 7 RL G) (hN : m_N s) (hZ : x_Z G s s.heap) (hlt : l.stackTraces = false) (hX : l_X s G b L xs) (hH : m_H G nx κ S H) (hS : m_S G s H locs) (hl : lv_has ls 7 (l_lv b x n)) (hK : l_K x nx κ) (hs : l_S x S) (hn : n + 6 ≤ L) (hcs : cells + 37 ≤ 601024 ∧ slots + 3131 ≤ 7293034) (kk : l_Q p l e s m args below meth c Q G x b n (cells + 37) (slots + 3131)) : W p l e room_1 s m args below meth c H locs cells slots Q (F0 m 781 ls []) := by
  have hx := X.1.1
  have hb := X.1.2.1
  obtain ⟨st, v, cC, cR⟩ := hs
  obtain ⟨hT, k0, k1, k2, hnx⟩ := id hK
  obtain ⟨r, kv, S1, bv, S2, e1, e1x, e2, h0, hb0, hs2⟩ := l_twoX (cl := f_X11_result x S ) (re := fun T => f_X12_result (x + 100) T ) v cC cR (fun T hT => sx_result v cC hT)
  refine lv_aload_n hx hb dL_law_781 rfl (lv_at hl 1 rfl) ?_
  refine lv_aload_n hx hb dL_law_782 rfl (lv_at hl 3 rfl) ?_
  refine n_cL (As := [.ref x, .ref (x + 130)]) (hh := [(0, 8, 11, 13)]) X hN hZ hH hS (show x_L l yL_result cL_result _ _ rm_L_result G nx κ [.ref x, .ref (x + 130)] S (kv, S1) by rw [← e1x]; exact c_L_result hlt hT k0 k2 e1) lcw_result in_1_0 in_6_156 ldd_result in_6_155 rfl ⟨rfl, rfl⟩ ⟨Nat.le_of_ble_eq_true rfl, Nat.le_of_ble_eq_true rfl⟩ ⟨Nat.le_trans (by omega) hcs.1, Nat.le_trans (by omega) hcs.2⟩ hl.1 (Nat.le_of_ble_eq_true rfl) dL_law_783 (fun H locs nx1 κ1 hle hq hT1 hH hS => ?_)
  have hK1 := hK.up hT1 hle hq
  obtain ⟨-, k01, k11, k21, hnx1⟩ := id hK1
  refine lv_istore (lv' := [(5, .int kv), (0, .ref b), (1, .ref x), (2, .ref (x + 100)), (3, .ref (x + 130)), (4, .int (nI n))]) hx hb dL_law_786 hl (by decide) rfl (fun ls hl => ?_)
  refine lv_aload_n hx hb dL_law_788 rfl (lv_at hl 3 rfl) ?_
  refine n_cVi X hH hS (k := 12) (c_X12_result (a := x + 100) hT1 k11 e2) mw_X12_result in_9_4 k11 (by decide) rfl rfl rfl ⟨rfl, rfl⟩ ⟨Nat.le_of_ble_eq_true rfl, Nat.le_of_ble_eq_true rfl⟩ ⟨Nat.le_trans (by omega) hcs.1, Nat.le_trans (by omega) hcs.2⟩ hl.1 (Nat.le_of_ble_eq_true rfl) dL_law_789 (fun H locs hH hS => ?_)
  refine lv_istore (lv' := [(6, .int bv), (5, .int kv), (0, .ref b), (1, .ref x), (2, .ref (x + 100)), (3, .ref (x + 130)), (4, .int (nI n))]) hx hb dL_law_792 hl (by decide) rfl (fun ls hl => ?_)
  refine lv_aload_n hx hb dL_law_794 rfl (lv_at hl 4 rfl) ?_
  refine n_cVi X hH hS (k := 12) (c_X12_thrown (a := x + 100) (res := (m_ri S2 (x + 100) 0, S2)) hT1 k11 rfl) mw_X12_thrown in_6_162 k11 (by decide) rfl rfl rfl ⟨rfl, rfl⟩ ⟨Nat.le_of_ble_eq_true rfl, Nat.le_of_ble_eq_true rfl⟩ ⟨Nat.le_trans (by omega) hcs.1, Nat.le_trans (by omega) hcs.2⟩ hl.1 (Nat.le_of_ble_eq_true rfl) dL_law_795 (fun H locs hH hS => ?_)
  refine lv_iload hx hb dL_law_798 (lv_at hl 1 rfl) ?_
  refine lv_icmp_eq (tgt := 805) hx hb dL_law_800 (by decide) (fun _ => ?_) (fun q => absurd h0 q)
  refine lv_iload hx hb dL_law_805 (lv_at hl 1 rfl) ?_
  refine lv_if_ne (tgt := 822) hx hb dL_law_807 (by decide) (fun q => ?_) (fun q => ?_)
  · refine lv_goto (tgt := 1127) hx hb dL_law_822 (by decide) ?_
    refine W.widen (k := cells + 37) (n := slots + 3131) (by omega) (by omega) ?_
    exact kk _ _ _ _ _ _ (lv_sub hl [2, 3, 4, 5, 6] rfl) hH hS hK1 hs2
  · refine lv_aload_n hx hb dL_law_810 rfl (lv_at hl 5 rfl) ?_
    refine lv_iconst (v := (0 : Int32)) hx hb dL_law_811 (by decide) ?_
    refine n_lald (n := 1) (v := bv.toInt64) X hH k21 (show ¬ ((0 : Int32) < 0 ∨ 1 ≤ (0 : Int32).toNatClampNeg) by decide) (hb0 q) dL_law_812 ?_
    refine lv_iload hx hb dL_law_813 (lv_at hl 0 rfl) ?_
    refine lv_i2l hx hb dL_law_815 rfl ?_
    refine W.lcmp hx hb dL_law_816 ?_
    refine lv_if_eq (tgt := 822) hx hb dL_law_817 (by decide) (fun _ => ?_) (fun q9 => absurd (ly_cmp bv.toInt64) q9)
    refine lv_goto (tgt := 1127) hx hb dL_law_822 (by decide) ?_
    refine W.widen (k := cells + 37) (n := slots + 3131) (by omega) (by omega) ?_
    exact kk _ _ _ _ _ _ (lv_sub hl [2, 3, 4, 5, 6] rfl) hH hS hK1 hs2
set_option maxHeartbeats 4000000 in
set_option maxRecDepth 100000 in
theorem lc_17 (X : m_Cx p s m args meth c cL_law 7 RL G) (hN : m_N s) (hZ : x_Z G s s.heap) (hlt : l.stackTraces = false) (hX : l_X s G b L xs) (hH : m_H G nx κ S H) (hS : m_S G s H locs) (hl : lv_has ls 7 (l_lv b x n)) (hK : l_K x nx κ) (hs : l_S x S) (hn : n + 6 ≤ L) (hcs : cells + 37 ≤ 601024 ∧ slots + 3131 ≤ 7293034) (kk : l_Q p l e s m args below meth c Q G x b n (cells + 37) (slots + 3131)) : W p l e room_1 s m args below meth c H locs cells slots Q (F0 m 825 ls []) := by
  have hx := X.1.1
  have hb := X.1.2.1
  obtain ⟨st, v, cC, cR⟩ := hs
  obtain ⟨hT, k0, k1, k2, hnx⟩ := id hK
  obtain ⟨av, S1, S2, e1, e2, hs2⟩ := l_two (cl := f_X11_room x S (xs (n + 1))) (re := fun T => f_X12_room (x + 100) T (xs (n + 1))) cR (fun T hT => s_room v cC hT)
  refine lv_aload_n hx hb dL_law_825 rfl (lv_at hl 1 rfl) ?_
  refine lv_aload_n hx hb dL_law_826 rfl (lv_at hl 0 rfl) ?_
  refine lv_iload hx hb dL_law_827 (lv_at hl 4 rfl) ?_
  refine lv_iconst (v := (1 : Int32)) hx hb dL_law_829 (by decide) ?_
  refine lv_iadd hx hb dL_law_830 ?_
  refine ly_ld X hX hS (k := n + 1) (by omega) (nI_add n 1) dL_law_831 ?_
  refine n_cVi X hH hS (k := 11) (c_X11_room (a := x) hT k0 e1) mw_X11_room in_5_151 k0 (by decide) rfl rfl rfl ⟨rfl, rfl⟩ ⟨Nat.le_of_ble_eq_true rfl, Nat.le_of_ble_eq_true rfl⟩ ⟨Nat.le_trans (by omega) hcs.1, Nat.le_trans (by omega) hcs.2⟩ hl.1 (Nat.le_of_ble_eq_true rfl) dL_law_832 (fun H locs hH hS => ?_)
  refine lv_aload_n hx hb dL_law_835 rfl (lv_at hl 2 rfl) ?_
  refine lv_aload_n hx hb dL_law_836 rfl (lv_at hl 0 rfl) ?_
  refine lv_iload hx hb dL_law_837 (lv_at hl 4 rfl) ?_
  refine lv_iconst (v := (1 : Int32)) hx hb dL_law_839 (by decide) ?_
  refine lv_iadd hx hb dL_law_840 ?_
  refine ly_ld X hX hS (k := n + 1) (by omega) (nI_add n 1) dL_law_841 ?_
  refine n_cVi X hH hS (k := 12) (c_X12_room (a := x + 100) hT k1 e2) mw_X12_room in_9_8 k1 (by decide) rfl rfl rfl ⟨rfl, rfl⟩ ⟨Nat.le_of_ble_eq_true rfl, Nat.le_of_ble_eq_true rfl⟩ ⟨Nat.le_trans (by omega) hcs.1, Nat.le_trans (by omega) hcs.2⟩ hl.1 (Nat.le_of_ble_eq_true rfl) dL_law_842 (fun H locs hH hS => ?_)
  refine lv_icmp_eq (tgt := 1127) hx hb dL_law_845 (by decide) (fun _ => ?_) (fun q => absurd rfl q)
  refine W.widen (k := cells + 37) (n := slots + 3131) (by omega) (by omega) ?_
  exact kk _ _ _ _ _ _ hl hH hS hK hs2
set_option maxHeartbeats 4000000 in
set_option maxRecDepth 100000 in
theorem lc_18 (X : m_Cx p s m args meth c cL_law 7 RL G) (hN : m_N s) (hZ : x_Z G s s.heap) (hlt : l.stackTraces = false) (hX : l_X s G b L xs) (hH : m_H G nx κ S H) (hS : m_S G s H locs) (hl : lv_has ls 7 (l_lv b x n)) (hK : l_K x nx κ) (hs : l_S x S) (hn : n + 6 ≤ L) (hcs : cells + 37 ≤ 601024 ∧ slots + 3131 ≤ 7293034) (kk : l_Q p l e s m args below meth c Q G x b n (cells + 37) (slots + 3131)) : W p l e room_1 s m args below meth c H locs cells slots Q (F0 m 850 ls []) := by
  have hx := X.1.1
  have hb := X.1.2.1
  obtain ⟨st, v, cC, cR⟩ := hs
  obtain ⟨hT, k0, k1, k2, hnx⟩ := id hK
  obtain ⟨av, S1, S2, e1, e2, hs2⟩ := l_two (cl := f_X11_roomful x S (xs (n + 1))) (re := fun T => f_X12_roomful (x + 100) T (xs (n + 1))) cR (fun T hT => s_roomful v cC hT)
  refine lv_aload_n hx hb dL_law_850 rfl (lv_at hl 1 rfl) ?_
  refine lv_aload_n hx hb dL_law_851 rfl (lv_at hl 0 rfl) ?_
  refine lv_iload hx hb dL_law_852 (lv_at hl 4 rfl) ?_
  refine lv_iconst (v := (1 : Int32)) hx hb dL_law_854 (by decide) ?_
  refine lv_iadd hx hb dL_law_855 ?_
  refine ly_ld X hX hS (k := n + 1) (by omega) (nI_add n 1) dL_law_856 ?_
  refine n_cVi X hH hS (k := 11) (c_X11_roomful (a := x) hT k0 e1) mw_X11_roomful in_5_156 k0 (by decide) rfl rfl rfl ⟨rfl, rfl⟩ ⟨Nat.le_of_ble_eq_true rfl, Nat.le_of_ble_eq_true rfl⟩ ⟨Nat.le_trans (by omega) hcs.1, Nat.le_trans (by omega) hcs.2⟩ hl.1 (Nat.le_of_ble_eq_true rfl) dL_law_857 (fun H locs hH hS => ?_)
  refine lv_aload_n hx hb dL_law_860 rfl (lv_at hl 2 rfl) ?_
  refine lv_aload_n hx hb dL_law_861 rfl (lv_at hl 0 rfl) ?_
  refine lv_iload hx hb dL_law_862 (lv_at hl 4 rfl) ?_
  refine lv_iconst (v := (1 : Int32)) hx hb dL_law_864 (by decide) ?_
  refine lv_iadd hx hb dL_law_865 ?_
  refine ly_ld X hX hS (k := n + 1) (by omega) (nI_add n 1) dL_law_866 ?_
  refine n_cVi X hH hS (k := 12) (c_X12_roomful (a := x + 100) hT k1 e2) mw_X12_roomful in_9_12 k1 (by decide) rfl rfl rfl ⟨rfl, rfl⟩ ⟨Nat.le_of_ble_eq_true rfl, Nat.le_of_ble_eq_true rfl⟩ ⟨Nat.le_trans (by omega) hcs.1, Nat.le_trans (by omega) hcs.2⟩ hl.1 (Nat.le_of_ble_eq_true rfl) dL_law_867 (fun H locs hH hS => ?_)
  refine lv_icmp_eq (tgt := 1127) hx hb dL_law_870 (by decide) (fun _ => ?_) (fun q => absurd rfl q)
  refine W.widen (k := cells + 37) (n := slots + 3131) (by omega) (by omega) ?_
  exact kk _ _ _ _ _ _ hl hH hS hK hs2
set_option maxHeartbeats 4000000 in
set_option maxRecDepth 100000 in
theorem lc_19 (X : m_Cx p s m args meth c cL_law 7 RL G) (hN : m_N s) (hZ : x_Z G s s.heap) (hlt : l.stackTraces = false) (hX : l_X s G b L xs) (hH : m_H G nx κ S H) (hS : m_S G s H locs) (hl : lv_has ls 7 (l_lv b x n)) (hK : l_K x nx κ) (hs : l_S x S) (hn : n + 6 ≤ L) (hcs : cells + 37 ≤ 601024 ∧ slots + 3131 ≤ 7293034) (kk : l_Q p l e s m args below meth c Q G x b n (cells + 37) (slots + 3131)) : W p l e room_1 s m args below meth c H locs cells slots Q (F0 m 875 ls []) := by
  have hx := X.1.1
  have hb := X.1.2.1
  obtain ⟨st, v, cC, cR⟩ := hs
  obtain ⟨hT, k0, k1, k2, hnx⟩ := id hK
  obtain ⟨av, S1, S2, e1, e2, hs2⟩ := l_two (cl := f_X11_reached x S ) (re := fun T => f_X12_reached (x + 100) T ) cR (fun T hT => s_reached v cC hT)
  refine lv_aload_n hx hb dL_law_875 rfl (lv_at hl 1 rfl) ?_
  refine n_cVi X hH hS (k := 11) (c_X11_reached (a := x) hT k0 e1) mw_X11_reached in_5_164 k0 (by decide) rfl rfl rfl ⟨rfl, rfl⟩ ⟨Nat.le_of_ble_eq_true rfl, Nat.le_of_ble_eq_true rfl⟩ ⟨Nat.le_trans (by omega) hcs.1, Nat.le_trans (by omega) hcs.2⟩ hl.1 (Nat.le_of_ble_eq_true rfl) dL_law_876 (fun H locs hH hS => ?_)
  refine lv_aload_n hx hb dL_law_879 rfl (lv_at hl 2 rfl) ?_
  refine n_cVi X hH hS (k := 12) (c_X12_reached (a := x + 100) hT k1 e2) mw_X12_reached in_9_16 k1 (by decide) rfl rfl rfl ⟨rfl, rfl⟩ ⟨Nat.le_of_ble_eq_true rfl, Nat.le_of_ble_eq_true rfl⟩ ⟨Nat.le_trans (by omega) hcs.1, Nat.le_trans (by omega) hcs.2⟩ hl.1 (Nat.le_of_ble_eq_true rfl) dL_law_880 (fun H locs hH hS => ?_)
  refine lv_icmp_eq (tgt := 1127) hx hb dL_law_883 (by decide) (fun _ => ?_) (fun q => absurd rfl q)
  refine W.widen (k := cells + 37) (n := slots + 3131) (by omega) (by omega) ?_
  exact kk _ _ _ _ _ _ hl hH hS hK hs2
set_option maxHeartbeats 4000000 in
set_option maxRecDepth 100000 in
theorem lc_20 (X : m_Cx p s m args meth c cL_law 7 RL G) (hN : m_N s) (hZ : x_Z G s s.heap) (hlt : l.stackTraces = false) (hX : l_X s G b L xs) (hH : m_H G nx κ S H) (hS : m_S G s H locs) (hl : lv_has ls 7 (l_lv b x n)) (hK : l_K x nx κ) (hs : l_S x S) (hn : n + 6 ≤ L) (hcs : cells + 37 ≤ 601024 ∧ slots + 3131 ≤ 7293034) (kk : l_Q p l e s m args below meth c Q G x b n (cells + 37) (slots + 3131)) : W p l e room_1 s m args below meth c H locs cells slots Q (F0 m 888 ls []) := by
  have hx := X.1.1
  have hb := X.1.2.1
  obtain ⟨st, v, cC, cR⟩ := hs
  obtain ⟨hT, k0, k1, k2, hnx⟩ := id hK
  obtain ⟨av, S1, S2, e1, e2, hs2⟩ := l_two (cl := f_X11_isReached x S (xs (n + 1))) (re := fun T => f_X12_isReached (x + 100) T (xs (n + 1))) cR (fun T hT => s_isReached v cC hT)
  refine lv_aload_n hx hb dL_law_888 rfl (lv_at hl 1 rfl) ?_
  refine lv_aload_n hx hb dL_law_889 rfl (lv_at hl 0 rfl) ?_
  refine lv_iload hx hb dL_law_890 (lv_at hl 4 rfl) ?_
  refine lv_iconst (v := (1 : Int32)) hx hb dL_law_892 (by decide) ?_
  refine lv_iadd hx hb dL_law_893 ?_
  refine ly_ld X hX hS (k := n + 1) (by omega) (nI_add n 1) dL_law_894 ?_
  refine n_cVi X hH hS (k := 11) (c_X11_isReached (a := x) hT k0 e1) mw_X11_isReached in_5_179 k0 (by decide) rfl rfl rfl ⟨rfl, rfl⟩ ⟨Nat.le_of_ble_eq_true rfl, Nat.le_of_ble_eq_true rfl⟩ ⟨Nat.le_trans (by omega) hcs.1, Nat.le_trans (by omega) hcs.2⟩ hl.1 (Nat.le_of_ble_eq_true rfl) dL_law_895 (fun H locs hH hS => ?_)
  refine lv_aload_n hx hb dL_law_898 rfl (lv_at hl 2 rfl) ?_
  refine lv_aload_n hx hb dL_law_899 rfl (lv_at hl 0 rfl) ?_
  refine lv_iload hx hb dL_law_900 (lv_at hl 4 rfl) ?_
  refine lv_iconst (v := (1 : Int32)) hx hb dL_law_902 (by decide) ?_
  refine lv_iadd hx hb dL_law_903 ?_
  refine ly_ld X hX hS (k := n + 1) (by omega) (nI_add n 1) dL_law_904 ?_
  refine n_cVi X hH hS (k := 12) (c_X12_isReached (a := x + 100) hT k1 e2) mw_X12_isReached in_9_28 k1 (by decide) rfl rfl rfl ⟨rfl, rfl⟩ ⟨Nat.le_of_ble_eq_true rfl, Nat.le_of_ble_eq_true rfl⟩ ⟨Nat.le_trans (by omega) hcs.1, Nat.le_trans (by omega) hcs.2⟩ hl.1 (Nat.le_of_ble_eq_true rfl) dL_law_905 (fun H locs hH hS => ?_)
  refine lv_icmp_eq (tgt := 1127) hx hb dL_law_908 (by decide) (fun _ => ?_) (fun q => absurd rfl q)
  refine W.widen (k := cells + 37) (n := slots + 3131) (by omega) (by omega) ?_
  exact kk _ _ _ _ _ _ hl hH hS hK hs2
set_option maxHeartbeats 4000000 in
set_option maxRecDepth 100000 in
theorem lc_21 (X : m_Cx p s m args meth c cL_law 7 RL G) (hN : m_N s) (hZ : x_Z G s s.heap) (hlt : l.stackTraces = false) (hX : l_X s G b L xs) (hH : m_H G nx κ S H) (hS : m_S G s H locs) (hl : lv_has ls 7 (l_lv b x n)) (hK : l_K x nx κ) (hs : l_S x S) (hn : n + 6 ≤ L) (hcs : cells + 37 ≤ 601024 ∧ slots + 3131 ≤ 7293034) (kk : l_Q p l e s m args below meth c Q G x b n (cells + 37) (slots + 3131)) : W p l e room_1 s m args below meth c H locs cells slots Q (F0 m 913 ls []) := by
  have hx := X.1.1
  have hb := X.1.2.1
  obtain ⟨st, v, cC, cR⟩ := hs
  obtain ⟨hT, k0, k1, k2, hnx⟩ := id hK
  obtain ⟨av, S1, S2, e1, e2, hs2⟩ := l_two (cl := f_X11_drag x S ) (re := fun T => f_X12_drag (x + 100) T ) cR (fun T hT => s_drag v cC hT)
  refine lv_aload_n hx hb dL_law_913 rfl (lv_at hl 1 rfl) ?_
  refine n_cVi X hH hS (k := 11) (c_X11_drag (a := x) hT k0 e1) mw_X11_drag in_5_183 k0 (by decide) rfl rfl rfl ⟨rfl, rfl⟩ ⟨Nat.le_of_ble_eq_true rfl, Nat.le_of_ble_eq_true rfl⟩ ⟨Nat.le_trans (by omega) hcs.1, Nat.le_trans (by omega) hcs.2⟩ hl.1 (Nat.le_of_ble_eq_true rfl) dL_law_914 (fun H locs hH hS => ?_)
  refine lv_aload_n hx hb dL_law_917 rfl (lv_at hl 2 rfl) ?_
  refine n_cVi X hH hS (k := 12) (c_X12_drag (a := x + 100) hT k1 e2) mw_X12_drag in_9_32 k1 (by decide) rfl rfl rfl ⟨rfl, rfl⟩ ⟨Nat.le_of_ble_eq_true rfl, Nat.le_of_ble_eq_true rfl⟩ ⟨Nat.le_trans (by omega) hcs.1, Nat.le_trans (by omega) hcs.2⟩ hl.1 (Nat.le_of_ble_eq_true rfl) dL_law_918 (fun H locs hH hS => ?_)
  refine lv_icmp_eq (tgt := 1127) hx hb dL_law_921 (by decide) (fun _ => ?_) (fun q => absurd rfl q)
  refine W.widen (k := cells + 37) (n := slots + 3131) (by omega) (by omega) ?_
  exact kk _ _ _ _ _ _ hl hH hS hK hs2
set_option maxHeartbeats 4000000 in
set_option maxRecDepth 100000 in
theorem lc_22 (X : m_Cx p s m args meth c cL_law 7 RL G) (hN : m_N s) (hZ : x_Z G s s.heap) (hlt : l.stackTraces = false) (hX : l_X s G b L xs) (hH : m_H G nx κ S H) (hS : m_S G s H locs) (hl : lv_has ls 7 (l_lv b x n)) (hK : l_K x nx κ) (hs : l_S x S) (hn : n + 6 ≤ L) (hcs : cells + 37 ≤ 601024 ∧ slots + 3131 ≤ 7293034) (kk : l_Q p l e s m args below meth c Q G x b n (cells + 37) (slots + 3131)) : W p l e room_1 s m args below meth c H locs cells slots Q (F0 m 926 ls []) := by
  have hx := X.1.1
  have hb := X.1.2.1
  obtain ⟨st, v, cC, cR⟩ := hs
  obtain ⟨hT, k0, k1, k2, hnx⟩ := id hK
  obtain ⟨av, S1, S2, e1, e2, hs2⟩ := l_two (cl := f_X11_run x S ) (re := fun T => f_X12_run (x + 100) T ) cR (fun T hT => s_run v cC hT)
  refine lv_aload_n hx hb dL_law_926 rfl (lv_at hl 1 rfl) ?_
  refine n_cVi X hH hS (k := 11) (c_X11_run (a := x) hT k0 e1) mw_X11_run in_5_187 k0 (by decide) rfl rfl rfl ⟨rfl, rfl⟩ ⟨Nat.le_of_ble_eq_true rfl, Nat.le_of_ble_eq_true rfl⟩ ⟨Nat.le_trans (by omega) hcs.1, Nat.le_trans (by omega) hcs.2⟩ hl.1 (Nat.le_of_ble_eq_true rfl) dL_law_927 (fun H locs hH hS => ?_)
  refine lv_aload_n hx hb dL_law_930 rfl (lv_at hl 2 rfl) ?_
  refine n_cVi X hH hS (k := 12) (c_X12_run (a := x + 100) hT k1 e2) mw_X12_run in_9_40 k1 (by decide) rfl rfl rfl ⟨rfl, rfl⟩ ⟨Nat.le_of_ble_eq_true rfl, Nat.le_of_ble_eq_true rfl⟩ ⟨Nat.le_trans (by omega) hcs.1, Nat.le_trans (by omega) hcs.2⟩ hl.1 (Nat.le_of_ble_eq_true rfl) dL_law_931 (fun H locs hH hS => ?_)
  refine lv_icmp_eq (tgt := 1127) hx hb dL_law_934 (by decide) (fun _ => ?_) (fun q => absurd rfl q)
  refine W.widen (k := cells + 37) (n := slots + 3131) (by omega) (by omega) ?_
  exact kk _ _ _ _ _ _ hl hH hS hK hs2
set_option maxHeartbeats 4000000 in
set_option maxRecDepth 100000 in
theorem lc_23 (X : m_Cx p s m args meth c cL_law 7 RL G) (hN : m_N s) (hZ : x_Z G s s.heap) (hlt : l.stackTraces = false) (hX : l_X s G b L xs) (hH : m_H G nx κ S H) (hS : m_S G s H locs) (hl : lv_has ls 7 (l_lv b x n)) (hK : l_K x nx κ) (hs : l_S x S) (hn : n + 6 ≤ L) (hcs : cells + 37 ≤ 601024 ∧ slots + 3131 ≤ 7293034) (kk : l_Q p l e s m args below meth c Q G x b n (cells + 37) (slots + 3131)) : W p l e room_1 s m args below meth c H locs cells slots Q (F0 m 939 ls []) := by
  have hx := X.1.1
  have hb := X.1.2.1
  obtain ⟨st, v, cC, cR⟩ := hs
  obtain ⟨hT, k0, k1, k2, hnx⟩ := id hK
  obtain ⟨av, S1, S2, e1, e2, hs2⟩ := l_two (cl := f_X11_ran x S (xs (n + 1))) (re := fun T => f_X12_ran (x + 100) T (xs (n + 1))) cR (fun T hT => s_ran v cC hT)
  refine lv_aload_n hx hb dL_law_939 rfl (lv_at hl 1 rfl) ?_
  refine lv_aload_n hx hb dL_law_940 rfl (lv_at hl 0 rfl) ?_
  refine lv_iload hx hb dL_law_941 (lv_at hl 4 rfl) ?_
  refine lv_iconst (v := (1 : Int32)) hx hb dL_law_943 (by decide) ?_
  refine lv_iadd hx hb dL_law_944 ?_
  refine ly_ld X hX hS (k := n + 1) (by omega) (nI_add n 1) dL_law_945 ?_
  refine n_cVi X hH hS (k := 11) (c_X11_ran (a := x) hT k0 e1) mw_X11_ran in_5_196 k0 (by decide) rfl rfl rfl ⟨rfl, rfl⟩ ⟨Nat.le_of_ble_eq_true rfl, Nat.le_of_ble_eq_true rfl⟩ ⟨Nat.le_trans (by omega) hcs.1, Nat.le_trans (by omega) hcs.2⟩ hl.1 (Nat.le_of_ble_eq_true rfl) dL_law_946 (fun H locs hH hS => ?_)
  refine lv_aload_n hx hb dL_law_949 rfl (lv_at hl 2 rfl) ?_
  refine lv_aload_n hx hb dL_law_950 rfl (lv_at hl 0 rfl) ?_
  refine lv_iload hx hb dL_law_951 (lv_at hl 4 rfl) ?_
  refine lv_iconst (v := (1 : Int32)) hx hb dL_law_953 (by decide) ?_
  refine lv_iadd hx hb dL_law_954 ?_
  refine ly_ld X hX hS (k := n + 1) (by omega) (nI_add n 1) dL_law_955 ?_
  refine n_cVi X hH hS (k := 12) (c_X12_ran (a := x + 100) hT k1 e2) mw_X12_ran in_9_44 k1 (by decide) rfl rfl rfl ⟨rfl, rfl⟩ ⟨Nat.le_of_ble_eq_true rfl, Nat.le_of_ble_eq_true rfl⟩ ⟨Nat.le_trans (by omega) hcs.1, Nat.le_trans (by omega) hcs.2⟩ hl.1 (Nat.le_of_ble_eq_true rfl) dL_law_956 (fun H locs hH hS => ?_)
  refine lv_icmp_eq (tgt := 1127) hx hb dL_law_959 (by decide) (fun _ => ?_) (fun q => absurd rfl q)
  refine W.widen (k := cells + 37) (n := slots + 3131) (by omega) (by omega) ?_
  exact kk _ _ _ _ _ _ hl hH hS hK hs2
set_option maxHeartbeats 4000000 in
set_option maxRecDepth 100000 in
theorem lc_24 (X : m_Cx p s m args meth c cL_law 7 RL G) (hN : m_N s) (hZ : x_Z G s s.heap) (hlt : l.stackTraces = false) (hX : l_X s G b L xs) (hH : m_H G nx κ S H) (hS : m_S G s H locs) (hl : lv_has ls 7 (l_lv b x n)) (hK : l_K x nx κ) (hs : l_S x S) (hn : n + 6 ≤ L) (hcs : cells + 37 ≤ 601024 ∧ slots + 3131 ≤ 7293034) (kk : l_Q p l e s m args below meth c Q G x b n (cells + 37) (slots + 3131)) : W p l e room_1 s m args below meth c H locs cells slots Q (F0 m 964 ls []) := by
  have hx := X.1.1
  have hb := X.1.2.1
  obtain ⟨st, v, cC, cR⟩ := hs
  obtain ⟨hT, k0, k1, k2, hnx⟩ := id hK
  obtain ⟨av, S1, S2, e1, e2, hs2⟩ := l_two (cl := f_X11_odds x S (xs (n + 1)) (xs (n + 2))) (re := fun T => f_X12_odds (x + 100) T (xs (n + 1)) (xs (n + 2))) cR (fun T hT => s_odds v cC hT)
  refine lv_aload_n hx hb dL_law_964 rfl (lv_at hl 1 rfl) ?_
  refine lv_aload_n hx hb dL_law_965 rfl (lv_at hl 0 rfl) ?_
  refine lv_iload hx hb dL_law_966 (lv_at hl 4 rfl) ?_
  refine lv_iconst (v := (1 : Int32)) hx hb dL_law_968 (by decide) ?_
  refine lv_iadd hx hb dL_law_969 ?_
  refine ly_ld X hX hS (k := n + 1) (by omega) (nI_add n 1) dL_law_970 ?_
  refine lv_aload_n hx hb dL_law_971 rfl (lv_at hl 0 rfl) ?_
  refine lv_iload hx hb dL_law_972 (lv_at hl 4 rfl) ?_
  refine lv_iconst (v := (2 : Int32)) hx hb dL_law_974 (by decide) ?_
  refine lv_iadd hx hb dL_law_975 ?_
  refine ly_ld X hX hS (k := n + 2) (by omega) (nI_add n 2) dL_law_976 ?_
  refine n_cVi X hH hS (k := 11) (c_X11_odds (a := x) hT k0 e1) mw_X11_odds in_5_200 k0 (by decide) rfl rfl rfl ⟨rfl, rfl⟩ ⟨Nat.le_of_ble_eq_true rfl, Nat.le_of_ble_eq_true rfl⟩ ⟨Nat.le_trans (by omega) hcs.1, Nat.le_trans (by omega) hcs.2⟩ hl.1 (Nat.le_of_ble_eq_true rfl) dL_law_977 (fun H locs hH hS => ?_)
  refine lv_aload_n hx hb dL_law_980 rfl (lv_at hl 2 rfl) ?_
  refine lv_aload_n hx hb dL_law_981 rfl (lv_at hl 0 rfl) ?_
  refine lv_iload hx hb dL_law_982 (lv_at hl 4 rfl) ?_
  refine lv_iconst (v := (1 : Int32)) hx hb dL_law_984 (by decide) ?_
  refine lv_iadd hx hb dL_law_985 ?_
  refine ly_ld X hX hS (k := n + 1) (by omega) (nI_add n 1) dL_law_986 ?_
  refine lv_aload_n hx hb dL_law_987 rfl (lv_at hl 0 rfl) ?_
  refine lv_iload hx hb dL_law_988 (lv_at hl 4 rfl) ?_
  refine lv_iconst (v := (2 : Int32)) hx hb dL_law_990 (by decide) ?_
  refine lv_iadd hx hb dL_law_991 ?_
  refine ly_ld X hX hS (k := n + 2) (by omega) (nI_add n 2) dL_law_992 ?_
  refine n_cVi X hH hS (k := 12) (c_X12_odds (a := x + 100) hT k1 e2) mw_X12_odds in_9_48 k1 (by decide) rfl rfl rfl ⟨rfl, rfl⟩ ⟨Nat.le_of_ble_eq_true rfl, Nat.le_of_ble_eq_true rfl⟩ ⟨Nat.le_trans (by omega) hcs.1, Nat.le_trans (by omega) hcs.2⟩ hl.1 (Nat.le_of_ble_eq_true rfl) dL_law_993 (fun H locs hH hS => ?_)
  refine lv_icmp_eq (tgt := 1127) hx hb dL_law_996 (by decide) (fun _ => ?_) (fun q => absurd rfl q)
  refine W.widen (k := cells + 37) (n := slots + 3131) (by omega) (by omega) ?_
  exact kk _ _ _ _ _ _ hl hH hS hK hs2
set_option maxHeartbeats 4000000 in
set_option maxRecDepth 100000 in
theorem lc_25 (X : m_Cx p s m args meth c cL_law 7 RL G) (hN : m_N s) (hZ : x_Z G s s.heap) (hlt : l.stackTraces = false) (hX : l_X s G b L xs) (hH : m_H G nx κ S H) (hS : m_S G s H locs) (hl : lv_has ls 7 (l_lv b x n)) (hK : l_K x nx κ) (hs : l_S x S) (hn : n + 6 ≤ L) (hcs : cells + 37 ≤ 601024 ∧ slots + 3131 ≤ 7293034) (kk : l_Q p l e s m args below meth c Q G x b n (cells + 37) (slots + 3131)) : W p l e room_1 s m args below meth c H locs cells slots Q (F0 m 1001 ls []) := by
  have hx := X.1.1
  have hb := X.1.2.1
  obtain ⟨st, v, cC, cR⟩ := hs
  obtain ⟨hT, k0, k1, k2, hnx⟩ := id hK
  obtain ⟨av, S1, S2, e1, e2, hs2⟩ := l_two (cl := f_X11_undo x S ) (re := fun T => f_X12_undo (x + 100) T ) cR (fun T hT => s_undo v cC hT)
  refine lv_aload_n hx hb dL_law_1001 rfl (lv_at hl 1 rfl) ?_
  refine n_cVi X hH hS (k := 11) (c_X11_undo (a := x) hT k0 e1) mw_X11_undo in_5_209 k0 (by decide) rfl rfl rfl ⟨rfl, rfl⟩ ⟨Nat.le_of_ble_eq_true rfl, Nat.le_of_ble_eq_true rfl⟩ ⟨Nat.le_trans (by omega) hcs.1, Nat.le_trans (by omega) hcs.2⟩ hl.1 (Nat.le_of_ble_eq_true rfl) dL_law_1002 (fun H locs hH hS => ?_)
  refine lv_aload_n hx hb dL_law_1005 rfl (lv_at hl 2 rfl) ?_
  refine n_cVi X hH hS (k := 12) (c_X12_undo (a := x + 100) hT k1 e2) mw_X12_undo in_8_100 k1 (by decide) rfl rfl rfl ⟨rfl, rfl⟩ ⟨Nat.le_of_ble_eq_true rfl, Nat.le_of_ble_eq_true rfl⟩ ⟨Nat.le_trans (by omega) hcs.1, Nat.le_trans (by omega) hcs.2⟩ hl.1 (Nat.le_of_ble_eq_true rfl) dL_law_1006 (fun H locs hH hS => ?_)
  refine lv_icmp_eq (tgt := 1127) hx hb dL_law_1009 (by decide) (fun _ => ?_) (fun q => absurd rfl q)
  refine W.widen (k := cells + 37) (n := slots + 3131) (by omega) (by omega) ?_
  exact kk _ _ _ _ _ _ hl hH hS hK hs2
set_option maxHeartbeats 4000000 in
set_option maxRecDepth 100000 in
theorem lc_26 (X : m_Cx p s m args meth c cL_law 7 RL G) (hN : m_N s) (hZ : x_Z G s s.heap) (hlt : l.stackTraces = false) (hX : l_X s G b L xs) (hH : m_H G nx κ S H) (hS : m_S G s H locs) (hl : lv_has ls 7 (l_lv b x n)) (hK : l_K x nx κ) (hs : l_S x S) (hn : n + 6 ≤ L) (hcs : cells + 37 ≤ 601024 ∧ slots + 3131 ≤ 7293034) (kk : l_Q p l e s m args below meth c Q G x b n (cells + 37) (slots + 3131)) : W p l e room_1 s m args below meth c H locs cells slots Q (F0 m 1014 ls []) := by
  have hx := X.1.1
  have hb := X.1.2.1
  obtain ⟨st, v, cC, cR⟩ := hs
  obtain ⟨hT, k0, k1, k2, hnx⟩ := id hK
  obtain ⟨av, S1, S2, e1, e2, hs2⟩ := l_two (cl := f_X11_sentence x S ) (re := fun T => f_X12_sentence (x + 100) T ) cR (fun T hT => s_sentence v cC hT)
  refine lv_aload_n hx hb dL_law_1014 rfl (lv_at hl 1 rfl) ?_
  refine n_cVi X hH hS (k := 11) (c_X11_sentence (a := x) hT k0 e1) mw_X11_sentence in_5_217 k0 (by decide) rfl rfl rfl ⟨rfl, rfl⟩ ⟨Nat.le_of_ble_eq_true rfl, Nat.le_of_ble_eq_true rfl⟩ ⟨Nat.le_trans (by omega) hcs.1, Nat.le_trans (by omega) hcs.2⟩ hl.1 (Nat.le_of_ble_eq_true rfl) dL_law_1015 (fun H locs hH hS => ?_)
  refine lv_aload_n hx hb dL_law_1018 rfl (lv_at hl 2 rfl) ?_
  refine n_cVi X hH hS (k := 12) (c_X12_sentence (a := x + 100) hT k1 e2) mw_X12_sentence in_9_61 k1 (by decide) rfl rfl rfl ⟨rfl, rfl⟩ ⟨Nat.le_of_ble_eq_true rfl, Nat.le_of_ble_eq_true rfl⟩ ⟨Nat.le_trans (by omega) hcs.1, Nat.le_trans (by omega) hcs.2⟩ hl.1 (Nat.le_of_ble_eq_true rfl) dL_law_1019 (fun H locs hH hS => ?_)
  refine lv_icmp_eq (tgt := 1127) hx hb dL_law_1022 (by decide) (fun _ => ?_) (fun q => absurd rfl q)
  refine W.widen (k := cells + 37) (n := slots + 3131) (by omega) (by omega) ?_
  exact kk _ _ _ _ _ _ hl hH hS hK hs2
set_option maxHeartbeats 4000000 in
set_option maxRecDepth 100000 in
theorem lc_27 (X : m_Cx p s m args meth c cL_law 7 RL G) (hN : m_N s) (hZ : x_Z G s s.heap) (hlt : l.stackTraces = false) (hX : l_X s G b L xs) (hH : m_H G nx κ S H) (hS : m_S G s H locs) (hl : lv_has ls 7 (l_lv b x n)) (hK : l_K x nx κ) (hs : l_S x S) (hn : n + 6 ≤ L) (hcs : cells + 37 ≤ 601024 ∧ slots + 3131 ≤ 7293034) (kk : l_Q p l e s m args below meth c Q G x b n (cells + 37) (slots + 3131)) : W p l e room_1 s m args below meth c H locs cells slots Q (F0 m 1027 ls []) := by
  have hx := X.1.1
  have hb := X.1.2.1
  obtain ⟨st, v, cC, cR⟩ := hs
  obtain ⟨hT, k0, k1, k2, hnx⟩ := id hK
  obtain ⟨av, S1, S2, e1, e2, hs2⟩ := l_two (cl := f_X11_said x S (xs (n + 1))) (re := fun T => f_X12_said (x + 100) T (xs (n + 1))) cR (fun T hT => s_said v cC hT)
  refine lv_aload_n hx hb dL_law_1027 rfl (lv_at hl 1 rfl) ?_
  refine lv_aload_n hx hb dL_law_1028 rfl (lv_at hl 0 rfl) ?_
  refine lv_iload hx hb dL_law_1029 (lv_at hl 4 rfl) ?_
  refine lv_iconst (v := (1 : Int32)) hx hb dL_law_1031 (by decide) ?_
  refine lv_iadd hx hb dL_law_1032 ?_
  refine ly_ld X hX hS (k := n + 1) (by omega) (nI_add n 1) dL_law_1033 ?_
  refine n_cVi X hH hS (k := 11) (c_X11_said (a := x) hT k0 e1) mw_X11_said in_6_20 k0 (by decide) rfl rfl rfl ⟨rfl, rfl⟩ ⟨Nat.le_of_ble_eq_true rfl, Nat.le_of_ble_eq_true rfl⟩ ⟨Nat.le_trans (by omega) hcs.1, Nat.le_trans (by omega) hcs.2⟩ hl.1 (Nat.le_of_ble_eq_true rfl) dL_law_1034 (fun H locs hH hS => ?_)
  refine lv_aload_n hx hb dL_law_1037 rfl (lv_at hl 2 rfl) ?_
  refine lv_aload_n hx hb dL_law_1038 rfl (lv_at hl 0 rfl) ?_
  refine lv_iload hx hb dL_law_1039 (lv_at hl 4 rfl) ?_
  refine lv_iconst (v := (1 : Int32)) hx hb dL_law_1041 (by decide) ?_
  refine lv_iadd hx hb dL_law_1042 ?_
  refine ly_ld X hX hS (k := n + 1) (by omega) (nI_add n 1) dL_law_1043 ?_
  refine n_cVi X hH hS (k := 12) (c_X12_said (a := x + 100) hT k1 e2) mw_X12_said in_9_105 k1 (by decide) rfl rfl rfl ⟨rfl, rfl⟩ ⟨Nat.le_of_ble_eq_true rfl, Nat.le_of_ble_eq_true rfl⟩ ⟨Nat.le_trans (by omega) hcs.1, Nat.le_trans (by omega) hcs.2⟩ hl.1 (Nat.le_of_ble_eq_true rfl) dL_law_1044 (fun H locs hH hS => ?_)
  refine lv_icmp_eq (tgt := 1127) hx hb dL_law_1047 (by decide) (fun _ => ?_) (fun q => absurd rfl q)
  refine W.widen (k := cells + 37) (n := slots + 3131) (by omega) (by omega) ?_
  exact kk _ _ _ _ _ _ hl hH hS hK hs2
set_option maxHeartbeats 4000000 in
set_option maxRecDepth 100000 in
theorem lc_28 (X : m_Cx p s m args meth c cL_law 7 RL G) (hN : m_N s) (hZ : x_Z G s s.heap) (hlt : l.stackTraces = false) (hX : l_X s G b L xs) (hH : m_H G nx κ S H) (hS : m_S G s H locs) (hl : lv_has ls 7 (l_lv b x n)) (hK : l_K x nx κ) (hs : l_S x S) (hn : n + 6 ≤ L) (hcs : cells + 37 ≤ 601024 ∧ slots + 3131 ≤ 7293034) (kk : l_Q p l e s m args below meth c Q G x b n (cells + 37) (slots + 3131)) : W p l e room_1 s m args below meth c H locs cells slots Q (F0 m 1052 ls []) := by
  have hx := X.1.1
  have hb := X.1.2.1
  obtain ⟨st, v, cC, cR⟩ := hs
  obtain ⟨hT, k0, k1, k2, hnx⟩ := id hK
  obtain ⟨av, S1, S2, e1, e2, hs2⟩ := l_two (cl := f_X11_image nx x S (xs (n + 1))) (re := fun T => f_X12_image (x + 100) T (xs (n + 1))) cR (fun T hT => s_image v cC hT (l_hB hK hH))
  refine lv_aload_n hx hb dL_law_1052 rfl (lv_at hl 1 rfl) ?_
  refine lv_aload_n hx hb dL_law_1053 rfl (lv_at hl 0 rfl) ?_
  refine lv_iload hx hb dL_law_1054 (lv_at hl 4 rfl) ?_
  refine lv_iconst (v := (1 : Int32)) hx hb dL_law_1056 (by decide) ?_
  refine lv_iadd hx hb dL_law_1057 ?_
  refine ly_ld X hX hS (k := n + 1) (by omega) (nI_add n 1) dL_law_1058 ?_
  refine n_cAi X hN hH hS (k := 11) (c_X11_image (a := x) hT k0 e1) mw_X11_image in_6_39 k0 (by decide) rfl rfl rfl ⟨rfl, rfl⟩ ⟨Nat.le_of_ble_eq_true rfl, Nat.le_of_ble_eq_true rfl⟩ ⟨Nat.le_trans (by omega) hcs.1, Nat.le_trans (by omega) hcs.2⟩ hl.1 (Nat.le_of_ble_eq_true rfl) dL_law_1059 (fun H locs nx1 κ1 hle hq hT1 hH hS => ?_)
  have hK1 := hK.up hT1 hle hq
  obtain ⟨-, k01, k11, k21, hnx1⟩ := id hK1
  refine lv_aload_n hx hb dL_law_1062 rfl (lv_at hl 2 rfl) ?_
  refine lv_aload_n hx hb dL_law_1063 rfl (lv_at hl 0 rfl) ?_
  refine lv_iload hx hb dL_law_1064 (lv_at hl 4 rfl) ?_
  refine lv_iconst (v := (1 : Int32)) hx hb dL_law_1066 (by decide) ?_
  refine lv_iadd hx hb dL_law_1067 ?_
  refine ly_ld X hX hS (k := n + 1) (by omega) (nI_add n 1) dL_law_1068 ?_
  refine n_cVi X hH hS (k := 12) (c_X12_image (a := x + 100) hT1 k11 e2) mw_X12_image in_9_113 k11 (by decide) rfl rfl rfl ⟨rfl, rfl⟩ ⟨Nat.le_of_ble_eq_true rfl, Nat.le_of_ble_eq_true rfl⟩ ⟨Nat.le_trans (by omega) hcs.1, Nat.le_trans (by omega) hcs.2⟩ hl.1 (Nat.le_of_ble_eq_true rfl) dL_law_1069 (fun H locs hH hS => ?_)
  refine lv_icmp_eq (tgt := 1127) hx hb dL_law_1072 (by decide) (fun _ => ?_) (fun q => absurd rfl q)
  refine W.widen (k := cells + 37) (n := slots + 3131) (by omega) (by omega) ?_
  exact kk _ _ _ _ _ _ hl hH hS hK1 hs2
set_option maxHeartbeats 4000000 in
set_option maxRecDepth 100000 in
theorem lc_29 (X : m_Cx p s m args meth c cL_law 7 RL G) (hN : m_N s) (hZ : x_Z G s s.heap) (hlt : l.stackTraces = false) (hX : l_X s G b L xs) (hH : m_H G nx κ S H) (hS : m_S G s H locs) (hl : lv_has ls 7 (l_lv b x n)) (hK : l_K x nx κ) (hs : l_S x S) (hn : n + 6 ≤ L) (hcs : cells + 37 ≤ 601024 ∧ slots + 3131 ≤ 7293034) (kk : l_Q p l e s m args below meth c Q G x b n (cells + 37) (slots + 3131)) : W p l e room_1 s m args below meth c H locs cells slots Q (F0 m 1077 ls []) := by
  have hx := X.1.1
  have hb := X.1.2.1
  obtain ⟨st, v, cC, cR⟩ := hs
  obtain ⟨hT, k0, k1, k2, hnx⟩ := id hK
  obtain ⟨av, S1, S2, e1, e2, hs2⟩ := l_two (cl := f_X11_restore x S (xs (n + 1))) (re := fun T => f_X12_restore (x + 100) T (xs (n + 1))) cR (fun T hT => s_restore v cC hT)
  refine lv_aload_n hx hb dL_law_1077 rfl (lv_at hl 1 rfl) ?_
  refine lv_aload_n hx hb dL_law_1078 rfl (lv_at hl 0 rfl) ?_
  refine lv_iload hx hb dL_law_1079 (lv_at hl 4 rfl) ?_
  refine lv_iconst (v := (1 : Int32)) hx hb dL_law_1081 (by decide) ?_
  refine lv_iadd hx hb dL_law_1082 ?_
  refine ly_ld X hX hS (k := n + 1) (by omega) (nI_add n 1) dL_law_1083 ?_
  refine n_cVi X hH hS (k := 11) (c_X11_restore (a := x) hT k0 e1) mw_X11_restore in_6_50 k0 (by decide) rfl rfl rfl ⟨rfl, rfl⟩ ⟨Nat.le_of_ble_eq_true rfl, Nat.le_of_ble_eq_true rfl⟩ ⟨Nat.le_trans (by omega) hcs.1, Nat.le_trans (by omega) hcs.2⟩ hl.1 (Nat.le_of_ble_eq_true rfl) dL_law_1084 (fun H locs hH hS => ?_)
  refine lv_aload_n hx hb dL_law_1087 rfl (lv_at hl 2 rfl) ?_
  refine lv_aload_n hx hb dL_law_1088 rfl (lv_at hl 0 rfl) ?_
  refine lv_iload hx hb dL_law_1089 (lv_at hl 4 rfl) ?_
  refine lv_iconst (v := (1 : Int32)) hx hb dL_law_1091 (by decide) ?_
  refine lv_iadd hx hb dL_law_1092 ?_
  refine ly_ld X hX hS (k := n + 1) (by omega) (nI_add n 1) dL_law_1093 ?_
  refine n_cVi X hH hS (k := 12) (c_X12_restore (a := x + 100) hT k1 e2) mw_X12_restore in_9_117 k1 (by decide) rfl rfl rfl ⟨rfl, rfl⟩ ⟨Nat.le_of_ble_eq_true rfl, Nat.le_of_ble_eq_true rfl⟩ ⟨Nat.le_trans (by omega) hcs.1, Nat.le_trans (by omega) hcs.2⟩ hl.1 (Nat.le_of_ble_eq_true rfl) dL_law_1094 (fun H locs hH hS => ?_)
  refine lv_icmp_eq (tgt := 1127) hx hb dL_law_1097 (by decide) (fun _ => ?_) (fun q => absurd rfl q)
  refine W.widen (k := cells + 37) (n := slots + 3131) (by omega) (by omega) ?_
  exact kk _ _ _ _ _ _ hl hH hS hK hs2
set_option maxHeartbeats 4000000 in
set_option maxRecDepth 100000 in
theorem lc_30 (X : m_Cx p s m args meth c cL_law 7 RL G) (hN : m_N s) (hZ : x_Z G s s.heap) (hlt : l.stackTraces = false) (hX : l_X s G b L xs) (hH : m_H G nx κ S H) (hS : m_S G s H locs) (hl : lv_has ls 7 (l_lv b x n)) (hK : l_K x nx κ) (hs : l_S x S) (hn : n + 6 ≤ L) (hcs : cells + 37 ≤ 601024 ∧ slots + 3131 ≤ 7293034) (kk : l_Q p l e s m args below meth c Q G x b n (cells + 37) (slots + 3131)) : W p l e room_1 s m args below meth c H locs cells slots Q (F0 m 1102 ls []) := by
  have hx := X.1.1
  have hb := X.1.2.1
  obtain ⟨st, v, cC, cR⟩ := hs
  obtain ⟨hT, k0, k1, k2, hnx⟩ := id hK
  obtain ⟨av, S1, S2, e1, e2, hs2⟩ := l_two (cl := f_X11_count x S (xs (n + 1))) (re := fun T => f_X12_count (x + 100) T (xs (n + 1))) cR (fun T hT => s_count v cC hT)
  refine lv_aload_n hx hb dL_law_1102 rfl (lv_at hl 1 rfl) ?_
  refine lv_aload_n hx hb dL_law_1103 rfl (lv_at hl 0 rfl) ?_
  refine lv_iload hx hb dL_law_1104 (lv_at hl 4 rfl) ?_
  refine lv_iconst (v := (1 : Int32)) hx hb dL_law_1106 (by decide) ?_
  refine lv_iadd hx hb dL_law_1107 ?_
  refine ly_ld X hX hS (k := n + 1) (by omega) (nI_add n 1) dL_law_1108 ?_
  refine n_cVi X hH hS (k := 11) (c_X11_count (a := x) hT k0 e1) mw_X11_count in_6_54 k0 (by decide) rfl rfl rfl ⟨rfl, rfl⟩ ⟨Nat.le_of_ble_eq_true rfl, Nat.le_of_ble_eq_true rfl⟩ ⟨Nat.le_trans (by omega) hcs.1, Nat.le_trans (by omega) hcs.2⟩ hl.1 (Nat.le_of_ble_eq_true rfl) dL_law_1109 (fun H locs hH hS => ?_)
  refine lv_aload_n hx hb dL_law_1112 rfl (lv_at hl 2 rfl) ?_
  refine lv_aload_n hx hb dL_law_1113 rfl (lv_at hl 0 rfl) ?_
  refine lv_iload hx hb dL_law_1114 (lv_at hl 4 rfl) ?_
  refine lv_iconst (v := (1 : Int32)) hx hb dL_law_1116 (by decide) ?_
  refine lv_iadd hx hb dL_law_1117 ?_
  refine ly_ld X hX hS (k := n + 1) (by omega) (nI_add n 1) dL_law_1118 ?_
  refine n_cVi X hH hS (k := 12) (c_X12_count (a := x + 100) hT k1 e2) mw_X12_count in_9_121 k1 (by decide) rfl rfl rfl ⟨rfl, rfl⟩ ⟨Nat.le_of_ble_eq_true rfl, Nat.le_of_ble_eq_true rfl⟩ ⟨Nat.le_trans (by omega) hcs.1, Nat.le_trans (by omega) hcs.2⟩ hl.1 (Nat.le_of_ble_eq_true rfl) dL_law_1119 (fun H locs hH hS => ?_)
  refine lv_icmp_eq (tgt := 1127) hx hb dL_law_1122 (by decide) (fun _ => ?_) (fun q => absurd rfl q)
  refine W.widen (k := cells + 37) (n := slots + 3131) (by omega) (by omega) ?_
  exact kk _ _ _ _ _ _ hl hH hS hK hs2
end LW
