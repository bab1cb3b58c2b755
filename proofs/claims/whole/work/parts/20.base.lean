/-- of each class, of each slot: 0 an int, 1 a long, 2 a reference to the cell so far behind, ahead of the object -/
def m_tab0 : List (Nat × Nat × Nat) := [(2, 1, 0), (0, 0, 0), (0, 0, 0)]
def m_tab1 : List (Nat × Nat × Nat) := [(2, 1, 0), (2, 2, 0), (0, 0, 0)]
def m_tab2 : List (Nat × Nat × Nat) := [(0, 0, 0), (0, 0, 0), (0, 0, 0), (0, 0, 0), (0, 0, 0), (0, 0, 0), (0, 0, 0), (0, 0, 0), (0, 0, 0), (0, 0, 0), (0, 0, 0), (0, 0, 0), (2, 1, 0), (2, 2, 0), (2, 3, 0), (2, 4, 0), (2, 5, 0), (2, 6, 0), (2, 7, 0), (2, 8, 0)]
def m_tab3 : List (Nat × Nat × Nat) := [(0, 0, 0), (0, 0, 0), (2, 1, 0), (2, 2, 0), (2, 3, 0), (2, 4, 0), (2, 5, 0), (2, 6, 0), (2, 7, 0), (2, 8, 0)]
def m_tab4 : List (Nat × Nat × Nat) := [(2, 1, 0), (2, 23, 0), (2, 28, 0), (0, 0, 0)]
def m_tab5 : List (Nat × Nat × Nat) := [(2, 1, 0), (2, 2, 0), (2, 3, 0), (2, 4, 0), (0, 0, 0)]
def m_tab6 : List (Nat × Nat × Nat) := [(0, 0, 0), (0, 0, 0), (2, 1, 0), (2, 2, 0), (2, 3, 0), (2, 4, 0), (2, 5, 0), (2, 6, 0), (2, 7, 0), (2, 8, 0), (2, 9, 0), (2, 10, 0), (2, 11, 0), (2, 12, 0), (2, 13, 0)]
def m_tab7 : List (Nat × Nat × Nat) := [(0, 0, 0), (0, 0, 0), (0, 0, 0), (2, 1, 0), (2, 2, 0), (2, 3, 0), (2, 4, 0)]
def m_tab8 : List (Nat × Nat × Nat) := [(2, 1, 0), (2, 6, 0)]
def m_tab9 : List (Nat × Nat × Nat) := [(0, 0, 0), (2, 1, 0), (2, 2, 0), (2, 3, 0), (2, 4, 0), (0, 0, 0), (0, 0, 0), (0, 0, 0), (0, 0, 0), (0, 0, 0), (0, 0, 0), (0, 0, 0), (0, 0, 0), (0, 0, 0), (1, 0, 0), (0, 0, 0), (0, 0, 0)]
def m_tab10 : List (Nat × Nat × Nat) := [(2, 1, 0), (2, 23, 0), (2, 32, 0)]
def m_tab11 : List (Nat × Nat × Nat) := [(2, 1, 0), (0, 0, 0), (2, 2, 0), (2, 31, 0), (2, 42, 0), (0, 0, 0), (2, 47, 0), (2, 84, 0), (2, 93, 0), (2, 96, 0), (2, 98, 0), (2, 99, 0), (0, 0, 0)]
def m_tab12 : List (Nat × Nat × Nat) := [(0, 0, 0), (2, 1, 0), (0, 0, 0), (0, 0, 0), (0, 0, 0), (0, 0, 0), (0, 0, 0), (0, 0, 0), (0, 0, 0), (0, 0, 0), (0, 0, 0), (0, 0, 0), (1, 0, 0), (0, 0, 0), (2, 2, 0), (2, 3, 0), (2, 4, 0), (2, 5, 0), (2, 6, 0), (2, 7, 0), (2, 8, 0), (2, 9, 0), (2, 10, 0), (2, 11, 0), (0, 0, 0), (2, 12, 0), (2, 13, 0), (2, 14, 0), (2, 15, 0), (2, 16, 0), (2, 17, 0), (2, 18, 0), (2, 19, 0), (2, 20, 0), (2, 21, 0), (2, 22, 0), (0, 0, 0), (2, 23, 0), (2, 24, 0), (2, 25, 0), (2, 26, 0), (0, 0, 0), (2, 27, 0), (2, 28, 0), (0, 0, 0), (0, 0, 0), (2, 29, 0), (0, 0, 0), (0, 0, 0), (0, 0, 0), (0, 0, 0)]
def m_tab (k : Nat) : List (Nat × Nat × Nat) := match k with
  | 0 => m_tab0
  | 1 => m_tab1
  | 2 => m_tab2
  | 3 => m_tab3
  | 4 => m_tab4
  | 5 => m_tab5
  | 6 => m_tab6
  | 7 => m_tab7
  | 8 => m_tab8
  | 9 => m_tab9
  | 10 => m_tab10
  | 11 => m_tab11
  | 12 => m_tab12
  | _ => []
/-- the order in which a constructor sets the references -/
def m_ord (k : Nat) : List Nat := match k with
  | 0 => [0]
  | 1 => [0, 1]
  | 2 => [12, 13, 14, 15, 16, 17, 18, 19]
  | 3 => [2, 3, 4, 5, 6, 7, 8, 9]
  | 4 => [0, 1, 2]
  | 5 => [0, 1, 2, 3]
  | 6 => [2, 3, 4, 5, 6, 7, 8, 9, 10, 11, 12, 13, 14]
  | 7 => [3, 4, 5, 6]
  | 8 => [0, 1]
  | 9 => [1, 2, 3, 4]
  | 10 => [0, 1, 2]
  | 11 => [0, 2, 3, 4, 6, 7, 8, 9, 10, 11]
  | 12 => [1, 14, 15, 16, 17, 18, 19, 20, 21, 22, 23, 25, 26, 27, 28, 29, 30, 31, 32, 33, 34, 35, 37, 38, 39, 40, 42, 43, 46]
  | _ => []
/-- of each class: the cells that lie one behind another from the object on -/
def m_lay1 : List Nat := [1, 168]
def m_lay2 : List Nat := [2, 1703, 1701]
def m_lay3 : List Nat := [3, 205, 205, 2909, 2909, 2597, 1701, 3301, 3301]
def m_lay4 : List Nat := [4, 142, 141, 141, 141, 293, 293, 1061, 7, 1181, 1181, 293, 293, 293, 293, 293, 141, 141, 1061, 1061, 293, 293]
def m_lay5 : List Nat := [5, 4, 142, 141, 141, 141, 293, 293, 1061, 7, 1181, 1181, 293, 293, 293, 293, 293, 141, 141, 1061, 1061, 293, 293, 10, 278, 7309, 7309, 7310, 318]
def m_lay6 : List Nat := [6, 1565, 1565, 1565, 1565]
def m_lay7 : List Nat := [7, 1181, 1181, 293, 293, 293, 293, 293, 141, 141, 1061, 1061, 293, 293]
def m_lay8 : List Nat := [8, 421, 421, 421, 423]
def m_lay9 : List Nat := [9, 8, 421, 421, 421, 423, 10, 278, 1709, 1709, 1710]
def m_lay10 : List Nat := [10, 278]
def m_lay11 : List Nat := [11, 4, 142, 141, 141, 141, 293, 293, 1061, 7, 1181, 1181, 293, 293, 293, 293, 293, 141, 141, 1061, 1061, 293, 293, 3, 205, 205, 2909, 2909, 2597, 1701, 3301, 3301, 8, 421, 421, 421, 423]
def m_lay12 : List Nat := [12, 7620, 5, 4, 142, 141, 141, 141, 293, 293, 1061, 7, 1181, 1181, 293, 293, 293, 293, 293, 141, 141, 1061, 1061, 293, 293, 10, 278, 7309, 7309, 7310, 318, 9, 8, 421, 421, 421, 423, 10, 278, 1709, 1709, 1710, 6, 1565, 1565, 1565, 1565, 11, 4, 142, 141, 141, 141, 293, 293, 1061, 7, 1181, 1181, 293, 293, 293, 293, 293, 141, 141, 1061, 1061, 293, 293, 3, 205, 205, 2909, 2909, 2597, 1701, 3301, 3301, 8, 421, 421, 421, 423, 3, 205, 205, 2909, 2909, 2597, 1701, 3301, 3301, 2, 1703, 1701, 1, 168, 121, 165]
def m_lay13 : List Nat := [13, 7621, 21277, 1781, 42453, 140581, 17661, 142, 142, 182, 1182, 119, 1565, 1565, 293, 1181, 1181, 485, 141, 141, 1061, 1061, 293, 125, 125, 1703, 1701, 165, 125, 2021]
def m_lay (k : Nat) : List Nat := match k with
  | 1 => m_lay1
  | 2 => m_lay2
  | 3 => m_lay3
  | 4 => m_lay4
  | 5 => m_lay5
  | 6 => m_lay6
  | 7 => m_lay7
  | 8 => m_lay8
  | 9 => m_lay9
  | 10 => m_lay10
  | 11 => m_lay11
  | 12 => m_lay12
  | 13 => m_lay13
  | _ => []
/-! THE MEMORY: what each cell holds, by its address; ints (fields by their slots, elements by their places), longs, references -/
abbrev m_M : Type := (Nat → Nat → Int32) × (Nat → Nat → Int64) × (Nat → Nat → Option Nat)
def m_ri (S : m_M) : Nat → Nat → Int32 := S.1
def m_rj (S : m_M) : Nat → Nat → Int64 := S.2.1
def m_rr (S : m_M) : Nat → Nat → Option Nat := S.2.2
def m_si (S : m_M) (q i : Nat) (v : Int32) : m_M := (va_up S.1 q (va_up (S.1 q) i v), S.2.1, S.2.2)
def m_sj (S : m_M) (q i : Nat) (v : Int64) : m_M := (S.1, va_up S.2.1 q (va_up (S.2.1 q) i v), S.2.2)
def m_sr (S : m_M) (q i : Nat) (v : Option Nat) : m_M := (S.1, S.2.1, va_up S.2.2 q (va_up (S.2.2 q) i v))
def m_new (S : m_M) (q : Nat) : m_M := (va_up S.1 q (fun _ => 0), va_up S.2.1 q (fun _ => 0), va_up S.2.2 q (fun _ => none))
/-- a row copied whole into the place of another's -/
def m_ci (S : m_M) (q : Nat) (f : Nat → Int32) : m_M := (va_up S.1 q f, S.2.1, S.2.2)
def m_cj (S : m_M) (q : Nat) (f : Nat → Int64) : m_M := (S.1, va_up S.2.1 q f, S.2.2)
/-- what stays: the classes' numbers and slots, the array classes, the first address that is ours -/
abbrev m_G : Type := va_G × (Nat → ClassId) × Nat
/-- an array's code: 0 byte, 1 int, 2 long, 3 boolean, 4 Machine, 5 Whole, and its length -/
def m_ac (t n : Nat) : Nat := 100 + 8 * n + t
def m_ek (t : Nat) : Nat := if t = 4 then 3 else 11
def m_ov (S : m_M) (a k j : Nat) : Value := match ((m_tab k).getD j (0, 0, 0)).1 with
  | 0 => .int (m_ri S a j)
  | 1 => .long (m_rj S a j)
  | _ => .ref (a + ((m_tab k).getD j (0, 0, 0)).2.1 - ((m_tab k).getD j (0, 0, 0)).2.2)
/-- of an object that is being made: its first i references (in the order m_ord) are set, the others null -/
def m_ow (S : m_M) (a k i j : Nat) : Value := match ((m_tab k).getD j (0, 0, 0)).1 with
  | 0 => .int (m_ri S a j)
  | 1 => .long (m_rj S a j)
  | _ => if ((m_ord k).take i).contains j then .ref (a + ((m_tab k).getD j (0, 0, 0)).2.1 - ((m_tab k).getD j (0, 0, 0)).2.2) else .null
def m_H (G : m_G) (nx : Nat) (κ : Nat → Nat) (S : m_M) (H : Heap) : Prop :=
  H.size = nx ∧ (G.2.2 ≤ nx ∧ ∀ q, κ q ≠ 0 → G.2.2 ≤ q ∧ q < nx) ∧
  (∀ q k, κ q = k + 1 → k < 13 → ∃ r, vwCl[k]? = some r ∧ t_OB q (G.1.1 k) r.2.2 (G.1.2 k) H (m_ov S q k)) ∧
  (∀ q k i, κ q = m_ac 7 (100 * k + i) → k < 13 → i < 100 → ∃ r, vwCl[k]? = some r ∧ t_OB q (G.1.1 k) r.2.2 (G.1.2 k) H (m_ow S q k i)) ∧
  (∀ q t n, κ q = m_ac t n → (t < 2 ∨ t = 3) → H[q]? = some (arrV (G.2.1 t) n (fun i => .int (m_ri S q i)))) ∧
  (∀ q n, κ q = m_ac 2 n → H[q]? = some (arrV (G.2.1 2) n (fun i => .long (m_rj S q i)))) ∧
  (∀ q t n, κ q = m_ac t n → (t = 4 ∨ t = 5) → H[q]? = some (arrV (G.2.1 t) n (fun i => va_rf (m_rr S q i))) ∧ ∀ i b, m_rr S q i = some b → κ b = m_ek t)
def m_Str (κ : Nat → Nat) : Prop := ∀ a k, κ a = k → k < 14 → ∀ i c, (m_lay k)[i]? = some c → κ (a + i) = c
def m_tys (cy : Nat → ClassId) : List (ClassId × FieldType) := [(cy 0, .byte), (cy 1, .int), (cy 2, .long), (cy 3, .boolean), (cy 4, .object "RegionRooms$Machine"), (cy 5, .object "RegionRooms$Whole")]
def m_ge (b : Nat) : Nat → Prop := fun q => b ≤ q
def m_Wd (G : m_G) (nx : Nat) (κ : Nat → Nat) (S : m_M) (U : State) : Prop := m_H G nx κ S U.heap ∧ va_K G.1 vwCl (m_tys G.2.1) U
/-! the words -/
def m_gW : List Cond := lw_tbl.filter goodWord
theorem m_in {w : Cond} (h : w ∈ lw_tbl) (hg : goodWord w = true) : w ∈ m_gW := List.mem_filter.mpr ⟨h, hg⟩
theorem m_t {w : Cond} (h : w ∈ tables_1) (hg : goodWord w = true) : w ∈ m_gW := m_in (List.mem_append_right _ h) hg
def m_ws (y : MethodName) (b : ByteArray) (n : Nat) (r : Option FieldType) : List Cond := .code y b n r :: m_gW
theorem m_good {y : MethodName} {b : ByteArray} {n : Nat} {r : Option FieldType} (h : Cond.code y b n r ∈ m_gW) : GoodIn m_gW (m_ws y b n r) := by
  intro w hw
  rcases List.mem_cons.mp hw with rfl | hw
  · exact ⟨h, Or.inl rfl⟩
  · exact ⟨hw, good_of_word (List.mem_filter.mp hw).2⟩
/-! what a step does to the memory -/
theorem m_ov_other {S S' : m_M} {a k : Nat} (h1 : m_ri S' a = m_ri S a) (h2 : m_rj S' a = m_rj S a) : m_ov S' a k = m_ov S a k := by
  funext j; simp only [m_ov, h1, h2]
theorem m_ow_other {S S' : m_M} {a k i : Nat} (h1 : m_ri S' a = m_ri S a) (h2 : m_rj S' a = m_rj S a) : m_ow S' a k i = m_ow S a k i := by
  funext j; simp only [m_ow, h1, h2]
theorem m_ac_inj {t n t' n' : Nat} (ht : t < 8) (ht' : t' < 8) (h : m_ac t n = m_ac t' n') : t = t' ∧ n = n' := by
  simp only [m_ac] at h; omega
/-- one cell is written: the others' clauses stay -/
theorem m_H.one {G : m_G} {nx : Nat} {κ : Nat → Nat} {S S' : m_M} {H H' : Heap} {a : Nat} (h : m_H G nx κ S H) (hz : H'.size = H.size) (ho : ∀ q, q ≠ a → H'[q]? = H[q]?)
    (e1 : ∀ q, q ≠ a → m_ri S' q = m_ri S q) (e2 : ∀ q, q ≠ a → m_rj S' q = m_rj S q) (e3 : ∀ q, q ≠ a → m_rr S' q = m_rr S q)
    (c1 : ∀ k, κ a = k + 1 → k < 13 → ∃ r, vwCl[k]? = some r ∧ t_OB a (G.1.1 k) r.2.2 (G.1.2 k) H' (m_ov S' a k))
    (c2 : ∀ k i, κ a = m_ac 7 (100 * k + i) → k < 13 → i < 100 → ∃ r, vwCl[k]? = some r ∧ t_OB a (G.1.1 k) r.2.2 (G.1.2 k) H' (m_ow S' a k i))
    (c3 : ∀ t n, κ a = m_ac t n → (t < 2 ∨ t = 3) → H'[a]? = some (arrV (G.2.1 t) n (fun i => .int (m_ri S' a i))))
    (c4 : ∀ n, κ a = m_ac 2 n → H'[a]? = some (arrV (G.2.1 2) n (fun i => .long (m_rj S' a i))))
    (c5 : ∀ t n, κ a = m_ac t n → (t = 4 ∨ t = 5) → H'[a]? = some (arrV (G.2.1 t) n (fun i => va_rf (m_rr S' a i))) ∧ ∀ i b, m_rr S' a i = some b → κ b = m_ek t) : m_H G nx κ S' H' := by
  obtain ⟨h0, hb, h1, h2, h3, h4, h5⟩ := h
  refine ⟨hz.trans h0, hb, fun q k hq hk => ?_, fun q k i hq hk hi => ?_, fun q t n hq ht => ?_, fun q n hq => ?_, fun q t n hq ht => ?_⟩
  · by_cases hqa : q = a
    · subst hqa; exact c1 k hq hk
    · obtain ⟨r, r1, r2⟩ := h1 q k hq hk
      exact ⟨r, r1, by rw [m_ov_other (e1 q hqa) (e2 q hqa)]; exact r2.kept (ho q hqa)⟩
  · by_cases hqa : q = a
    · subst hqa; exact c2 k i hq hk hi
    · obtain ⟨r, r1, r2⟩ := h2 q k i hq hk hi
      exact ⟨r, r1, by rw [m_ow_other (e1 q hqa) (e2 q hqa)]; exact r2.kept (ho q hqa)⟩
  · by_cases hqa : q = a
    · subst hqa; exact c3 t n hq ht
    · rw [ho q hqa, e1 q hqa]; exact h3 q t n hq ht
  · by_cases hqa : q = a
    · subst hqa; exact c4 n hq
    · rw [ho q hqa, e2 q hqa]; exact h4 q n hq
  · by_cases hqa : q = a
    · subst hqa; exact c5 t n hq ht
    · rw [ho q hqa, e3 q hqa]; exact h5 q t n hq ht
theorem m_up_ne {α : Type} {f : Nat → α} {a q : Nat} {v : α} (h : q ≠ a) : va_up f a v q = f q := by simp [va_up, h]
theorem m_up_eq {α : Type} {f : Nat → α} {a : Nat} {v : α} : va_up f a v a = v := by simp [va_up]
section MRows
variable {p : Program} {l : Launch} {e : Env} {R : Room} {s : State} {m : MethodId} {args : Array Value} {below : List Frame} {meth : Method} {c : Code} {H : Heap} {locs : List Loc} {cells slots : Nat} {Q : State → Prop}
variable {cc : ByteArray} {nL : Nat} {own : String} {pc : Nat} {ls : Array Slot} {rest : List Value} {G : m_G} {nx : Nat} {κ : Nat → Nat} {S : m_M}
def m_Cx (p : Program) (s : State) (m : MethodId) (args : Array Value) (meth : Method) (c : Code) (cc : ByteArray) (nL : Nat) (own : String) (G : m_G) : Prop :=
  CallFix p m c cc nL s args m_gW own ∧ va_K G.1 vwCl (m_tys G.2.1) s ∧ meth.locks = false ∧ G.2.2 ≤ s.heap.size
/-- the frame: what isn't ours stays -/
abbrev m_S (G : m_G) (s : State) (H : Heap) (locs : List Loc) : Prop := va_S (m_ge G.2.2) s.heap H locs
theorem m_w (X : m_Cx p s m args meth c cc nL own G) {w : Cond} (h : w ∈ m_gW) : w.before args s = true := X.1.2.2.2.2 w h
theorem r_get (X : m_Cx p s m args meth c cc nL own G) (hH : m_H G nx κ S H) {k a j index N : Nat} {C : String} {T : u_T} {v : Value} (hk : κ a = k + 1) (hkl : k < 13) (hc : vwCl[k]? = some (C, T, N)) (hin : ∀ w ∈ u_ws C T N, w ∈ m_gW) (hj : j < N) (hlink : Cond.fieldLink own index C (T j).2.1 (T j).2.2.1 ∈ m_gW) (hC : (T j).1 = C) (hv : m_ov S a k j = v)
    (hdg : decode cc pc = .ok (.getfield index, 3)) (kk : W p l e R s m args below meth c H locs cells slots Q (F0 m (pc + 3) ls (v :: rest))) : W p l e R s m args below meth c H locs cells slots Q (F0 m pc ls (.ref a :: rest)) := by
  obtain ⟨⟨hx, hb, -, hown, hts⟩, hK, -, -⟩ := X
  obtain ⟨r, h1, cell, q1, q2, q3, q4⟩ := hH.2.2.1 a k hk hkl
  have hr : r = (C, T, N) := Option.some.inj (h1.symm.trans hc)
  subst hr
  obtain ⟨hS, hfc, kC, hkC, hkind⟩ := hK.1 k _ hc
  obtain ⟨cf, kf, fi, f, hi, hsl⟩ := hS j hj
  refine W.getf hx hb hown (hts _ hlink) (by rw [← hC]; exact hi) (u_facts hfc hkC (u_lays hts hin hj) hi).1 q1 (by rw [q3]; exact fun h => by cases h) (v := v) ?_ rfl rfl hdg kk
  rw [hsl, ← hv]; exact q4 j hj
theorem r_put (X : m_Cx p s m args meth c cc nL own G) (hH : m_H G nx κ S H) (hS0 : m_S G s H locs) {S' : m_M} {k a j index N : Nat} {C : String} {T : u_T} (ty0 : Nat → FieldType) {v : Value} (hk : κ a = k + 1) (hkl : k < 13) (hc : vwCl[k]? = some (C, T, N)) (hin : ∀ w ∈ u_ws C T N, w ∈ m_gW) (hty : ∀ k, k < N → parseFieldDescriptor (T k).2.2.1 = some (ty0 k)) (hnm : ∀ a, a < N → ∀ b, b < N → a ≠ b → (T a).2.1 ≠ (T b).2.1)
    (hj : j < N) (hlink : Cond.fieldLink own index C (T j).2.1 (T j).2.2.1 ∈ m_gW) (hC : (T j).1 = C) (hfin : (T j).2.2.2 = false) (hn : narrow (ty0 j) v = v) (hfit : fits (ty0 j) v = true)
    (e1 : ∀ q, q ≠ a → m_ri S' q = m_ri S q) (e2 : ∀ q, q ≠ a → m_rj S' q = m_rj S q) (e3 : ∀ q, m_rr S' q = m_rr S q) (hov : ∀ i, m_ov S' a k i = if i = j then v else m_ov S a k i)
    (hdg : decode cc pc = .ok (.putfield index, 3)) (kk : ∀ (H1 : Heap) (locs1 : List Loc), m_H G nx κ S' H1 → m_S G s H1 locs1 → W p l e R s m args below meth c H1 locs1 cells slots Q (F0 m (pc + 3) ls rest)) : W p l e R s m args below meth c H locs cells slots Q (F0 m pc ls (v :: .ref a :: rest)) := by
  obtain ⟨⟨hx, hb, -, hown, hts⟩, hK, -, -⟩ := X
  have hap := va_apart (own := own) hts hin ty0 hty hnm hK hc
  obtain ⟨r, h1, cell, q1, q2, q3, q4⟩ := hH.2.2.1 a k hk hkl
  have hr : r = (C, T, N) := Option.some.inj (h1.symm.trans hc)
  subst hr
  obtain ⟨hS, hfc, kC, hkC, hkind⟩ := hK.1 k _ hc
  obtain ⟨cf, kf, fi, f, hi, hsl⟩ := hS j hj
  have hlay := hts _ (hin _ (u_in_lay hj))
  unfold u_lay at hlay
  rw [if_neg (by rw [hfin]; decide)] at hlay
  have hst := (u_facts hfc hkC (u_lays hts hin hj) hi).1
  have h6 := u_store hfc hkC hkind hlay hi (hty j hj) hn hfit
  refine W.putK hx hb (f := f) ⟨hown, hts _ hlink, ⟨_, _, _, by rw [← hC]; exact hi⟩, hst⟩ (by rw [q2]; exact h6) q1 q3 (by rw [hsl]; exact k2_hasslot (q4 j hj)) rfl rfl hdg fun H' g1 g2 g3 => ?_
  rw [hsl] at g1 ⊢
  refine kk H' _ (hH.one g2 g3 e1 e2 (fun q _ => e3 q) (fun k' hk' _ => ?_) (fun k' i' hk' _ _ => ?_) (fun t n hk' _ => ?_) (fun n hk' => ?_) (fun t n hk' _ => ?_)) (hS0.put g2 g3 (hH.2.1.2 a (by omega)).1)
  · have : k' = k := by omega
    subst this
    refine ⟨_, hc, t_OB.to (V := updV (m_ov S a k') j v) ⟨_, g1, q2, q3, t_set q4 hap hj v⟩ (fun i _ => ?_)⟩
    rw [hov i]; rfl
  · simp only [m_ac] at hk'; omega
  · simp only [m_ac] at hk'; omega
  · simp only [m_ac] at hk'; omega
  · simp only [m_ac] at hk'; omega
end MRows
section MRows2
variable {p : Program} {l : Launch} {e : Env} {R : Room} {s : State} {m : MethodId} {args : Array Value} {below : List Frame} {meth : Method} {c : Code} {H : Heap} {locs : List Loc} {cells slots : Nat} {Q : State → Prop}
variable {cc : ByteArray} {nL : Nat} {own : String} {pc : Nat} {ls : Array Slot} {rest : List Value} {G : m_G} {nx : Nat} {κ : Nat → Nat} {S : m_M}
theorem m_ov_i {S : m_M} {a k j : Nat} (h : ((m_tab k).getD j (0, 0, 0)).1 = 0) : m_ov S a k j = .int (m_ri S a j) := by simp only [m_ov, h]
theorem m_ov_j {S : m_M} {a k j : Nat} (h : ((m_tab k).getD j (0, 0, 0)).1 = 1) : m_ov S a k j = .long (m_rj S a j) := by simp only [m_ov, h]
theorem m_ov_p {S : m_M} {a k j b A B : Nat} (h : (m_tab k).getD j (0, 0, 0) = (2, A, B)) (hb : a + A - B = b) : m_ov S a k j = .ref b := by simp only [m_ov, h, hb]
theorem r_geti (X : m_Cx p s m args meth c cc nL own G) (hH : m_H G nx κ S H) {k a j index N : Nat} {C : String} {T : u_T} (hk : κ a = k + 1) (hkl : k < 13) (hc : vwCl[k]? = some (C, T, N)) (hin : ∀ w ∈ u_ws C T N, w ∈ m_gW) (hj : j < N) (hlink : Cond.fieldLink own index C (T j).2.1 (T j).2.2.1 ∈ m_gW) (hC : (T j).1 = C) (ht : ((m_tab k).getD j (0, 0, 0)).1 = 0)
    (hdg : decode cc pc = .ok (.getfield index, 3)) (kk : W p l e R s m args below meth c H locs cells slots Q (F0 m (pc + 3) ls (.int (m_ri S a j) :: rest))) : W p l e R s m args below meth c H locs cells slots Q (F0 m pc ls (.ref a :: rest)) := r_get X hH hk hkl hc hin hj hlink hC (m_ov_i ht) hdg kk
theorem r_getj (X : m_Cx p s m args meth c cc nL own G) (hH : m_H G nx κ S H) {k a j index N : Nat} {C : String} {T : u_T} (hk : κ a = k + 1) (hkl : k < 13) (hc : vwCl[k]? = some (C, T, N)) (hin : ∀ w ∈ u_ws C T N, w ∈ m_gW) (hj : j < N) (hlink : Cond.fieldLink own index C (T j).2.1 (T j).2.2.1 ∈ m_gW) (hC : (T j).1 = C) (ht : ((m_tab k).getD j (0, 0, 0)).1 = 1)
    (hdg : decode cc pc = .ok (.getfield index, 3)) (kk : W p l e R s m args below meth c H locs cells slots Q (F0 m (pc + 3) ls (.long (m_rj S a j) :: rest))) : W p l e R s m args below meth c H locs cells slots Q (F0 m pc ls (.ref a :: rest)) := r_get X hH hk hkl hc hin hj hlink hC (m_ov_j ht) hdg kk
theorem r_getp (X : m_Cx p s m args meth c cc nL own G) (hH : m_H G nx κ S H) {k a j index N b A B : Nat} {C : String} {T : u_T} (hk : κ a = k + 1) (hkl : k < 13) (hc : vwCl[k]? = some (C, T, N)) (hin : ∀ w ∈ u_ws C T N, w ∈ m_gW) (hj : j < N) (hlink : Cond.fieldLink own index C (T j).2.1 (T j).2.2.1 ∈ m_gW) (hC : (T j).1 = C) (ht : (m_tab k).getD j (0, 0, 0) = (2, A, B)) (hb : a + A - B = b)
    (hdg : decode cc pc = .ok (.getfield index, 3)) (kk : W p l e R s m args below meth c H locs cells slots Q (F0 m (pc + 3) ls (.ref b :: rest))) : W p l e R s m args below meth c H locs cells slots Q (F0 m pc ls (.ref a :: rest)) := r_get X hH hk hkl hc hin hj hlink hC (m_ov_p ht hb) hdg kk
theorem m_si_ne {S : m_M} {a i q : Nat} {v : Int32} (h : q ≠ a) : m_ri (m_si S a i v) q = m_ri S q := m_up_ne h
theorem m_si_eq {S : m_M} {a i : Nat} {v : Int32} : m_ri (m_si S a i v) a = va_up (m_ri S a) i v := m_up_eq
theorem m_sj_ne {S : m_M} {a i q : Nat} {v : Int64} (h : q ≠ a) : m_rj (m_sj S a i v) q = m_rj S q := m_up_ne h
theorem m_sj_eq {S : m_M} {a i : Nat} {v : Int64} : m_rj (m_sj S a i v) a = va_up (m_rj S a) i v := m_up_eq
theorem m_sr_ne {S : m_M} {a i q : Nat} {v : Option Nat} (h : q ≠ a) : m_rr (m_sr S a i v) q = m_rr S q := m_up_ne h
theorem m_sr_eq {S : m_M} {a i : Nat} {v : Option Nat} : m_rr (m_sr S a i v) a = va_up (m_rr S a) i v := m_up_eq
theorem m_ov_si {S : m_M} {a k j : Nat} {v : Int32} (ht : ((m_tab k).getD j (0, 0, 0)).1 = 0) (i : Nat) : m_ov (m_si S a j v) a k i = if i = j then .int v else m_ov S a k i := by
  by_cases h : i = j
  · subst h; rw [if_pos rfl, m_ov_i ht, m_si_eq]; simp [va_up]
  · rw [if_neg h]; unfold m_ov; rw [m_si_eq]; simp only [va_up, if_neg h]; rfl
theorem m_ov_sj {S : m_M} {a k j : Nat} {v : Int64} (ht : ((m_tab k).getD j (0, 0, 0)).1 = 1) (i : Nat) : m_ov (m_sj S a j v) a k i = if i = j then .long v else m_ov S a k i := by
  by_cases h : i = j
  · subst h; rw [if_pos rfl, m_ov_j ht, m_sj_eq]; simp [va_up]
  · rw [if_neg h]; unfold m_ov; rw [m_sj_eq]; simp only [va_up, if_neg h]; rfl
theorem r_puti (X : m_Cx p s m args meth c cc nL own G) (hH : m_H G nx κ S H) (hS0 : m_S G s H locs) {k a j index N : Nat} {C : String} {T : u_T} (ty0 : Nat → FieldType) {v : Int32} (hk : κ a = k + 1) (hkl : k < 13) (hc : vwCl[k]? = some (C, T, N)) (hin : ∀ w ∈ u_ws C T N, w ∈ m_gW) (hty : ∀ k, k < N → parseFieldDescriptor (T k).2.2.1 = some (ty0 k)) (hnm : ∀ a, a < N → ∀ b, b < N → a ≠ b → (T a).2.1 ≠ (T b).2.1)
    (hj : j < N) (hlink : Cond.fieldLink own index C (T j).2.1 (T j).2.2.1 ∈ m_gW) (hC : (T j).1 = C) (hfin : (T j).2.2.2 = false) (ht : ((m_tab k).getD j (0, 0, 0)).1 = 0) (hn : narrow (ty0 j) (.int v) = .int v) (hfit : fits (ty0 j) (.int v) = true)
    (hdg : decode cc pc = .ok (.putfield index, 3)) (kk : ∀ (H1 : Heap) (locs1 : List Loc), m_H G nx κ (m_si S a j v) H1 → m_S G s H1 locs1 → W p l e R s m args below meth c H1 locs1 cells slots Q (F0 m (pc + 3) ls rest)) : W p l e R s m args below meth c H locs cells slots Q (F0 m pc ls (.int v :: .ref a :: rest)) :=
  r_put X hH hS0 ty0 hk hkl hc hin hty hnm hj hlink hC hfin hn hfit (fun q h => m_si_ne h) (fun _ _ => rfl) (fun _ => rfl) (m_ov_si ht) hdg kk
theorem r_putj (X : m_Cx p s m args meth c cc nL own G) (hH : m_H G nx κ S H) (hS0 : m_S G s H locs) {k a j index N : Nat} {C : String} {T : u_T} (ty0 : Nat → FieldType) {v : Int64} (hk : κ a = k + 1) (hkl : k < 13) (hc : vwCl[k]? = some (C, T, N)) (hin : ∀ w ∈ u_ws C T N, w ∈ m_gW) (hty : ∀ k, k < N → parseFieldDescriptor (T k).2.2.1 = some (ty0 k)) (hnm : ∀ a, a < N → ∀ b, b < N → a ≠ b → (T a).2.1 ≠ (T b).2.1)
    (hj : j < N) (hlink : Cond.fieldLink own index C (T j).2.1 (T j).2.2.1 ∈ m_gW) (hC : (T j).1 = C) (hfin : (T j).2.2.2 = false) (ht : ((m_tab k).getD j (0, 0, 0)).1 = 1) (hn : narrow (ty0 j) (.long v) = .long v) (hfit : fits (ty0 j) (.long v) = true)
    (hdg : decode cc pc = .ok (.putfield index, 3)) (kk : ∀ (H1 : Heap) (locs1 : List Loc), m_H G nx κ (m_sj S a j v) H1 → m_S G s H1 locs1 → W p l e R s m args below meth c H1 locs1 cells slots Q (F0 m (pc + 3) ls rest)) : W p l e R s m args below meth c H locs cells slots Q (F0 m pc ls (.long v :: .ref a :: rest)) :=
  r_put (S' := m_sj S a j v) X hH hS0 ty0 hk hkl hc hin hty hnm hj hlink hC hfin hn hfit (fun _ _ => rfl) (fun q h => m_sj_ne h) (fun _ => rfl) (m_ov_sj ht) hdg kk
/-! arrays -/
theorem r_iald (X : m_Cx p s m args meth c cc nL own G) (hH : m_H G nx κ S H) {a n : Nat} (hk : κ a = m_ac 1 n) {i : Int32} (hin : vp_in i n) (hdg : decode cc pc = .ok (.iaload, 1))
    (kk : W p l e R s m args below meth c H locs cells slots Q (F0 m (pc + 1) ls (.int (m_ri S a i.toNatClampNeg) :: rest))) : W p l e R s m args below meth c H locs cells slots Q (F0 m pc ls (.int i :: .ref a :: rest)) := by
  obtain ⟨⟨hx, hb, -, -, -⟩, hK, -, -⟩ := X
  have hlt : i.toNatClampNeg < n := Nat.not_le.mp fun q => hin (Or.inr q)
  exact W.iald (v := .int (m_ri S a i.toNatClampNeg)) hx hb (hH.2.2.2.2.1 a 1 n hk (Or.inl (by decide))) ((hK.2 1 (G.2.1 1, .int) rfl).1 n (fun j => .int (m_ri S a j))) (fun q => by cases q) (by show ¬ (i < 0 ∨ (arrV _ _ _).slots.size ≤ _); rw [arrV_size]; exact hin) (by rw [arrV_read _ _ hlt]) rfl rfl hdg kk
theorem r_bald (X : m_Cx p s m args meth c cc nL own G) (hH : m_H G nx κ S H) {a n : Nat} (hk : κ a = m_ac 0 n) {i : Int32} (hin : vp_in i n) (hdg : decode cc pc = .ok (.baload, 1))
    (kk : W p l e R s m args below meth c H locs cells slots Q (F0 m (pc + 1) ls (.int (m_ri S a i.toNatClampNeg) :: rest))) : W p l e R s m args below meth c H locs cells slots Q (F0 m pc ls (.int i :: .ref a :: rest)) := by
  obtain ⟨⟨hx, hb, -, -, -⟩, hK, -, -⟩ := X
  have hlt : i.toNatClampNeg < n := Nat.not_le.mp fun q => hin (Or.inr q)
  exact W.bald (v := .int (m_ri S a i.toNatClampNeg)) hx hb (hH.2.2.2.2.1 a 0 n hk (Or.inl (by decide))) ((hK.2 0 (G.2.1 0, .byte) rfl).1 n (fun j => .int (m_ri S a j))) (fun q => by cases q) (by show ¬ (i < 0 ∨ (arrV _ _ _).slots.size ≤ _); rw [arrV_size]; exact hin) (by rw [arrV_read _ _ hlt]) rfl rfl hdg kk
theorem r_zald (X : m_Cx p s m args meth c cc nL own G) (hH : m_H G nx κ S H) {a n : Nat} (hk : κ a = m_ac 3 n) {i : Int32} (hin : vp_in i n) (hdg : decode cc pc = .ok (.baload, 1))
    (kk : W p l e R s m args below meth c H locs cells slots Q (F0 m (pc + 1) ls (.int (m_ri S a i.toNatClampNeg) :: rest))) : W p l e R s m args below meth c H locs cells slots Q (F0 m pc ls (.int i :: .ref a :: rest)) := by
  obtain ⟨⟨hx, hb, -, -, -⟩, hK, -, -⟩ := X
  have hlt : i.toNatClampNeg < n := Nat.not_le.mp fun q => hin (Or.inr q)
  exact W.zald (v := .int (m_ri S a i.toNatClampNeg)) hx hb (hH.2.2.2.2.1 a 3 n hk (Or.inr rfl)) ((hK.2 3 (G.2.1 3, .boolean) rfl).1 n (fun j => .int (m_ri S a j))) (fun q => by cases q) (by show ¬ (i < 0 ∨ (arrV _ _ _).slots.size ≤ _); rw [arrV_size]; exact hin) (by rw [arrV_read _ _ hlt]) rfl rfl hdg kk
theorem r_lald (X : m_Cx p s m args meth c cc nL own G) (hH : m_H G nx κ S H) {a n : Nat} (hk : κ a = m_ac 2 n) {i : Int32} (hin : vp_in i n) (hdg : decode cc pc = .ok (.laload, 1))
    (kk : W p l e R s m args below meth c H locs cells slots Q (F0 m (pc + 1) ls (.long (m_rj S a i.toNatClampNeg) :: rest))) : W p l e R s m args below meth c H locs cells slots Q (F0 m pc ls (.int i :: .ref a :: rest)) := by
  obtain ⟨⟨hx, hb, -, -, -⟩, hK, -, -⟩ := X
  have hlt : i.toNatClampNeg < n := Nat.not_le.mp fun q => hin (Or.inr q)
  exact W.lald (v := .long (m_rj S a i.toNatClampNeg)) hx hb (hH.2.2.2.2.2.1 a n hk) ((hK.2 2 (G.2.1 2, .long) rfl).1 n (fun j => .long (m_rj S a j))) (fun q => by cases q) (by show ¬ (i < 0 ∨ (arrV _ _ _).slots.size ≤ _); rw [arrV_size]; exact hin) (by rw [arrV_read _ _ hlt]) rfl rfl hdg kk
/-- an int element is written -/
theorem m_H.iel {a t n i : Nat} {x : Int32} {H1 : Heap} (hH : m_H G nx κ S H) (hk : κ a = m_ac t n) (ht : t < 2 ∨ t = 3) (e : H1[a]? = some ((arrV (G.2.1 t) n (fun i => .int (m_ri S a i))).setSlot i (.int x))) (z : H1.size = H.size) (oq : ∀ q, q ≠ a → H1[q]? = H[q]?) : m_H G nx κ (m_si S a i x) H1 := by
  refine hH.one z oq (fun q h => m_si_ne h) (fun _ _ => rfl) (fun _ _ => rfl) (fun k hk' _ => ?_) (fun k i' hk' _ _ => ?_) (fun t' n' hk' ht' => ?_) (fun n' hk' => ?_) (fun t' n' hk' ht' => ?_)
  · rw [hk] at hk'; simp only [m_ac] at hk'; omega
  · have := m_ac_inj (by omega) (by omega) (hk.symm.trans hk'); omega
  · obtain ⟨rfl, rfl⟩ := m_ac_inj (by omega) (by omega) (hk.symm.trans hk')
    rw [e, arrV_store, m_si_eq]
    congr 2
    funext q
    by_cases hq : q = i
    · subst hq; simp [updV, va_up]
    · simp [updV, va_up, hq]
  · have := m_ac_inj (by omega) (by omega) (hk.symm.trans hk'); omega
  · have := m_ac_inj (by omega) (by omega) (hk.symm.trans hk'); omega
theorem r_iast (X : m_Cx p s m args meth c cc nL own G) (hH : m_H G nx κ S H) (hS0 : m_S G s H locs) {a n : Nat} (hk : κ a = m_ac 1 n) {i x : Int32} (hin : vp_in i n) (hdg : decode cc pc = .ok (.iastore, 1))
    (kk : ∀ (H1 : Heap) (locs1 : List Loc), m_H G nx κ (m_si S a i.toNatClampNeg x) H1 → m_S G s H1 locs1 → W p l e R s m args below meth c H1 locs1 cells slots Q (F0 m (pc + 1) ls rest)) : W p l e R s m args below meth c H locs cells slots Q (F0 m pc ls (.int x :: .int i :: .ref a :: rest)) := by
  obtain ⟨⟨hx, hb, -, -, -⟩, hK, -, -⟩ := X
  refine W.iast hx hb (hH.2.2.2.2.1 a 1 n hk (Or.inl (by decide))) ((hK.2 1 (G.2.1 1, .int) rfl).1 n (fun j => .int (m_ri S a j))) (fun q => by cases q) (by show ¬ (i < 0 ∨ (arrV _ _ _).slots.size ≤ _); rw [arrV_size]; exact hin) rfl rfl hdg fun H1 e z oq => ?_
  exact kk H1 _ (hH.iel hk (Or.inl (by decide)) e z oq) (hS0.put z oq (hH.2.1.2 a (by rw [hk]; simp only [m_ac]; omega)).1)
theorem r_bast (X : m_Cx p s m args meth c cc nL own G) (hH : m_H G nx κ S H) (hS0 : m_S G s H locs) {a n : Nat} (hk : κ a = m_ac 0 n) {i x : Int32} (hin : vp_in i n) (hdg : decode cc pc = .ok (.bastore, 1))
    (kk : ∀ (H1 : Heap) (locs1 : List Loc), m_H G nx κ (m_si S a i.toNatClampNeg (vp_nar .byte x)) H1 → m_S G s H1 locs1 → W p l e R s m args below meth c H1 locs1 cells slots Q (F0 m (pc + 1) ls rest)) : W p l e R s m args below meth c H locs cells slots Q (F0 m pc ls (.int x :: .int i :: .ref a :: rest)) := by
  obtain ⟨⟨hx, hb, -, -, -⟩, hK, -, -⟩ := X
  refine W.bast hx hb (hH.2.2.2.2.1 a 0 n hk (Or.inl (by decide))) ((hK.2 0 (G.2.1 0, .byte) rfl).1 n (fun j => .int (m_ri S a j))) (fun q => by cases q) (by show ¬ (i < 0 ∨ (arrV _ _ _).slots.size ≤ _); rw [arrV_size]; exact hin) rfl rfl hdg fun H1 e z oq => ?_
  exact kk H1 _ (hH.iel hk (Or.inl (by decide)) e z oq) (hS0.put z oq (hH.2.1.2 a (by rw [hk]; simp only [m_ac]; omega)).1)
theorem r_zast (X : m_Cx p s m args meth c cc nL own G) (hH : m_H G nx κ S H) (hS0 : m_S G s H locs) {a n : Nat} (hk : κ a = m_ac 3 n) {i x : Int32} (hin : vp_in i n) (hdg : decode cc pc = .ok (.bastore, 1))
    (kk : ∀ (H1 : Heap) (locs1 : List Loc), m_H G nx κ (m_si S a i.toNatClampNeg (vp_nar .boolean x)) H1 → m_S G s H1 locs1 → W p l e R s m args below meth c H1 locs1 cells slots Q (F0 m (pc + 1) ls rest)) : W p l e R s m args below meth c H locs cells slots Q (F0 m pc ls (.int x :: .int i :: .ref a :: rest)) := by
  obtain ⟨⟨hx, hb, -, -, -⟩, hK, -, -⟩ := X
  refine W.zast hx hb (hH.2.2.2.2.1 a 3 n hk (Or.inr rfl)) ((hK.2 3 (G.2.1 3, .boolean) rfl).1 n (fun j => .int (m_ri S a j))) (fun q => by cases q) (by show ¬ (i < 0 ∨ (arrV _ _ _).slots.size ≤ _); rw [arrV_size]; exact hin) rfl rfl hdg fun H1 e z oq => ?_
  exact kk H1 _ (hH.iel hk (Or.inr rfl) e z oq) (hS0.put z oq (hH.2.1.2 a (by rw [hk]; simp only [m_ac]; omega)).1)
theorem r_last (X : m_Cx p s m args meth c cc nL own G) (hH : m_H G nx κ S H) (hS0 : m_S G s H locs) {a n : Nat} (hk : κ a = m_ac 2 n) {i : Int32} {x : Int64} (hin : vp_in i n) (hdg : decode cc pc = .ok (.lastore, 1))
    (kk : ∀ (H1 : Heap) (locs1 : List Loc), m_H G nx κ (m_sj S a i.toNatClampNeg x) H1 → m_S G s H1 locs1 → W p l e R s m args below meth c H1 locs1 cells slots Q (F0 m (pc + 1) ls rest)) : W p l e R s m args below meth c H locs cells slots Q (F0 m pc ls (.long x :: .int i :: .ref a :: rest)) := by
  obtain ⟨⟨hx, hb, -, -, -⟩, hK, -, -⟩ := X
  refine W.last hx hb (hH.2.2.2.2.2.1 a n hk) ((hK.2 2 (G.2.1 2, .long) rfl).1 n (fun j => .long (m_rj S a j))) (fun q => by cases q) (by show ¬ (i < 0 ∨ (arrV _ _ _).slots.size ≤ _); rw [arrV_size]; exact hin) rfl rfl hdg fun H1 e z oq => ?_
  refine kk H1 _ ?_ (hS0.put z oq (hH.2.1.2 a (by rw [hk]; simp only [m_ac]; omega)).1)
  refine hH.one z oq (fun _ _ => rfl) (fun q h => m_sj_ne h) (fun _ _ => rfl) (fun k hk' _ => ?_) (fun k i' hk' _ _ => ?_) (fun t' n' hk' ht' => ?_) (fun n' hk' => ?_) (fun t' n' hk' ht' => ?_)
  · rw [hk] at hk'; simp only [m_ac] at hk'; omega
  · have := m_ac_inj (by omega) (by omega) (hk.symm.trans hk'); omega
  · have := m_ac_inj (by omega) (by omega) (hk.symm.trans hk'); omega
  · obtain ⟨-, rfl⟩ := m_ac_inj (by omega) (by omega) (hk.symm.trans hk')
    rw [e, arrV_store, m_sj_eq]
    congr 2
    funext q
    by_cases hq : q = i.toNatClampNeg
    · subst hq; simp [updV, va_up]
    · simp [updV, va_up, hq]
  · have := m_ac_inj (by omega) (by omega) (hk.symm.trans hk'); omega
theorem r_alen (X : m_Cx p s m args meth c cc nL own G) (hH : m_H G nx κ S H) {a t n : Nat} (hk : κ a = m_ac t n) (ht : t < 6) {v : Int32} (hv : Int32.ofNat n = v) (hdg : decode cc pc = .ok (.arraylength, 1))
    (kk : W p l e R s m args below meth c H locs cells slots Q (F0 m (pc + 1) ls (.int v :: rest))) : W p l e R s m args below meth c H locs cells slots Q (F0 m pc ls (.ref a :: rest)) := by
  obtain ⟨⟨hx, hb, -, -, -⟩, hK, -, -⟩ := X
  subst hv
  have key : ∀ (z : Nat → Value) (ty : FieldType), H[a]? = some (arrV (G.2.1 t) n z) → ArrOfT s (G.2.1 t) ty → W p l e R s m args below meth c H locs cells slots Q (F0 m pc ls (.ref a :: rest)) := fun z ty h1 h2 =>
    W.alen (n := Int32.ofNat n) hx hb h1 (h2 n z) (by rw [arrV_size]) rfl rfl hdg kk
  rcases (show t = 0 ∨ t = 1 ∨ t = 2 ∨ t = 3 ∨ t = 4 ∨ t = 5 by omega) with rfl | rfl | rfl | rfl | rfl | rfl
  · exact key _ _ (hH.2.2.2.2.1 a 0 n hk (Or.inl (by decide))) (hK.2 0 (G.2.1 0, .byte) rfl).1
  · exact key _ _ (hH.2.2.2.2.1 a 1 n hk (Or.inl (by decide))) (hK.2 1 (G.2.1 1, .int) rfl).1
  · exact key _ _ (hH.2.2.2.2.2.1 a n hk) (hK.2 2 (G.2.1 2, .long) rfl).1
  · exact key _ _ (hH.2.2.2.2.1 a 3 n hk (Or.inr rfl)) (hK.2 3 (G.2.1 3, .boolean) rfl).1
  · exact key _ _ (hH.2.2.2.2.2.2 a 4 n hk (Or.inl rfl)).1 (hK.2 4 (G.2.1 4, .object "RegionRooms$Machine") rfl).1
  · exact key _ _ (hH.2.2.2.2.2.2 a 5 n hk (Or.inr rfl)).1 (hK.2 5 (G.2.1 5, .object "RegionRooms$Whole") rfl).1
end MRows2
/-! CONTRACTS: a method that makes no cell: from any memory S in which the model gives res, it returns as res says -/
def m_Ci (l : Launch) (y : MethodName) (b : ByteArray) (n : Nat) (rt : Option FieldType) (rm : Room) (G : m_G) (nx : Nat) (κ : Nat → Nat) (av : List Value) (S : m_M) (res : Int32 × m_M) : Prop :=
  Met l y (m_ws y b n rt) rm (va_Pc av (m_Wd G nx κ S)) (va_Qi (fun r u => (r, u) = res) (m_Wd G nx κ) (m_ge G.2.2)) 0 0 (m_ge G.2.2)
def m_Cl (l : Launch) (y : MethodName) (b : ByteArray) (n : Nat) (rt : Option FieldType) (rm : Room) (G : m_G) (nx : Nat) (κ : Nat → Nat) (av : List Value) (S : m_M) (res : Int64 × m_M) : Prop :=
  Met l y (m_ws y b n rt) rm (va_Pc av (m_Wd G nx κ S)) (va_Ql (fun r u => (r, u) = res) (m_Wd G nx κ) (m_ge G.2.2)) 0 0 (m_ge G.2.2)
def m_Cv (l : Launch) (y : MethodName) (b : ByteArray) (n : Nat) (rm : Room) (G : m_G) (nx : Nat) (κ : Nat → Nat) (av : List Value) (S : m_M) (res : m_M) : Prop :=
  Met l y (m_ws y b n none) rm (va_Pc av (m_Wd G nx κ S)) (va_Qv (fun u => u = res) (m_Wd G nx κ) (m_ge G.2.2)) 0 0 (m_ge G.2.2)
def m_Qi (below : List Frame) (args : Array Value) (s : State) (G : m_G) (nx : Nat) (κ : Nat → Nat) (res : Int32 × m_M) : State → Prop := MQ below (va_Qi (fun r u => (r, u) = res) (m_Wd G nx κ) (m_ge G.2.2)) args s 0 0 (m_ge G.2.2)
def m_Ql (below : List Frame) (args : Array Value) (s : State) (G : m_G) (nx : Nat) (κ : Nat → Nat) (res : Int64 × m_M) : State → Prop := MQ below (va_Ql (fun r u => (r, u) = res) (m_Wd G nx κ) (m_ge G.2.2)) args s 0 0 (m_ge G.2.2)
def m_Qv (below : List Frame) (args : Array Value) (s : State) (G : m_G) (nx : Nat) (κ : Nat → Nat) (res : m_M) : State → Prop := MQ below (va_Qv (fun u => u = res) (m_Wd G nx κ) (m_ge G.2.2)) args s 0 0 (m_ge G.2.2)
theorem m_blind {G : m_G} {nx : Nat} {κ : Nat → Nat} {S : m_M} {av : List Value} : FrameBlind (va_Pc av (m_Wd G nx κ S)) := fun a U g mk q =>
  ⟨q.1, q.2.1, va_K.moved (u := U) (U := U.calling g mk a) (Vm.Alike.refl U.vm) q.2.2⟩
theorem m_pre {G : m_G} {nx : Nat} {κ : Nat → Nat} {S : m_M} {av : List Value} {s : State} {H : Heap} (hH : m_H G nx κ S H) (hK : va_K G.1 vwCl (m_tys G.2.1) s) : ∀ U : State, U.heap = H → s.WarmedH U.vm → va_Pc av (m_Wd G nx κ S) av.toArray U := fun U hU hW =>
  ⟨rfl, by rw [hU]; exact hH, va_K.moved hW.alike hK⟩
/-- what the tables say of a method that is called: its code, that it is found, its class is ready -/
def m_CW (y : MethodName) (b : ByteArray) (n : Nat) (rt : Option FieldType) (np : Nat) : Prop :=
  Cond.code y b n rt ∈ m_gW ∧ Cond.initialized y.cls ∈ m_gW ∧ (y.cls ≠ "java/lang/invoke/MethodHandle" ∧ y.cls ≠ "java/lang/invoke/VarHandle" ∧ (parseMethodDescriptor y.desc).map (fun d => d.parameters.length) = some np)
def m_CV (y : MethodName) (b : ByteArray) (n : Nat) (rt : Option FieldType) (np : Nat) : Prop :=
  m_CW y b n rt np ∧ Cond.instanceMethod y ∈ m_gW ∧ Cond.selects y.cls y y ∈ m_gW
def m_CS (y : MethodName) (b : ByteArray) (n : Nat) (rt : Option FieldType) (np : Nat) : Prop := m_CW y b n rt np ∧ Cond.static y ∈ m_gW
section MCalls
variable {p : Program} {l : Launch} {e : Env} {R : Room} {s : State} {m : MethodId} {args : Array Value} {below : List Frame} {meth : Method} {c : Code} {H : Heap} {locs : List Loc} {cells slots : Nat} {Q : State → Prop}
variable {cc : ByteArray} {nL : Nat} {own : String} {pc : Nat} {ls : Array Slot} {st rest As : List Value} {G : m_G} {nx : Nat} {κ : Nat → Nat} {S : m_M}
variable {y : MethodName} {b : ByteArray} {n : Nat} {rt : Option FieldType} {rm : Room} {index : Nat}
theorem m_callB (X : m_Cx p s m args meth c cc nL own G) (hw : m_CW y b n rt As.length) (hl : Cond.methodLink own index y ∈ m_gW) (hrm : rm.cells = 0 ∧ rm.slots = 0) (hR : rm.frames + 1 ≤ R.frames ∧ 8 + (n + 11) + rm.locals ≤ R.locals) : CallB R s args own index y b n rt (m_ws y b n rt) rm 0 0 As.length :=
  callB_of As.length X.1.2.2.2.2 (m_good hw.1) rfl hrm.1 hrm.2 (m_w X hw.2.1) (m_w X hl) hw.2.2 hR
theorem m_recv (X : m_Cx p s m args meth c cc nL own G) (hH : m_H G nx κ S H) {k a N : Nat} {C : String} {T : u_T} (hk : κ a = k + 1) (hkl : k < 13) (hc : vwCl[k]? = some (C, T, N)) : ∃ cell : Cell, H[a]? = some cell ∧ cell.vm.isStatics = false ∧ s.vm.findClass C = some cell.cls := by
  obtain ⟨r, h1, cell, q1, q2, q3, -⟩ := hH.2.2.1 a k hk hkl
  exact ⟨cell, q1, by rw [q3]; rfl, by rw [q2]; exact (X.2.1.1 k _ hc).2.1⟩
theorem r_cVi {a k N : Nat} {C : String} {T : u_T} {res : Int32 × m_M} (X : m_Cx p s m args meth c cc nL own G) (hH : m_H G nx κ S H) (hS : m_S G s H locs) (hM : m_Ci l y b n rt rm G nx κ (.ref a :: As) S res) (hw : m_CV y b n rt As.length) (hl : Cond.methodLink own index y ∈ m_gW) (hk : κ a = k + 1) (hkl : k < 13) (hc : vwCl[k]? = some (C, T, N)) (hyC : y.cls = C)
    (hst : st = As.reverse ++ .ref a :: rest) (hrm : rm.cells = 0 ∧ rm.slots = 0) (hR : rm.frames + 1 ≤ R.frames ∧ 8 + (n + 11) + rm.locals ≤ R.locals) (hcs : cells ≤ R.cells ∧ slots ≤ R.slots) (hsz : ls.size = nL) (hrest : (rest.map fun v => v.category).sum ≤ 8) (hdg : decode cc pc = .ok (.invokevirtual index, 3))
    (kk : ∀ (H1 : Heap) (locs1 : List Loc), m_H G nx κ res.2 H1 → m_S G s H1 locs1 → W p l e R s m args below meth c H1 locs1 cells slots Q (F0 m (pc + 3) ls (.int res.1 :: rest))) : W p l e R s m args below meth c H locs cells slots Q (F0 m pc ls st) := by
  subst hst; subst hyC
  refine va_calli (va_runV (As := As) (rest := rest) X.1 hM ⟨m_callB X hw.1 hl hrm hR, m_w X hw.2.1, m_w X hw.2.2⟩ ⟨m_blind, m_recv X hH hk hkl hc, m_pre hH X.2.1⟩ rfl rfl hsz rfl (lv_room hrest) hdg hcs) hS (fun _ _ h => h) (fun _ h => h) (fun r u t H1 locs1 ht hvm hw1 hB hz1 hk1 hS1 => ?_)
  subst hw1
  exact kk H1 locs1 (by rw [← ht]; exact hB.1) hS1
theorem r_cVl {a k N : Nat} {C : String} {T : u_T} {res : Int64 × m_M} (X : m_Cx p s m args meth c cc nL own G) (hH : m_H G nx κ S H) (hS : m_S G s H locs) (hM : m_Cl l y b n rt rm G nx κ (.ref a :: As) S res) (hw : m_CV y b n rt As.length) (hl : Cond.methodLink own index y ∈ m_gW) (hk : κ a = k + 1) (hkl : k < 13) (hc : vwCl[k]? = some (C, T, N)) (hyC : y.cls = C)
    (hst : st = As.reverse ++ .ref a :: rest) (hrm : rm.cells = 0 ∧ rm.slots = 0) (hR : rm.frames + 1 ≤ R.frames ∧ 8 + (n + 11) + rm.locals ≤ R.locals) (hcs : cells ≤ R.cells ∧ slots ≤ R.slots) (hsz : ls.size = nL) (hrest : (rest.map fun v => v.category).sum ≤ 8) (hdg : decode cc pc = .ok (.invokevirtual index, 3))
    (kk : ∀ (H1 : Heap) (locs1 : List Loc), m_H G nx κ res.2 H1 → m_S G s H1 locs1 → W p l e R s m args below meth c H1 locs1 cells slots Q (F0 m (pc + 3) ls (.long res.1 :: rest))) : W p l e R s m args below meth c H locs cells slots Q (F0 m pc ls st) := by
  subst hst; subst hyC
  refine va_calll (va_runV (As := As) (rest := rest) X.1 hM ⟨m_callB X hw.1 hl hrm hR, m_w X hw.2.1, m_w X hw.2.2⟩ ⟨m_blind, m_recv X hH hk hkl hc, m_pre hH X.2.1⟩ rfl rfl hsz rfl (lv_room hrest) hdg hcs) hS (fun _ _ h => h) (fun _ h => h) (fun r u t H1 locs1 ht hvm hw1 hB hz1 hk1 hS1 => ?_)
  subst hw1
  exact kk H1 locs1 (by rw [← ht]; exact hB.1) hS1
theorem r_cVv {a k N : Nat} {C : String} {T : u_T} {res : m_M} (X : m_Cx p s m args meth c cc nL own G) (hH : m_H G nx κ S H) (hS : m_S G s H locs) (hM : m_Cv l y b n rm G nx κ (.ref a :: As) S res) (hw : m_CV y b n none As.length) (hl : Cond.methodLink own index y ∈ m_gW) (hk : κ a = k + 1) (hkl : k < 13) (hc : vwCl[k]? = some (C, T, N)) (hyC : y.cls = C)
    (hst : st = As.reverse ++ .ref a :: rest) (hrm : rm.cells = 0 ∧ rm.slots = 0) (hR : rm.frames + 1 ≤ R.frames ∧ 8 + (n + 11) + rm.locals ≤ R.locals) (hcs : cells ≤ R.cells ∧ slots ≤ R.slots) (hsz : ls.size = nL) (hrest : (rest.map fun v => v.category).sum ≤ 8) (hdg : decode cc pc = .ok (.invokevirtual index, 3))
    (kk : ∀ (H1 : Heap) (locs1 : List Loc), m_H G nx κ res H1 → m_S G s H1 locs1 → W p l e R s m args below meth c H1 locs1 cells slots Q (F0 m (pc + 3) ls rest)) : W p l e R s m args below meth c H locs cells slots Q (F0 m pc ls st) := by
  subst hst; subst hyC
  refine va_callv (va_runV (As := As) (rest := rest) X.1 hM ⟨m_callB X hw.1 hl hrm hR, m_w X hw.2.1, m_w X hw.2.2⟩ ⟨m_blind, m_recv X hH hk hkl hc, m_pre hH X.2.1⟩ rfl rfl hsz rfl (lv_room hrest) hdg hcs) hS (fun _ _ h => h) (fun _ h => h) (fun u t H1 locs1 ht hvm hw1 hB hz1 hk1 hS1 => ?_)
  subst hw1
  exact kk H1 locs1 (by rw [← ht]; exact hB.1) hS1
theorem r_cSi {res : Int32 × m_M} (X : m_Cx p s m args meth c cc nL own G) (hH : m_H G nx κ S H) (hS : m_S G s H locs) (hM : m_Ci l y b n rt rm G nx κ As S res) (hw : m_CS y b n rt As.length) (hl : Cond.methodLink own index y ∈ m_gW)
    (hst : st = As.reverse ++ rest) (hrm : rm.cells = 0 ∧ rm.slots = 0) (hR : rm.frames + 1 ≤ R.frames ∧ 8 + (n + 11) + rm.locals ≤ R.locals) (hcs : cells ≤ R.cells ∧ slots ≤ R.slots) (hsz : ls.size = nL) (hrest : (rest.map fun v => v.category).sum ≤ 8) (hdg : decode cc pc = .ok (.invokestatic index, 3))
    (kk : ∀ (H1 : Heap) (locs1 : List Loc), m_H G nx κ res.2 H1 → m_S G s H1 locs1 → W p l e R s m args below meth c H1 locs1 cells slots Q (F0 m (pc + 3) ls (.int res.1 :: rest))) : W p l e R s m args below meth c H locs cells slots Q (F0 m pc ls st) := by
  subst hst
  refine va_calli (va_runS (As := As) (rest := rest) X.1 hM ⟨m_callB X hw.1 hl hrm hR, m_w X hw.2⟩ ⟨m_blind, m_pre hH X.2.1⟩ rfl rfl hsz rfl (lv_room hrest) hdg hcs) hS (fun _ _ h => h) (fun _ h => h) (fun r u t H1 locs1 ht hvm hw1 hB hz1 hk1 hS1 => ?_)
  subst hw1
  exact kk H1 locs1 (by rw [← ht]; exact hB.1) hS1
theorem r_cSl {res : Int64 × m_M} (X : m_Cx p s m args meth c cc nL own G) (hH : m_H G nx κ S H) (hS : m_S G s H locs) (hM : m_Cl l y b n rt rm G nx κ As S res) (hw : m_CS y b n rt As.length) (hl : Cond.methodLink own index y ∈ m_gW)
    (hst : st = As.reverse ++ rest) (hrm : rm.cells = 0 ∧ rm.slots = 0) (hR : rm.frames + 1 ≤ R.frames ∧ 8 + (n + 11) + rm.locals ≤ R.locals) (hcs : cells ≤ R.cells ∧ slots ≤ R.slots) (hsz : ls.size = nL) (hrest : (rest.map fun v => v.category).sum ≤ 8) (hdg : decode cc pc = .ok (.invokestatic index, 3))
    (kk : ∀ (H1 : Heap) (locs1 : List Loc), m_H G nx κ res.2 H1 → m_S G s H1 locs1 → W p l e R s m args below meth c H1 locs1 cells slots Q (F0 m (pc + 3) ls (.long res.1 :: rest))) : W p l e R s m args below meth c H locs cells slots Q (F0 m pc ls st) := by
  subst hst
  refine va_calll (va_runS (As := As) (rest := rest) X.1 hM ⟨m_callB X hw.1 hl hrm hR, m_w X hw.2⟩ ⟨m_blind, m_pre hH X.2.1⟩ rfl rfl hsz rfl (lv_room hrest) hdg hcs) hS (fun _ _ h => h) (fun _ h => h) (fun r u t H1 locs1 ht hvm hw1 hB hz1 hk1 hS1 => ?_)
  subst hw1
  exact kk H1 locs1 (by rw [← ht]; exact hB.1) hS1
theorem r_cSv {res : m_M} (X : m_Cx p s m args meth c cc nL own G) (hH : m_H G nx κ S H) (hS : m_S G s H locs) (hM : m_Cv l y b n rm G nx κ As S res) (hw : m_CS y b n none As.length) (hl : Cond.methodLink own index y ∈ m_gW)
    (hst : st = As.reverse ++ rest) (hrm : rm.cells = 0 ∧ rm.slots = 0) (hR : rm.frames + 1 ≤ R.frames ∧ 8 + (n + 11) + rm.locals ≤ R.locals) (hcs : cells ≤ R.cells ∧ slots ≤ R.slots) (hsz : ls.size = nL) (hrest : (rest.map fun v => v.category).sum ≤ 8) (hdg : decode cc pc = .ok (.invokestatic index, 3))
    (kk : ∀ (H1 : Heap) (locs1 : List Loc), m_H G nx κ res H1 → m_S G s H1 locs1 → W p l e R s m args below meth c H1 locs1 cells slots Q (F0 m (pc + 3) ls rest)) : W p l e R s m args below meth c H locs cells slots Q (F0 m pc ls st) := by
  subst hst
  refine va_callv (va_runS (As := As) (rest := rest) X.1 hM ⟨m_callB X hw.1 hl hrm hR, m_w X hw.2⟩ ⟨m_blind, m_pre hH X.2.1⟩ rfl rfl hsz rfl (lv_room hrest) hdg hcs) hS (fun _ _ h => h) (fun _ h => h) (fun u t H1 locs1 ht hvm hw1 hB hz1 hk1 hS1 => ?_)
  subst hw1
  exact kk H1 locs1 (by rw [← ht]; exact hB.1) hS1
theorem n_cVi {a k N : Nat} {C : String} {T : u_T} {v : Int32} {S' : m_M} (X : m_Cx p s m args meth c cc nL own G) (hH : m_H G nx κ S H) (hS : m_S G s H locs) (hM : m_Ci l y b n rt rm G nx κ (.ref a :: As) S (v, S')) (hw : m_CV y b n rt As.length) (hl : Cond.methodLink own index y ∈ m_gW) (hk : κ a = k + 1) (hkl : k < 13) (hc : vwCl[k]? = some (C, T, N)) (hyC : y.cls = C)
    (hst : st = As.reverse ++ .ref a :: rest) (hrm : rm.cells = 0 ∧ rm.slots = 0) (hR : rm.frames + 1 ≤ R.frames ∧ 8 + (n + 11) + rm.locals ≤ R.locals) (hcs : cells ≤ R.cells ∧ slots ≤ R.slots) (hsz : ls.size = nL) (hrest : (rest.map fun v => v.category).sum ≤ 8) (hdg : decode cc pc = .ok (.invokevirtual index, 3))
    (kk : ∀ (H1 : Heap) (locs1 : List Loc), m_H G nx κ S' H1 → m_S G s H1 locs1 → W p l e R s m args below meth c H1 locs1 cells slots Q (F0 m (pc + 3) ls (.int v :: rest))) : W p l e R s m args below meth c H locs cells slots Q (F0 m pc ls st) := r_cVi X hH hS hM hw hl hk hkl hc hyC hst hrm hR hcs hsz hrest hdg kk
theorem n_cVl {a k N : Nat} {C : String} {T : u_T} {v : Int64} {S' : m_M} (X : m_Cx p s m args meth c cc nL own G) (hH : m_H G nx κ S H) (hS : m_S G s H locs) (hM : m_Cl l y b n rt rm G nx κ (.ref a :: As) S (v, S')) (hw : m_CV y b n rt As.length) (hl : Cond.methodLink own index y ∈ m_gW) (hk : κ a = k + 1) (hkl : k < 13) (hc : vwCl[k]? = some (C, T, N)) (hyC : y.cls = C)
    (hst : st = As.reverse ++ .ref a :: rest) (hrm : rm.cells = 0 ∧ rm.slots = 0) (hR : rm.frames + 1 ≤ R.frames ∧ 8 + (n + 11) + rm.locals ≤ R.locals) (hcs : cells ≤ R.cells ∧ slots ≤ R.slots) (hsz : ls.size = nL) (hrest : (rest.map fun v => v.category).sum ≤ 8) (hdg : decode cc pc = .ok (.invokevirtual index, 3))
    (kk : ∀ (H1 : Heap) (locs1 : List Loc), m_H G nx κ S' H1 → m_S G s H1 locs1 → W p l e R s m args below meth c H1 locs1 cells slots Q (F0 m (pc + 3) ls (.long v :: rest))) : W p l e R s m args below meth c H locs cells slots Q (F0 m pc ls st) := r_cVl X hH hS hM hw hl hk hkl hc hyC hst hrm hR hcs hsz hrest hdg kk
theorem n_cSi {v : Int32} {S' : m_M} (X : m_Cx p s m args meth c cc nL own G) (hH : m_H G nx κ S H) (hS : m_S G s H locs) (hM : m_Ci l y b n rt rm G nx κ As S (v, S')) (hw : m_CS y b n rt As.length) (hl : Cond.methodLink own index y ∈ m_gW)
    (hst : st = As.reverse ++ rest) (hrm : rm.cells = 0 ∧ rm.slots = 0) (hR : rm.frames + 1 ≤ R.frames ∧ 8 + (n + 11) + rm.locals ≤ R.locals) (hcs : cells ≤ R.cells ∧ slots ≤ R.slots) (hsz : ls.size = nL) (hrest : (rest.map fun v => v.category).sum ≤ 8) (hdg : decode cc pc = .ok (.invokestatic index, 3))
    (kk : ∀ (H1 : Heap) (locs1 : List Loc), m_H G nx κ S' H1 → m_S G s H1 locs1 → W p l e R s m args below meth c H1 locs1 cells slots Q (F0 m (pc + 3) ls (.int v :: rest))) : W p l e R s m args below meth c H locs cells slots Q (F0 m pc ls st) := r_cSi X hH hS hM hw hl hst hrm hR hcs hsz hrest hdg kk
theorem n_cSl {v : Int64} {S' : m_M} (X : m_Cx p s m args meth c cc nL own G) (hH : m_H G nx κ S H) (hS : m_S G s H locs) (hM : m_Cl l y b n rt rm G nx κ As S (v, S')) (hw : m_CS y b n rt As.length) (hl : Cond.methodLink own index y ∈ m_gW)
    (hst : st = As.reverse ++ rest) (hrm : rm.cells = 0 ∧ rm.slots = 0) (hR : rm.frames + 1 ≤ R.frames ∧ 8 + (n + 11) + rm.locals ≤ R.locals) (hcs : cells ≤ R.cells ∧ slots ≤ R.slots) (hsz : ls.size = nL) (hrest : (rest.map fun v => v.category).sum ≤ 8) (hdg : decode cc pc = .ok (.invokestatic index, 3))
    (kk : ∀ (H1 : Heap) (locs1 : List Loc), m_H G nx κ S' H1 → m_S G s H1 locs1 → W p l e R s m args below meth c H1 locs1 cells slots Q (F0 m (pc + 3) ls (.long v :: rest))) : W p l e R s m args below meth c H locs cells slots Q (F0 m pc ls st) := r_cSl X hH hS hM hw hl hst hrm hR hcs hsz hrest hdg kk
/-! ends -/
theorem r_iret {v : Int32} {res : Int32 × m_M} (X : m_Cx p s m args meth c cc nL own G) (hr : meth.sig.returnType = some .int) (hH : m_H G nx κ S H) (hS : m_S G s H locs) (hm : some (v, S) = some res) (hdg : decode cc pc = .ok (.ireturn, 1)) : W p l e R s m args below meth c H locs 0 0 (m_Qi below args s G nx κ res) (F0 m pc ls [.int v]) := by
  cases Option.some.inj hm
  exact W.iret X.1.1 X.1.2.1 hr (fun t ht hW => ⟨⟨v, S, rfl, rfl, by rw [m_Wd, ht]; exact ⟨hH, va_K.moved hW.alike X.2.1⟩⟩, hS.F ht⟩) hS.2.2 hdg X.2.2.1
theorem m_nz {v : Int32} (h : v = 0 ∨ v = 1) : narrow .boolean (.int v) = .int v ∧ fits .boolean (.int v) = true := by rcases h with rfl | rfl <;> decide
theorem r_zret {v : Int32} {res : Int32 × m_M} (X : m_Cx p s m args meth c cc nL own G) (hr : meth.sig.returnType = some .boolean) (hH : m_H G nx κ S H) (hS : m_S G s H locs) (hm : (if v = 0 ∨ v = 1 then some (v, S) else none) = some res) (hdg : decode cc pc = .ok (.ireturn, 1)) : W p l e R s m args below meth c H locs 0 0 (m_Qi below args s G nx κ res) (F0 m pc ls [.int v]) := by
  by_cases hv : v = 0 ∨ v = 1
  · rw [if_pos hv] at hm
    cases Option.some.inj hm
    exact W.zret X.1.1 X.1.2.1 hr (m_nz hv).1 (fun t ht hW => ⟨⟨v, S, rfl, rfl, by rw [m_Wd, ht]; exact ⟨hH, va_K.moved hW.alike X.2.1⟩⟩, hS.F ht⟩) hS.2.2 hdg X.2.2.1
  · rw [if_neg hv] at hm; cases hm
theorem r_lret {v : Int64} {res : Int64 × m_M} (X : m_Cx p s m args meth c cc nL own G) (hr : meth.sig.returnType = some .long) (hH : m_H G nx κ S H) (hS : m_S G s H locs) (hm : some (v, S) = some res) (hdg : decode cc pc = .ok (.lreturn, 1)) : W p l e R s m args below meth c H locs 0 0 (m_Ql below args s G nx κ res) (F0 m pc ls [.long v]) := by
  cases Option.some.inj hm
  exact W.lret X.1.1 X.1.2.1 hr (fun t ht hW => ⟨⟨v, S, rfl, rfl, by rw [m_Wd, ht]; exact ⟨hH, va_K.moved hW.alike X.2.1⟩⟩, hS.F ht⟩) hS.2.2 hdg X.2.2.1
theorem r_vret {res : m_M} (X : m_Cx p s m args meth c cc nL own G) (hr : meth.sig.returnType = none) (hH : m_H G nx κ S H) (hS : m_S G s H locs) (hm : some S = some res) (hdg : decode cc pc = .ok (.return_, 1)) : W p l e R s m args below meth c H locs 0 0 (m_Qv below args s G nx κ res) (F0 m pc ls []) := by
  cases Option.some.inj hm
  exact W.vret X.1.1 X.1.2.1 hr (fun t ht hW => ⟨⟨S, rfl, rfl, by rw [m_Wd, ht]; exact ⟨hH, va_K.moved hW.alike X.2.1⟩⟩, hS.F ht⟩) hS.2.2 hdg X.2.2.1
end MCalls
/-! a contract out of a walk from the entry -/
theorem m_Cx.of {p : Program} {l : Launch} {y : MethodName} {b : ByteArray} {n : Nat} {rt : Option FieldType} {rm : Room} {e : Env} {s s₁ : State} {m : MethodId} {args : Array Value} {below : List Frame} {meth : Method} {c : Code} {G : m_G} {nx : Nat} {κ : Nat → Nat} {S : m_M} (B : BodyLoose p l y (headSpec (m_ws y b n rt) rm) b n rt e s m args below meth c s₁) (hml : c.maxLocals = n) (hW : m_Wd G nx κ S s) : m_Cx p s m args meth c b n y.cls G :=
  ⟨⟨B.exec, B.bytes, hml, findClass_of_methodNamed B.named, fun w h => atoms_spec (ws := m_ws y b n rt) B.pre w (List.mem_cons_of_mem _ h)⟩, hW.2, B.notSynchronized, by rw [hW.1.1]; exact hW.1.2.1.1⟩
section MOf
variable {l : Launch} {y : MethodName} {b : ByteArray} {n : Nat} {rt : Option FieldType} {rm : Room} {G : m_G} {nx : Nat} {κ : Nat → Nat} {av : List Value} {S : m_M}
theorem m_Ci.of {res : Int32 × m_M} (hy : plainName y.cls = true) (hn : (lg_sl av).length ≤ n)
    (body : ∀ (p : Program) (e : Env) (s : State) (m : MethodId) (args : Array Value) (below : List Frame) (meth : Method) (c : Code) (ls : Array Slot), m_Cx p s m args meth c b n y.cls G → meth.sig.returnType = rt → m_H G nx κ S s.heap → lv_has ls n (lv_args 0 av) → W p l e rm s m args below meth c s.heap [] 0 0 (m_Qi below args s G nx κ res) (F0 m 0 ls [])) : m_Ci l y b n rt rm G nx κ av S res := by
  refine Met.ofW (cc := b) (maxL := n) (ret := rt) hy rfl ?_
  intro p e s m args below meth c s₁ B hml hv
  obtain ⟨rfl, hW⟩ := hv
  have hl := lv_entry av (n := n) hn
  rw [lg_entry_eq]
  exact body p e s m _ below meth c _ (m_Cx.of B hml hW) B.returns hW.1 hl
theorem m_Cl.of {res : Int64 × m_M} (hy : plainName y.cls = true) (hn : (lg_sl av).length ≤ n)
    (body : ∀ (p : Program) (e : Env) (s : State) (m : MethodId) (args : Array Value) (below : List Frame) (meth : Method) (c : Code) (ls : Array Slot), m_Cx p s m args meth c b n y.cls G → meth.sig.returnType = rt → m_H G nx κ S s.heap → lv_has ls n (lv_args 0 av) → W p l e rm s m args below meth c s.heap [] 0 0 (m_Ql below args s G nx κ res) (F0 m 0 ls [])) : m_Cl l y b n rt rm G nx κ av S res := by
  refine Met.ofW (cc := b) (maxL := n) (ret := rt) hy rfl ?_
  intro p e s m args below meth c s₁ B hml hv
  obtain ⟨rfl, hW⟩ := hv
  have hl := lv_entry av (n := n) hn
  rw [lg_entry_eq]
  exact body p e s m _ below meth c _ (m_Cx.of B hml hW) B.returns hW.1 hl
theorem m_Cv.of {res : m_M} (hy : plainName y.cls = true) (hn : (lg_sl av).length ≤ n)
    (body : ∀ (p : Program) (e : Env) (s : State) (m : MethodId) (args : Array Value) (below : List Frame) (meth : Method) (c : Code) (ls : Array Slot), m_Cx p s m args meth c b n y.cls G → meth.sig.returnType = none → m_H G nx κ S s.heap → lv_has ls n (lv_args 0 av) → W p l e rm s m args below meth c s.heap [] 0 0 (m_Qv below args s G nx κ res) (F0 m 0 ls [])) : m_Cv l y b n rm G nx κ av S res := by
  refine Met.ofW (cc := b) (maxL := n) (ret := none) hy rfl ?_
  intro p e s m args below meth c s₁ B hml hv
  obtain ⟨rfl, hW⟩ := hv
  have hl := lv_entry av (n := n) hn
  rw [lg_entry_eq]
  exact body p e s m _ below meth c _ (m_Cx.of B hml hW) B.returns hW.1 hl
end MOf
/-! THE MODEL'S STEPS: none: the machine would throw -/
def m_ldi (S : m_M) (q n : Nat) (i : Int32) : Option Int32 := if i < 0 ∨ n ≤ i.toNatClampNeg then none else some (m_ri S q i.toNatClampNeg)
def m_ldj (S : m_M) (q n : Nat) (i : Int32) : Option Int64 := if i < 0 ∨ n ≤ i.toNatClampNeg then none else some (m_rj S q i.toNatClampNeg)
def m_ldr (S : m_M) (q n : Nat) (i : Int32) : Option (Option Nat) := if i < 0 ∨ n ≤ i.toNatClampNeg then none else some (m_rr S q i.toNatClampNeg)
def m_sti (S : m_M) (q n : Nat) (i x : Int32) : Option m_M := if i < 0 ∨ n ≤ i.toNatClampNeg then none else some (m_si S q i.toNatClampNeg x)
def m_stj (S : m_M) (q n : Nat) (i : Int32) (x : Int64) : Option m_M := if i < 0 ∨ n ≤ i.toNatClampNeg then none else some (m_sj S q i.toNatClampNeg x)
def m_str (S : m_M) (q n : Nat) (i : Int32) (x : Option Nat) : Option m_M := if i < 0 ∨ n ≤ i.toNatClampNeg then none else some (m_sr S q i.toNatClampNeg x)
theorem m_ldi_of {β : Type} {S : m_M} {q n : Nat} {i : Int32} {k : Int32 → Option β} {r : β} (h : (m_ldi S q n i).bind k = some r) : vp_in i n ∧ k (m_ri S q i.toNatClampNeg) = some r := by
  unfold m_ldi at h; split at h
  · cases h
  · exact ⟨by assumption, h⟩
theorem m_ldj_of {β : Type} {S : m_M} {q n : Nat} {i : Int32} {k : Int64 → Option β} {r : β} (h : (m_ldj S q n i).bind k = some r) : vp_in i n ∧ k (m_rj S q i.toNatClampNeg) = some r := by
  unfold m_ldj at h; split at h
  · cases h
  · exact ⟨by assumption, h⟩
theorem m_ldr_of {β : Type} {S : m_M} {q n : Nat} {i : Int32} {k : Option Nat → Option β} {r : β} (h : (m_ldr S q n i).bind k = some r) : vp_in i n ∧ k (m_rr S q i.toNatClampNeg) = some r := by
  unfold m_ldr at h; split at h
  · cases h
  · exact ⟨by assumption, h⟩
theorem m_sti_of {β : Type} {S : m_M} {q n : Nat} {i x : Int32} {k : m_M → Option β} {r : β} (h : (m_sti S q n i x).bind k = some r) : vp_in i n ∧ k (m_si S q i.toNatClampNeg x) = some r := by
  unfold m_sti at h; split at h
  · cases h
  · exact ⟨by assumption, h⟩
theorem m_stj_of {β : Type} {S : m_M} {q n : Nat} {i : Int32} {x : Int64} {k : m_M → Option β} {r : β} (h : (m_stj S q n i x).bind k = some r) : vp_in i n ∧ k (m_sj S q i.toNatClampNeg x) = some r := by
  unfold m_stj at h; split at h
  · cases h
  · exact ⟨by assumption, h⟩
theorem m_str_of {β : Type} {S : m_M} {q n : Nat} {i : Int32} {x : Option Nat} {k : m_M → Option β} {r : β} (h : (m_str S q n i x).bind k = some r) : vp_in i n ∧ k (m_sr S q i.toNatClampNeg x) = some r := by
  unfold m_str at h; split at h
  · cases h
  · exact ⟨by assumption, h⟩
theorem m_bind_of {α β : Type} {o : Option α} {k : α → Option β} {r : β} (h : o.bind k = some r) : ∃ a, o = some a ∧ k a = some r := by
  cases o with
  | none => cases h
  | some a => exact ⟨a, rfl, h⟩
theorem m_if_of {β : Type} {c : Prop} [Decidable c] {a : Option β} {r : β} (h : (if c then a else none) = some r) : c ∧ a = some r := by
  by_cases hc : c
  · rw [if_pos hc] at h; exact ⟨hc, h⟩
  · rw [if_neg hc] at h; cases h
theorem m_ifn_of {β : Type} {c : Prop} [Decidable c] {a : Option β} {r : β} (h : (if c then none else a) = some r) : ¬ c ∧ a = some r := by
  by_cases hc : c
  · rw [if_pos hc] at h; cases h
  · rw [if_neg hc] at h; exact ⟨hc, h⟩
theorem m_lay_at {κ : Nat → Nat} (h : m_Str κ) {a k i c : Nat} (hk : κ a = k) (hl : k < 14) (hi : (m_lay k)[i]? = some c) : κ (a + i) = c := h a k hk hl i c hi
def m_let {α β : Type} (a : α) (k : α → Option β) : Option β := k a
theorem m_let_of {α β : Type} {a : α} {k : α → Option β} {r : β} (h : m_let a k = some r) : ∃ z, a = z ∧ k z = some r := ⟨a, rfl, h⟩
def m_call {α β : Type} (o : Option (α × m_M)) (k : α → m_M → Option β) : Option β := o.bind fun r => k r.1 r.2
theorem m_call_of {α β : Type} {o : Option (α × m_M)} {k : α → m_M → Option β} {r : β} (h : m_call o k = some r) : ∃ v S, o = some (v, S) ∧ k v S = some r := by
  cases o with
  | none => cases h
  | some a => exact ⟨a.1, a.2, rfl, h⟩
def m_cal0 {β : Type} (o : Option m_M) (k : m_M → Option β) : Option β := o.bind k
theorem m_cal0_of {β : Type} {o : Option m_M} {k : m_M → Option β} {r : β} (h : m_cal0 o k = some r) : ∃ S, o = some S ∧ k S = some r := by
  cases o with
  | none => cases h
  | some a => exact ⟨a, rfl, h⟩
theorem m_ite_t {β : Type} {c : Prop} [Decidable c] {a b : Option β} {r : β} (h : (if c then a else b) = some r) (hc : c) : a = some r := by rw [if_pos hc] at h; exact h
theorem m_ite_f {β : Type} {c : Prop} [Decidable c] {a b : Option β} {r : β} (h : (if c then a else b) = some r) (hc : ¬ c) : b = some r := by rw [if_neg hc] at h; exact h
/-- the fuel of every loop -/
def m_fu : Nat := 100000
/-! the rows as the walks use them: what is read or written has a name -/
theorem n_ldi {β : Type} {S : m_M} {q n : Nat} {i : Int32} {k : Int32 → Option β} {r : β} (h : (m_ldi S q n i).bind k = some r) : ∃ v, vp_in i n ∧ m_ri S q i.toNatClampNeg = v ∧ k v = some r := ⟨_, (m_ldi_of h).1, rfl, (m_ldi_of h).2⟩
theorem n_ldj {β : Type} {S : m_M} {q n : Nat} {i : Int32} {k : Int64 → Option β} {r : β} (h : (m_ldj S q n i).bind k = some r) : ∃ v, vp_in i n ∧ m_rj S q i.toNatClampNeg = v ∧ k v = some r := ⟨_, (m_ldj_of h).1, rfl, (m_ldj_of h).2⟩
theorem n_ldr {β : Type} {S : m_M} {q n : Nat} {i : Int32} {k : Option Nat → Option β} {r : β} (h : (m_ldr S q n i).bind k = some r) : ∃ v, vp_in i n ∧ m_rr S q i.toNatClampNeg = v ∧ k v = some r := ⟨_, (m_ldr_of h).1, rfl, (m_ldr_of h).2⟩
theorem n_sti {β : Type} {S : m_M} {q n : Nat} {i x : Int32} {k : m_M → Option β} {r : β} (h : (m_sti S q n i x).bind k = some r) : ∃ S', vp_in i n ∧ m_si S q i.toNatClampNeg x = S' ∧ k S' = some r := ⟨_, (m_sti_of h).1, rfl, (m_sti_of h).2⟩
theorem n_stj {β : Type} {S : m_M} {q n : Nat} {i : Int32} {x : Int64} {k : m_M → Option β} {r : β} (h : (m_stj S q n i x).bind k = some r) : ∃ S', vp_in i n ∧ m_sj S q i.toNatClampNeg x = S' ∧ k S' = some r := ⟨_, (m_stj_of h).1, rfl, (m_stj_of h).2⟩
theorem n_str {β : Type} {S : m_M} {q n : Nat} {i : Int32} {x : Option Nat} {k : m_M → Option β} {r : β} (h : (m_str S q n i x).bind k = some r) : ∃ S', vp_in i n ∧ m_sr S q i.toNatClampNeg x = S' ∧ k S' = some r := ⟨_, (m_str_of h).1, rfl, (m_str_of h).2⟩
section NRows
variable {p : Program} {l : Launch} {e : Env} {R : Room} {s : State} {m : MethodId} {args : Array Value} {below : List Frame} {meth : Method} {c : Code} {H : Heap} {locs : List Loc} {cells slots : Nat} {Q : State → Prop}
variable {cc : ByteArray} {nL : Nat} {own : String} {pc : Nat} {ls : Array Slot} {rest : List Value} {G : m_G} {nx : Nat} {κ : Nat → Nat} {S S' : m_M}
theorem n_topi {x y : Int32} (h : x = y) (kk : W p l e R s m args below meth c H locs cells slots Q (F0 m pc ls (.int y :: rest))) : W p l e R s m args below meth c H locs cells slots Q (F0 m pc ls (.int x :: rest)) := by rw [h]; exact kk
theorem n_topl {x y : Int64} (h : x = y) (kk : W p l e R s m args below meth c H locs cells slots Q (F0 m pc ls (.long y :: rest))) : W p l e R s m args below meth c H locs cells slots Q (F0 m pc ls (.long x :: rest)) := by rw [h]; exact kk
theorem n_iald (X : m_Cx p s m args meth c cc nL own G) (hH : m_H G nx κ S H) {a n : Nat} {v : Int32} (hk : κ a = m_ac 1 n) {i : Int32} (hin : vp_in i n) (hv : m_ri S a i.toNatClampNeg = v) (hdg : decode cc pc = .ok (.iaload, 1))
    (kk : W p l e R s m args below meth c H locs cells slots Q (F0 m (pc + 1) ls (.int v :: rest))) : W p l e R s m args below meth c H locs cells slots Q (F0 m pc ls (.int i :: .ref a :: rest)) := r_iald X hH hk hin hdg (by rw [hv]; exact kk)
theorem n_bald (X : m_Cx p s m args meth c cc nL own G) (hH : m_H G nx κ S H) {a n : Nat} {v : Int32} (hk : κ a = m_ac 0 n) {i : Int32} (hin : vp_in i n) (hv : m_ri S a i.toNatClampNeg = v) (hdg : decode cc pc = .ok (.baload, 1))
    (kk : W p l e R s m args below meth c H locs cells slots Q (F0 m (pc + 1) ls (.int v :: rest))) : W p l e R s m args below meth c H locs cells slots Q (F0 m pc ls (.int i :: .ref a :: rest)) := r_bald X hH hk hin hdg (by rw [hv]; exact kk)
theorem n_zald (X : m_Cx p s m args meth c cc nL own G) (hH : m_H G nx κ S H) {a n : Nat} {v : Int32} (hk : κ a = m_ac 3 n) {i : Int32} (hin : vp_in i n) (hv : m_ri S a i.toNatClampNeg = v) (hdg : decode cc pc = .ok (.baload, 1))
    (kk : W p l e R s m args below meth c H locs cells slots Q (F0 m (pc + 1) ls (.int v :: rest))) : W p l e R s m args below meth c H locs cells slots Q (F0 m pc ls (.int i :: .ref a :: rest)) := r_zald X hH hk hin hdg (by rw [hv]; exact kk)
theorem n_lald (X : m_Cx p s m args meth c cc nL own G) (hH : m_H G nx κ S H) {a n : Nat} {v : Int64} (hk : κ a = m_ac 2 n) {i : Int32} (hin : vp_in i n) (hv : m_rj S a i.toNatClampNeg = v) (hdg : decode cc pc = .ok (.laload, 1))
    (kk : W p l e R s m args below meth c H locs cells slots Q (F0 m (pc + 1) ls (.long v :: rest))) : W p l e R s m args below meth c H locs cells slots Q (F0 m pc ls (.int i :: .ref a :: rest)) := r_lald X hH hk hin hdg (by rw [hv]; exact kk)
theorem n_iast (X : m_Cx p s m args meth c cc nL own G) (hH : m_H G nx κ S H) (hS0 : m_S G s H locs) {a n : Nat} (hk : κ a = m_ac 1 n) {i x : Int32} (hin : vp_in i n) (hv : m_si S a i.toNatClampNeg x = S') (hdg : decode cc pc = .ok (.iastore, 1))
    (kk : ∀ (H1 : Heap) (locs1 : List Loc), m_H G nx κ S' H1 → m_S G s H1 locs1 → W p l e R s m args below meth c H1 locs1 cells slots Q (F0 m (pc + 1) ls rest)) : W p l e R s m args below meth c H locs cells slots Q (F0 m pc ls (.int x :: .int i :: .ref a :: rest)) := r_iast X hH hS0 hk hin hdg (by rw [hv]; exact kk)
theorem n_bast (X : m_Cx p s m args meth c cc nL own G) (hH : m_H G nx κ S H) (hS0 : m_S G s H locs) {a n : Nat} (hk : κ a = m_ac 0 n) {i x : Int32} (hin : vp_in i n) (hv : m_si S a i.toNatClampNeg (vp_nar .byte x) = S') (hdg : decode cc pc = .ok (.bastore, 1))
    (kk : ∀ (H1 : Heap) (locs1 : List Loc), m_H G nx κ S' H1 → m_S G s H1 locs1 → W p l e R s m args below meth c H1 locs1 cells slots Q (F0 m (pc + 1) ls rest)) : W p l e R s m args below meth c H locs cells slots Q (F0 m pc ls (.int x :: .int i :: .ref a :: rest)) := r_bast X hH hS0 hk hin hdg (by rw [hv]; exact kk)
theorem n_zast (X : m_Cx p s m args meth c cc nL own G) (hH : m_H G nx κ S H) (hS0 : m_S G s H locs) {a n : Nat} (hk : κ a = m_ac 3 n) {i x : Int32} (hin : vp_in i n) (hv : m_si S a i.toNatClampNeg (vp_nar .boolean x) = S') (hdg : decode cc pc = .ok (.bastore, 1))
    (kk : ∀ (H1 : Heap) (locs1 : List Loc), m_H G nx κ S' H1 → m_S G s H1 locs1 → W p l e R s m args below meth c H1 locs1 cells slots Q (F0 m (pc + 1) ls rest)) : W p l e R s m args below meth c H locs cells slots Q (F0 m pc ls (.int x :: .int i :: .ref a :: rest)) := r_zast X hH hS0 hk hin hdg (by rw [hv]; exact kk)
theorem n_last (X : m_Cx p s m args meth c cc nL own G) (hH : m_H G nx κ S H) (hS0 : m_S G s H locs) {a n : Nat} (hk : κ a = m_ac 2 n) {i : Int32} {x : Int64} (hin : vp_in i n) (hv : m_sj S a i.toNatClampNeg x = S') (hdg : decode cc pc = .ok (.lastore, 1))
    (kk : ∀ (H1 : Heap) (locs1 : List Loc), m_H G nx κ S' H1 → m_S G s H1 locs1 → W p l e R s m args below meth c H1 locs1 cells slots Q (F0 m (pc + 1) ls rest)) : W p l e R s m args below meth c H locs cells slots Q (F0 m pc ls (.long x :: .int i :: .ref a :: rest)) := r_last X hH hS0 hk hin hdg (by rw [hv]; exact kk)
theorem n_puti (X : m_Cx p s m args meth c cc nL own G) (hH : m_H G nx κ S H) (hS0 : m_S G s H locs) {k a j index N : Nat} {C : String} {T : u_T} (ty0 : Nat → FieldType) {v : Int32} (hk : κ a = k + 1) (hkl : k < 13) (hc : vwCl[k]? = some (C, T, N)) (hin : ∀ w ∈ u_ws C T N, w ∈ m_gW) (hty : ∀ k, k < N → parseFieldDescriptor (T k).2.2.1 = some (ty0 k)) (hnm : ∀ a, a < N → ∀ b, b < N → a ≠ b → (T a).2.1 ≠ (T b).2.1)
    (hj : j < N) (hlink : Cond.fieldLink own index C (T j).2.1 (T j).2.2.1 ∈ m_gW) (hC : (T j).1 = C) (hfin : (T j).2.2.2 = false) (ht : ((m_tab k).getD j (0, 0, 0)).1 = 0) (hn : narrow (ty0 j) (.int v) = .int v ∧ fits (ty0 j) (.int v) = true) (hv : m_si S a j v = S')
    (hdg : decode cc pc = .ok (.putfield index, 3)) (kk : ∀ (H1 : Heap) (locs1 : List Loc), m_H G nx κ S' H1 → m_S G s H1 locs1 → W p l e R s m args below meth c H1 locs1 cells slots Q (F0 m (pc + 3) ls rest)) : W p l e R s m args below meth c H locs cells slots Q (F0 m pc ls (.int v :: .ref a :: rest)) :=
  r_puti X hH hS0 ty0 hk hkl hc hin hty hnm hj hlink hC hfin ht hn.1 hn.2 hdg (by rw [hv]; exact kk)
theorem n_putj (X : m_Cx p s m args meth c cc nL own G) (hH : m_H G nx κ S H) (hS0 : m_S G s H locs) {k a j index N : Nat} {C : String} {T : u_T} (ty0 : Nat → FieldType) {v : Int64} (hk : κ a = k + 1) (hkl : k < 13) (hc : vwCl[k]? = some (C, T, N)) (hin : ∀ w ∈ u_ws C T N, w ∈ m_gW) (hty : ∀ k, k < N → parseFieldDescriptor (T k).2.2.1 = some (ty0 k)) (hnm : ∀ a, a < N → ∀ b, b < N → a ≠ b → (T a).2.1 ≠ (T b).2.1)
    (hj : j < N) (hlink : Cond.fieldLink own index C (T j).2.1 (T j).2.2.1 ∈ m_gW) (hC : (T j).1 = C) (hfin : (T j).2.2.2 = false) (ht : ((m_tab k).getD j (0, 0, 0)).1 = 1) (hn : narrow (ty0 j) (.long v) = .long v ∧ fits (ty0 j) (.long v) = true) (hv : m_sj S a j v = S')
    (hdg : decode cc pc = .ok (.putfield index, 3)) (kk : ∀ (H1 : Heap) (locs1 : List Loc), m_H G nx κ S' H1 → m_S G s H1 locs1 → W p l e R s m args below meth c H1 locs1 cells slots Q (F0 m (pc + 3) ls rest)) : W p l e R s m args below meth c H locs cells slots Q (F0 m pc ls (.long v :: .ref a :: rest)) :=
  r_putj X hH hS0 ty0 hk hkl hc hin hty hnm hj hlink hC hfin ht hn.1 hn.2 hdg (by rw [hv]; exact kk)
end NRows
