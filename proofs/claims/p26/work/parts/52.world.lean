/-! THE CLASS'S WORLD: the gate, its record, its lists, their arrays and objects, each in a place (kind, number) with an address; what lies there follows from the state x and what is the class's own (w) -/
abbrev c_B : Type := Nat → Nat → Nat
/-- w.1 0: label bits; w.1 1: settled; w.1 2: heldSince; w.1 3: modCount of a list; w.1 4 0: openCount; w.1 5 0: lastSeal; w.2.1: how long a list's array is; w.2.2: what it holds -/
abbrev c_W : Type := (Nat → Nat → Int32) × (Nat → Nat) × (Nat → Nat → Option Nat)
def cI (i : Nat) : Nat := match i with
  | 0 => 2
  | 1 => 4
  | 2 => 17
  | 3 => 22
  | 4 => 10
  | _ => 29
/-- the classes of the lists' objects -/
def cK (i : Nat) : Nat := match i with
  | 0 => 4
  | 1 => 3
  | 2 => 1
  | 3 => 2
  | 4 => 5
  | _ => 6
def ce (G : mw_G) (b : c_B) (x : s_T) (w : c_W) (s k : Nat) : va_E := match s with
  | 0 => .inr (8, [.ref (b 4 0), .ref (b 4 1), .ref (b 4 2), .ref (b 4 3), .ref (b 4 4), .ref (b 4 5), .ref (b 1 0), .int (w.1 4 0), .int (nI (ct x 5))])
  | 1 => .inr (7, [.ref (b 2 0), .ref (b 3 0), .int (nI (ct x 32)), .int (w.1 5 0)])
  | 2 => .inl (G.2.1 0, 1024, .inl (cg x 30))
  | 3 => .inl (G.2.1 0, 1024, .inl (cg x 31))
  | 4 => .inr (0, [.int (w.1 3 k), .ref (if w.2.1 k = 0 then G.2.2 else b 5 k), .int (nI (ct x (cI k)))])
  | 5 => .inl (G.2.1 2, w.2.1 k, .inr (.inr (.inr (.inr (w.2.2 k)))))
  | 6 => .inr (4, [.int (nI k), .int (cg x 0 k), .int (w.1 0 k)])
  | 7 => .inr (3, [.int (nI k), .int (cg x 3 k)])
  | 8 => .inr (1, [.ref (b 6 (pn (cg x 11 k))), .ref (b 7 (pn (cg x 12 k))), .int (cg x 13 k), .int (cg x 14 k), va_rf (if cg x 16 k = -1 then none else some (b 6 (pn (cg x 16 k)))), .int (w.1 1 k)])
  | 9 => .inr (2, [.ref (b 6 (pn (cg x 18 k))), .ref (b 7 (pn (cg x 19 k))), .int (cg x 20 k), .int (cg x 21 k)])
  | 10 => .inr (5, [.ref (b 6 (pn (cg x 6 k))), .ref (b 7 (pn (cg x 7 k))), .int (cg x 8 k), .int (cg x 9 k)])
  | _ => .inr (6, [.ref (b 6 (pn (cg x 23 k))), .ref (b 7 (pn (cg x 24 k))), .int (bI (decide (cg x 25 k = 0))), .int (cg x 26 k), .int (w.1 2 k), .int (cg x 28 k)])
/-- the places that there are -/
def cl (x : s_T) (w : c_W) (s k : Nat) : Prop := match s with
  | 0 => k = 0
  | 1 => k = 0
  | 2 => k = 0
  | 3 => k = 0
  | 4 => k < 6
  | 5 => k < 6 ∧ w.2.1 k ≠ 0
  | 6 => k < ct x 2
  | 7 => k < ct x 4
  | 8 => k < ct x 17
  | 9 => k < ct x 22
  | 10 => k < ct x 10
  | 11 => k < ct x 29
  | _ => False
def CA (G : mw_G) (b : c_B) (x : s_T) (w : c_W) (M : mw_M) : Prop :=
  (∀ s k, cl x w s k → M (b s k) = some (ce G b x w s k)) ∧ ∀ s k s' k', cl x w s k → cl x w s' k' → b s k = b s' k' → s = s' ∧ k = k'
/-- a person's label, out of its bits -/
def c_bit (v : Int32) (t : Nat) : Int32 := (v >>> (nI t &&& 31)) &&& 1
/-- an ask's state as of the minute T -/
def c_lap (T : Nat) (st tm : Int32) : Int32 := if st = 0 ∧ 60 ≤ nI T - tm then 3 else st
def c_ok (T : Nat) (b : c_B) (x : s_T) (w : c_W) : Prop :=
  (∀ k, k < ct x 2 → ∀ t, t < 4 → c_bit (w.1 0 k) t = cg x 1 (4 * k + t)) ∧
  (∀ k, k < ct x 17 → cg x 15 k = c_lap T (w.1 1 k) (cg x 14 k)) ∧
  (∀ k, k < ct x 29 → cg x 25 k ≠ 0 → w.1 2 k = cg x 27 k) ∧
  (∀ i, i < 6 → ct x (cI i) ≤ w.2.1 i ∧ w.2.1 i ≤ 800 ∧ (w.2.1 i ≠ 0 → 10 ≤ w.2.1 i) ∧ ∀ k, k < ct x (cI i) → w.2.2 i k = some (b (6 + i) k)) ∧
  w.1 4 0 = nI (q_opn x (ct x 29)) ∧ w.1 5 0 = q_last x
/-- the class's world at the state x -/
def CW (G : mw_G) (T : Nat) (b : c_B) (x : s_T) (M : mw_M) : Prop := ∃ w : c_W, CA G b x w M ∧ c_ok T b x w
section CWs
variable {G : mw_G} {b : c_B} {x x' : s_T} {w w' : c_W} {M M1 : mw_M} {T : Nat}
theorem CA.ne (h : CA G b x w M) {s k s' k' : Nat} (h1 : cl x w s k) (h2 : cl x w s' k') (hn : s ≠ s' ∨ k ≠ k') : b s k ≠ b s' k' := fun z => by
  obtain ⟨e1, e2⟩ := h.2 s k s' k' h1 h2 z
  rcases hn with hn | hn
  · exact hn e1
  · exact hn e2
/-- a write at one place -/
theorem CA.upd (h : CA G b x w M) {s0 k0 : Nat} {e : va_E} (hl : cl x w s0 k0) (hcl : ∀ s k, cl x' w' s k → cl x w s k) (he : ce G b x' w' s0 k0 = e) (hr : ∀ s k, cl x w s k → (s ≠ s0 ∨ k ≠ k0) → ce G b x' w' s k = ce G b x w s k) : CA G b x' w' (va_up M (b s0 k0) (some e)) := by
  refine ⟨fun s k hs => ?_, fun s k s' k' h1 h2 => h.2 s k s' k' (hcl s k h1) (hcl s' k' h2)⟩
  by_cases hq : s = s0 ∧ k = k0
  · obtain ⟨rfl, rfl⟩ := hq
    rw [va_up_self, he]
  · have hn : s ≠ s0 ∨ k ≠ k0 := by
      by_cases h1 : s = s0
      · exact Or.inr (fun z => hq ⟨h1, z⟩)
      · exact Or.inl h1
    rw [va_up_ne _ _ (h.ne (hcl s k hs) hl hn), h.1 s k (hcl s k hs), hr s k (hcl s k hs) hn]
/-- what isn't among its cells may come or change -/
theorem CA.off (h : CA G b x w M) {a : Nat} {e : Option va_E} (ha : M a = none) : CA G b x w (va_up M a e) :=
  ⟨fun s k hs => (va_up_ne _ _ (mw_old (h.1 s k hs) ha)).trans (h.1 s k hs), h.2⟩
theorem CA.eqv (h : CA G b x w M) (hcl : ∀ s k, cl x' w' s k → cl x w s k) (hr : ∀ s k, cl x w s k → ce G b x' w' s k = ce G b x w s k) : CA G b x' w' M :=
  ⟨fun s k hs => (h.1 s k (hcl s k hs)).trans (by rw [hr s k (hcl s k hs)]), fun s k s' k' h1 h2 => h.2 s k s' k' (hcl s k h1) (hcl s' k' h2)⟩
/-- the list i and its array -/
theorem CA.list (h : CA G b x w M) (ho : c_ok T b x w) {i : Nat} (hi : i < 6) (hx : ct x (cI i) ≠ 0) : M (b 4 i) = some (.inr (0, [.int (w.1 3 i), .ref (b 5 i), .int (nI (ct x (cI i)))])) ∧ M (b 5 i) = some (.inl (G.2.1 2, w.2.1 i, .inr (.inr (.inr (.inr (w.2.2 i)))))) := by
  have h1 := h.1 4 i hi
  obtain ⟨o1, -⟩ := ho.2.2.2.1 i hi
  have hz : w.2.1 i ≠ 0 := by omega
  refine ⟨?_, h.1 5 i ⟨hi, hz⟩⟩
  rw [h1]
  show some (Sum.inr (0, [Value.int (w.1 3 i), .ref (if w.2.1 i = 0 then G.2.2 else b 5 i), .int (nI (ct x (cI i)))])) = _
  rw [if_neg hz]
theorem CA.sto (h : CA G b x w M) (ho : c_ok T b x w) {i : Nat} (hi : i < 6) : ((if w.2.1 i = 0 then G.2.2 else b 5 i) = G.2.2 ∧ ct x (cI i) = 0 ∧ w.2.1 i = 0) ∨ (10 ≤ w.2.1 i ∧ ct x (cI i) ≤ w.2.1 i ∧ M (if w.2.1 i = 0 then G.2.2 else b 5 i) = some (.inl (G.2.1 2, w.2.1 i, .inr (.inr (.inr (.inr (w.2.2 i))))))) := by
  obtain ⟨o1, o2, o3, o4⟩ := ho.2.2.2.1 i hi
  by_cases hz : w.2.1 i = 0
  · exact Or.inl ⟨if_pos hz, by omega, hz⟩
  · refine Or.inr ⟨o3 hz, o1, ?_⟩
    rw [if_neg hz]
    exact h.1 5 i ⟨hi, hz⟩
end CWs
/-! cases of a place -/
theorem cl_cases {x : s_T} {w : c_W} {P : Nat → Nat → Prop} (h0 : P 0 0) (h1 : P 1 0) (h2 : P 2 0) (h3 : P 3 0) (h4 : ∀ k, k < 6 → P 4 k) (h5 : ∀ k, k < 6 → w.2.1 k ≠ 0 → P 5 k) (h6 : ∀ k, k < ct x 2 → P 6 k) (h7 : ∀ k, k < ct x 4 → P 7 k) (h8 : ∀ k, k < ct x 17 → P 8 k) (h9 : ∀ k, k < ct x 22 → P 9 k) (h10 : ∀ k, k < ct x 10 → P 10 k) (h11 : ∀ k, k < ct x 29 → P 11 k) : ∀ s k, cl x w s k → P s k := by
  intro s k h
  match s, h with
  | 0, h => cases (show k = 0 from h); exact h0
  | 1, h => cases (show k = 0 from h); exact h1
  | 2, h => cases (show k = 0 from h); exact h2
  | 3, h => cases (show k = 0 from h); exact h3
  | 4, h => exact h4 k h
  | 5, h => exact h5 k h.1 h.2
  | 6, h => exact h6 k h
  | 7, h => exact h7 k h
  | 8, h => exact h8 k h
  | 9, h => exact h9 k h
  | 10, h => exact h10 k h
  | 11, h => exact h11 k h
  | _ + 12, h => exact h.elim
