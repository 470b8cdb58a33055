/-! the fixture -/
section ZC
variable {p : Program} {l : Launch} {e : Env} {R : Room} {s : State} {m : MethodId} {args : Array Value} {below : List Frame} {meth : Method} {c : Code} {H : Heap} {locs : List Loc} {cells slots : Nat} {Q : State → Prop}
variable {cc : ByteArray} {pc : Nat} {ls : Array Slot} {rest : List Value} {a : Int}
theorem z_i2c (hx : p.tables.exec = Jvm.exec) (hb : c.code = cc) (d : decode cc pc = .ok (.i2c, 1)) (h : 0 ≤ a ∧ a < 65536) (k : W p l e R s m args below meth c H locs cells slots Q (F0 m (pc + 1) ls (.int (zI a) :: rest))) : W p l e R s m args below meth c H locs cells slots Q (F0 m pc ls (.int (zI a) :: rest)) := lv_i2c hx hb d (lg_i2c_word (by rw [zI_t ⟨by omega, by omega⟩]; omega) (by rw [zI_t ⟨by omega, by omega⟩]; omega)) k
end ZC
def ltrA (σ : St) (i : Int) : Int := if i < σ 27 0 ∧ i < 176 then σ 24 i else -1
/-- the sum of the forces of the first n probes -/
def sumF (σ : St) : Nat → Int
  | 0 => 0
  | n + 1 => sumF σ n + σ 6 (σ 20 n)
/-- the state when the first n nets looked at are sorted into probes and those left out -/
def tk (σ : St) : Nat → St
  | 0 => up (up σ 25 0 0) 26 0 0
  | n + 1 => if tk σ n 16 n = -1 then up (up (tk σ n) 21 (tk σ n 26 0) (tk σ n 10 n)) 26 0 (tk σ n 26 0 + 1) else up (up (tk σ n) 20 (tk σ n 25 0) (tk σ n 16 n)) 25 0 (tk σ n 25 0 + 1)
theorem tk_o (σ : St) (n g : Nat) (h : g ≠ 20 ∧ g ≠ 21 ∧ g ≠ 25 ∧ g ≠ 26) : tk σ n g = σ g := by
  induction n with
  | zero => unfold tk; rw [up_f _ _ _ h.2.2.2, up_f _ _ _ h.2.2.1]
  | succ n ih =>
    unfold tk
    split
    · rw [up_f _ _ _ h.2.2.2, up_f _ _ _ h.2.1, ih]
    · rw [up_f _ _ _ h.2.2.1, up_f _ _ _ h.1, ih]
theorem tk_bd (σ : St) (n : Nat) : 0 ≤ tk σ n 25 0 ∧ 0 ≤ tk σ n 26 0 ∧ tk σ n 25 0 + tk σ n 26 0 = n := by
  induction n with
  | zero => simp [tk, up]
  | succ n ih =>
    unfold tk
    split
    · simp only [up_s, up_o _ _ _ _ (show (25 : Nat) ≠ 26 by decide), up_o _ _ _ _ (show (25 : Nat) ≠ 21 by decide)]; omega
    · simp only [up_s, up_o _ _ _ _ (show (26 : Nat) ≠ 25 by decide), up_o _ _ _ _ (show (26 : Nat) ≠ 20 by decide)]; omega
/-- the place of the nearest, from the place i on, f of them -/
def pnF (σ : St) (x y : Int) : Nat → Int → Int → Int
  | 0, _, fd => fd
  | f + 1, i, fd => pnF σ x y f (i + 1) (if sqW σ (σ 22 i) x y < sqW σ (σ 22 fd) x y ∨ (sqW σ (σ 22 i) x y = sqW σ (σ 22 fd) x y ∧ σ 22 i < σ 22 fd) then i else fd)
theorem pnF_s (σ : St) (x y : Int) (f : Nat) (i fd : Int) : pnF σ x y (f + 1) i fd = pnF σ x y f (i + 1) (if sqW σ (σ 22 i) x y < sqW σ (σ 22 fd) x y ∨ (sqW σ (σ 22 i) x y = sqW σ (σ 22 fd) x y ∧ σ 22 i < σ 22 fd) then i else fd) := rfl
theorem pnF_bd (σ : St) (x y : Int) : ∀ (f : Nat) (i fd lo : Int), lo ≤ fd → fd < i → lo ≤ pnF σ x y f i fd ∧ pnF σ x y f i fd < i + f
  | 0, i, fd, lo, h1, h2 => by unfold pnF; omega
  | f + 1, i, fd, lo, h1, h2 => by
    unfold pnF
    split
    · have := pnF_bd σ x y f (i + 1) i lo (by omega) (by omega); omega
    · have := pnF_bd σ x y f (i + 1) fd lo (by omega) (by omega); omega
/-- a letter is written -/
def wl (σ : St) (ch : Int) : St := if σ 27 0 < 176 then up (up σ 24 (σ 27 0) ch) 27 0 (σ 27 0 + 1) else σ
theorem wl_o (σ : St) (ch : Int) (g : Nat) (h : g ≠ 24 ∧ g ≠ 27) : wl σ ch g = σ g := by
  unfold wl; split
  · rw [up_f _ _ _ h.2, up_f _ _ _ h.1]
  · rfl
theorem wl_bd {σ : St} (ch : Int) (h : 0 ≤ σ 27 0 ∧ σ 27 0 ≤ 176) : 0 ≤ wl σ ch 27 0 ∧ wl σ ch 27 0 ≤ 176 := by
  unfold wl; split
  · rw [up_s]; omega
  · exact h
def unF : Nat → Int → Int → Int
  | 0, u, _ => u
  | f + 1, u, r => if u * 10 ≤ r then unF f (u * 10) r else u
theorem unF_s (f : Nat) (u r : Int) : unF (f + 1) u r = if u * 10 ≤ r then unF f (u * 10) r else u := rfl
theorem unF_bd : ∀ (f : Nat) (u r : Int), 1 ≤ u → u ≤ 10000000 → r ≤ 10000000 → 1 ≤ unF f u r ∧ unF f u r ≤ 10000000
  | 0, u, r, h1, h2, h3 => ⟨h1, h2⟩
  | f + 1, u, r, h1, h2, h3 => by
    unfold unF; split
    · exact unF_bd f (u * 10) r (by omega) (by omega) h3
    · exact ⟨h1, h2⟩
def wnF : Nat → St → Int → Int → St
  | 0, σ, _, _ => σ
  | f + 1, σ, r, u => if 0 < u then wnF f (wl σ (48 + r / u % 10)) r (u / 10) else σ
theorem wnF_s (f : Nat) (σ : St) (r u : Int) : wnF (f + 1) σ r u = if 0 < u then wnF f (wl σ (48 + r / u % 10)) r (u / 10) else σ := rfl
def wn (σ : St) (z : Int) : St := wnF 7 (if z < 0 then wl σ 45 else σ) ((z.natAbs : Nat) : Int) (unF 6 1 ((z.natAbs : Nat) : Int))
theorem wnF_o : ∀ (f : Nat) (σ : St) (r u : Int) (g : Nat), g ≠ 24 ∧ g ≠ 27 → wnF f σ r u g = σ g
  | 0, σ, r, u, g, h => rfl
  | f + 1, σ, r, u, g, h => by
    unfold wnF; split
    · rw [wnF_o f _ r _ g h, wl_o _ _ _ h]
    · rfl
theorem wnF_bd : ∀ (f : Nat) (σ : St) (r u : Int), 0 ≤ σ 27 0 ∧ σ 27 0 ≤ 176 → 0 ≤ wnF f σ r u 27 0 ∧ wnF f σ r u 27 0 ≤ 176
  | 0, σ, r, u, h => h
  | f + 1, σ, r, u, h => by
    unfold wnF; split
    · exact wnF_bd f _ r _ (wl_bd _ h)
    · exact h
theorem wn_o (σ : St) (z : Int) (g : Nat) (h : g ≠ 24 ∧ g ≠ 27) : wn σ z g = σ g := by
  unfold wn; rw [wnF_o _ _ _ _ _ h]; split
  · exact wl_o _ _ _ h
  · rfl
theorem wn_bd {σ : St} (z : Int) (h : 0 ≤ σ 27 0 ∧ σ 27 0 ≤ 176) : 0 ≤ wn σ z 27 0 ∧ wn σ z 27 0 ≤ 176 := by
  unfold wn; apply wnF_bd; split
  · exact wl_bd _ h
  · exact h
/-- a line of the text -/
def wLine (σ : St) (q : Int) : St := wl (wn (wl (wn (wl (wn (wl σ 112) q) 32) (σ 3 q)) 32) (σ 4 q)) 10
theorem wLine_o (σ : St) (q : Int) (g : Nat) (h : g ≠ 24 ∧ g ≠ 27) : wLine σ q g = σ g := by
  unfold wLine; rw [wl_o _ _ _ h, wn_o _ _ _ h, wl_o _ _ _ h, wn_o _ _ _ h, wl_o _ _ _ h, wn_o _ _ _ h, wl_o _ _ _ h]
theorem wLine_bd {σ : St} (q : Int) (h : 0 ≤ σ 27 0 ∧ σ 27 0 ≤ 176) : 0 ≤ wLine σ q 27 0 ∧ wLine σ q 27 0 ≤ 176 := by
  unfold wLine; exact wl_bd _ (wn_bd _ (wl_bd _ (wn_bd _ (wl_bd _ (wn_bd _ (wl_bd _ h))))))
/-- the text of the first n of the sorted -/
def wtF (σ : St) : Nat → St
  | 0 => up σ 27 0 0
  | n + 1 => wLine (wtF σ n) (wtF σ n 23 n)
theorem wtF_o (σ : St) (n g : Nat) (h : g ≠ 24 ∧ g ≠ 27) : wtF σ n g = σ g := by
  induction n with
  | zero => exact up_f _ _ _ h.2
  | succ n ih => unfold wtF; rw [wLine_o _ _ _ h, ih]
theorem wtF_bd (σ : St) (n : Nat) : 0 ≤ wtF σ n 27 0 ∧ wtF σ n 27 0 ≤ 176 := by
  induction n with
  | zero => unfold wtF; rw [up_s]; omega
  | succ n ih => unfold wtF; exact wLine_bd _ ih
