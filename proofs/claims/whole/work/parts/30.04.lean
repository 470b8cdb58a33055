theorem k_S_descend {l : Launch} {D : va_G} {ad : Nat → Nat} {ca : Nat → ClassId} : ∀ (f : Nat) (σ : St) (d w bl : Int) (hd : 0 ≤ d ∧ d ≤ σ 17 0) (hw0 : 0 ≤ w ∧ w ≤ sDep d) (hbl : 0 ≤ bl ∧ bl < 16777216) (hS : IS σ) (h18 : -1 ≤ σ 18 0 ∧ σ 18 0 ≤ 64000008) (hf : σ 17 0 = d + f), Cw l D cl7 (tyX ca) (wX ad ca) y_S_descend c_S_descend 6 none (4 + f) [.ref (ad 105), .int (zI d), .long (zL w), .int (zI bl)] σ (VW (fun τ => ds f σ d w bl = τ ∧ Dk σ τ)) := by
  intro f
  induction f with
  | zero => intro σ d w bl hd hw0 hbl hS h18 hf; exact k_S_descend_z σ d w bl hd hw0 hbl hS h18 (by omega)
  | succ f ih => intro σ d w bl hd hw0 hbl hS h18 hf; exact k_S_descend_s f ih σ d w bl hd hw0 hbl hS h18 (by omega)
