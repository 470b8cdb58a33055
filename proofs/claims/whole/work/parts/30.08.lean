theorem k_R_explain {l : Launch} {D : va_G} {ad : Nat → Nat} {ca : Nat → ClassId} : ∀ (f : Nat) (σ : St) (n t : Int) (hn : 0 ≤ n ∧ n ≤ 12) (ht : 0 ≤ t ∧ t < 4096) (hO : ∀ i, 0 ≤ σ 40 i ∧ σ 40 i < 4096) (h42 : 0 ≤ σ 42 0 ∧ σ 42 0 ≤ 13) (h41 : 0 ≤ σ 41 0 ∧ σ 41 0 < 4096) (hf : n + f = 12), Cw l D cl7 (tyX ca) (wX ad ca) y_R_explain c_R_explain 4 none (2 + f) [.ref (ad 104), .int (zI n), .int (zI t)] σ (VW (fun τ => ex f σ n t = τ ∧ Ek σ τ)) := by
  intro f
  induction f with
  | zero => intro σ n t hn ht hO h42 h41 hf; exact k_R_explain_z σ n t hn ht hO h42 h41 (by omega)
  | succ f ih => intro σ n t hn ht hO h42 h41 hf; exact k_R_explain_s f ih σ n t hn ht hO h42 h41 (by omega)
