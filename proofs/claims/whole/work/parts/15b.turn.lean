/-! a turn changes no answer -/
theorem opC_trn {v : St} {k : Nat} : ∀ n, opC (trn v) k n = opC v k n
  | 0 => rfl
  | n + 1 => by rw [opC, opC, opC_trn n]
theorem unC_trn {v : St} {k : Nat} {a : Int32} : ∀ n, unC (trn v) k a n = unC v k a n
  | 0 => rfl
  | n + 1 => by rw [unC, unC, unC_trn n]
theorem onC_trn {v : St} {x a : Int32} : ∀ n, onC (trn v) x a n = onC v x a n
  | 0 => rfl
  | n + 1 => by rw [onC, onC, onC_trn n, unC_trn]; rfl
theorem anF_trn {v : St} {k j n : Nat} {a : Int32} : anF (trn v) k j n a = anF v k j n a := by
  unfold anF
  rw [onC_trn, opC_trn]
  rfl
