section ZR2
variable {m : Nat → Nat → Int32} {W : Nat → Int32} {p b t : Nat} {c : Int32}
theorem readLine_12 (h : W 12 = c) : R12 c (q_readLine m W p b) := by
  have u8 : ∀ x, R12 c (Int32.ofNat 1, upd W 8 x, p, b) := fun x => R12.mk (u12 (by omega) h)
  have no : ∀ (v : Int32) (p b : Nat), R12 c (v, W, p, b) := fun v p b => R12.mk h
  unfold q_readLine
  refine cnd4 (R12 c) (fun _ => cnd4 (R12 c) (fun _ => cnd4 (R12 c) (fun _ => cnd4 (R12 c) (fun _ => cnd4 (R12 c) (fun _ => ?_) (fun _ => ?_)) (fun _ => ?_)) (fun _ => ?_)) (fun _ => ?_)) (fun _ => ?_)
  · refine cnd4 (R12 c) (fun _ => cnd4 (R12 c) (fun _ => u8 _) (fun _ => u8 _)) (fun _ => cnd4 (R12 c) (fun _ => cnd4 (R12 c) (fun _ => no _ _ _) (fun ht => ?_)) (fun _ => cnd4 (R12 c) (fun _ => u8 _) (fun _ => u8 _)))
    have hT := (termHere_k ht).2
    have r : ∀ lo hi, R12 c (q_readTo m W p (q_termHere m p b).toNatClampNeg lo hi) := fun lo hi => readTo_12 (by omega) h
    exact cnd4 (R12 c) (fun _ => R12.m2 (r _ _)) (fun _ => R12.m2 (r _ _))
  · have r : ∀ lo hi, R12 c (q_readTo m W p 0 lo hi) := fun lo hi => readTo_12 (by omega) h
    exact cnd4 (R12 c) (fun _ => no _ _ _) (fun _ => cnd4 (R12 c) (fun _ => R12.m2 (r _ _)) (fun _ => R12.m2 (r _ _)))
  · exact R12.eta (readTrust_12 h)
  · exact R12.eta (readLock_12 h)
  · exact R12.eta (readWordLine_12 h)
  · exact R12.eta (readThread_12 h)
end ZR2
