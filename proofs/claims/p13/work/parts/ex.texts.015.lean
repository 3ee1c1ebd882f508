section ZR0
variable {m : Nat → Nat → Int32} {W : Nat → Int32} {p b t : Nat} {c : Int32}
theorem readLine_10 (h : W 10 = c) : R10 c (q_readLine m W p b) := by
  have u8 : ∀ x, R10 c (Int32.ofNat 1, upd W 8 x, p, b) := fun x => R10.mk (u10 (by omega) h)
  have no : ∀ (v : Int32) (p b : Nat), R10 c (v, W, p, b) := fun v p b => R10.mk h
  unfold q_readLine
  refine cnd4 (R10 c) (fun _ => cnd4 (R10 c) (fun _ => cnd4 (R10 c) (fun _ => cnd4 (R10 c) (fun _ => cnd4 (R10 c) (fun _ => ?_) (fun _ => ?_)) (fun _ => ?_)) (fun _ => ?_)) (fun _ => ?_)) (fun _ => ?_)
  · refine cnd4 (R10 c) (fun _ => cnd4 (R10 c) (fun _ => u8 _) (fun _ => u8 _)) (fun _ => cnd4 (R10 c) (fun _ => cnd4 (R10 c) (fun _ => no _ _ _) (fun ht => ?_)) (fun _ => cnd4 (R10 c) (fun _ => u8 _) (fun _ => u8 _)))
    have hT := (termHere_k ht).2
    have r : ∀ lo hi, R10 c (q_readTo m W p (q_termHere m p b).toNatClampNeg lo hi) := fun lo hi => readTo_10 (by omega) h
    exact cnd4 (R10 c) (fun _ => R10.m2 (r _ _)) (fun _ => R10.m2 (r _ _))
  · have r : ∀ lo hi, R10 c (q_readTo m W p 0 lo hi) := fun lo hi => readTo_10 (by omega) h
    exact cnd4 (R10 c) (fun _ => no _ _ _) (fun _ => cnd4 (R10 c) (fun _ => R10.m2 (r _ _)) (fun _ => R10.m2 (r _ _)))
  · exact R10.eta (readTrust_10 h)
  · exact R10.eta (readLock_10 h)
  · exact R10.eta (readWordLine_10 h)
  · exact R10.eta (readThread_10 h)
end ZR0
